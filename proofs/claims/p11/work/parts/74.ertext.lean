/-! ===== texts: the reference ===== -/
section OV
variable {r : Nat → Int32} {n : Nat} {a b c d e f g h v : Int32}
theorem put1_x {i : Nat} {q : Nat → Int32} (h1 : q i = v) (h2 : ∀ j, ¬ j = i → r j = q j) : put1 r i v = q := by
  funext j
  by_cases h : j = i
  · subst h; rw [put1_s, h1]
  · rw [put1_o h]; exact h2 j h
theorem joinR_u2 : put1 (joinR r n a b c d e f g) (62 + 7 * n + 2) v = joinR r n a b v d e f g := put1_x joinR_at.2.2.1 fun j h => by unfold joinR put1; simp only [if_neg h]
theorem joinR_u3 : put1 (joinR r n a b c d e f g) (62 + 7 * n + (3 + 0)) v = joinR r n a b c v e f g := put1_x joinR_at.2.2.2.1 fun j h => by unfold joinR put1; simp only [if_neg h]
theorem joinR_u4 : put1 (joinR r n a b c d e f g) (62 + 7 * n + (3 + 1)) v = joinR r n a b c d v f g := put1_x joinR_at.2.2.2.2.1 fun j h => by unfold joinR put1; simp only [if_neg h]
theorem joinR_u5 : put1 (joinR r n a b c d e f g) (62 + 7 * n + (3 + 2)) v = joinR r n a b c d e v g := put1_x joinR_at.2.2.2.2.2.1 fun j h => by unfold joinR put1; simp only [if_neg h]
theorem joinR_u6 : put1 (joinR r n a b c d e f g) (62 + 7 * n + (3 + 3)) v = joinR r n a b c d e f v := put1_x joinR_at.2.2.2.2.2.2.1 fun j h => by unfold joinR put1; simp only [if_neg h]
theorem addR_u2 : put1 (addR r n a b c d e f) (14 + 6 * n + 2) v = addR r n a b v d e f := put1_x addR_at.2.2.1 fun j h => by unfold addR put1; simp only [if_neg h]
theorem addR_u3 : put1 (addR r n a b c d e f) (14 + 6 * n + 3) v = addR r n a b c v e f := put1_x addR_at.2.2.2.1 fun j h => by unfold addR put1; simp only [if_neg h]
theorem addR_u4 : put1 (addR r n a b c d e f) (14 + 6 * n + 4) v = addR r n a b c d v f := put1_x addR_at.2.2.2.2.1 fun j h => by unfold addR put1; simp only [if_neg h]
theorem addR_u5 : put1 (addR r n a b c d e f) (14 + 6 * n + 5) v = addR r n a b c d e v := put1_x addR_at.2.2.2.2.2.1 fun j h => by unfold addR put1; simp only [if_neg h]
end OV
abbrev S3 := Nat × Nat × (Nat → Int32)
def apR (S : S3) (it : Nat → Int32) : S3 :=
  if it 0 = nI 10 then (S.1 + 1, S.2.1, addR S.2.2 S.1 (it 1) (it 2) (it 3) (it 4) (it 5) (it 6)) else (S.1, S.2.1 + 1, joinR S.2.2 S.2.1 (it 0) (it 1) (it 2) (it 3) (it 4) (it 5) (it 6))
def cS (I : Nat → Nat → Int32) (S : S3) (k : Nat) : S3 := fo (fun k S => apR S (I k)) k S
def upI (I : Nat → Nat → Int32) (m : Nat) (it : Nat → Int32) : Nat → Nat → Int32 := fun k => if k = m then it else I k
abbrev goC (T : Nat → Nat) (q : PS) : Prop := q.2.2.2.2 = false ∧ q.2.2.1 = 3 ∧ T q.1 = 59
/-- the items read, behind one that left it so -/
noncomputable def pI2 (T : Nat → Nat) (c : Nat) : Nat → PS → Nat → Nat → Nat → (Nat → Nat → Int32) → Nat × (Nat → Nat → Int32) × PS
  | 0, q, _, _, m, I => (m, I, q)
  | f + 1, q, tn, pn, m, I => if goC T q then pI2 T c f (pItem T c (pMu T c q (nI 1)) tn pn).2.2.2 (pItem T c (pMu T c q (nI 1)) tn pn).2.1 (pItem T c (pMu T c q (nI 1)) tn pn).2.2.1 (m + 1) (upI I m (pItem T c (pMu T c q (nI 1)) tn pn).1) else (m, I, q)
noncomputable def it0 (T : Nat → Nat) (c nt np : Nat) : (Nat → Int32) × Nat × Nat × PS := pItem T c (pNx T c 0) nt np
noncomputable def pTx (T : Nat → Nat) (c nt np : Nat) : Nat × (Nat → Nat → Int32) × PS := pI2 T c 16 (it0 T c nt np).2.2.2 (it0 T c nt np).2.1 (it0 T c nt np).2.2.1 1 (upI (fun _ _ => 0) 0 (it0 T c nt np).1)
/-- what a text answers, and the town behind it -/
def fTx (nt np : Nat) (r : Nat → Int32) (R : Nat × (Nat → Nat → Int32) × PS) : Sq4 :=
  if R.2.2.2.2.2.2 = true ∨ ¬ R.2.2.2.2.1 = 0 then (-1 - nI R.2.2.1, nt, np, r) else (nI R.1, cS R.2.1 (nt, np, r) R.1)
section VI
variable {T : Nat → Nat} {c nt np : Nat} {r : Nat → Int32} {I : Nat → Nat → Int32} {m tn pn : Nat} {q : PS}
theorem pI2_e {f : Nat} (h : ¬ goC T q) : pI2 T c f q tn pn m I = (m, I, q) := by
  cases f with
  | zero => rfl
  | succ f => exact if_neg h
theorem pI2_g {f : Nat} (h : goC T q) : pI2 T c (f + 1) q tn pn m I = pI2 T c f (pItem T c (pMu T c q (nI 1)) tn pn).2.2.2 (pItem T c (pMu T c q (nI 1)) tn pn).2.1 (pItem T c (pMu T c q (nI 1)) tn pn).2.2.1 (m + 1) (upI I m (pItem T c (pMu T c q (nI 1)) tn pn).1) := if_pos h
theorem cS_u {it : Nat → Int32} {S : S3} : ∀ k, k ≤ m → cS (upI I m it) S k = cS I S k := fun k hk => fo_c k S fun j x hj => by
  show apR x (upI I m it j) = apR x (I j)
  rw [show upI I m it j = I j from if_neg (by omega)]
theorem upI_s {it : Nat → Int32} : upI I m it m = it := if_pos rfl
theorem upI_o {it : Nat → Int32} {k : Nat} (h : k < m) : upI I m it k = I k := if_neg (by omega)
/-- so far all is sound -/
def Vi (nt np : Nat) (r : Nat → Int32) (I : Nat → Nat → Int32) (m tn pn : Nat) (q : PS) : Prop := q.2.2.2.2 = false → (cS I (nt, np, r) m).1 = tn ∧ (cS I (nt, np, r) m).2.1 = pn ∧ Gd tn pn (cS I (nt, np, r) m).2.2 ∧ tn + pn = nt + np + m ∧ ∀ k, k < m → OkI (cS I (nt, np, r) k).1 (cS I (nt, np, r) k).2.1 (I k)
theorem apR_gd {S : S3} {it : Nat → Int32} (h : Gd S.1 S.2.1 S.2.2) (g : OkI S.1 S.2.1 it) : Gd (apR S it).1 (apR S it).2.1 (apR S it).2.2 := by
  rcases g with ⟨k, hk, e, p8, g1, g2, g3, g4, g5, g6⟩ | ⟨e, t8, g1, g2, g3, g4, g5, g6⟩
  · have hn : ¬ it 0 = nI 10 := fun z => by have := jI_inj (by omega) (by decide) (e.symm.trans z); omega
    rw [show apR S it = (S.1, S.2.1 + 1, joinR S.2.2 S.2.1 (it 0) (it 1) (it 2) (it 3) (it 4) (it 5) (it 6)) from if_neg hn]
    exact h.join p8 ⟨k, by omega, e⟩ g1 g2 g3 g4 g5 g6
  · rw [show apR S it = (S.1 + 1, S.2.1, addR S.2.2 S.1 (it 1) (it 2) (it 3) (it 4) (it 5) (it 6)) from if_pos e]
    exact h.add t8 g1 g2 g3 g4 g5 g6
theorem pItem_n : (pItem T c q tn pn).2.1 + (pItem T c q tn pn).2.2.1 = tn + pn + 1 := by
  unfold pItem
  split <;> (dsimp only; omega)
theorem pItem_ap (h : Pk c q) (ht : tn ≤ 8) (hp : pn ≤ 8) (g : (pItem T c q tn pn).2.2.2.2.2.2.2 = false) (S : S3) (h1 : S.1 = tn) (h2 : S.2.1 = pn) : (apR S (pItem T c q tn pn).1).1 = (pItem T c q tn pn).2.1 ∧ (apR S (pItem T c q tn pn).1).2.1 = (pItem T c q tn pn).2.2.1 := by
  by_cases e : pKd T q 7 < 0
  · rw [show pItem T c q tn pn = ((pThg T c q tn pn).1, tn + 1, pn, (pThg T c q tn pn).2) from if_pos e]
    rw [show apR S (pThg T c q tn pn).1 = _ from if_pos rfl]
    exact ⟨by rw [← h1], h2⟩
  · obtain ⟨k, hk, ek, -⟩ := pKd_nn e
    rw [show pItem T c q tn pn = ((pPer T c q (pKd T q 7) pn).1, tn, pn + 1, (pPer T c q (pKd T q 7) pn).2) from if_neg e]
    have e0 : (pPer T c q (pKd T q 7) pn).1 0 = pKd T q 7 := by
      unfold pPer
      split <;> rfl
    have hn : ¬ (pPer T c q (pKd T q 7) pn).1 0 = nI 10 := fun z => by have := jI_inj (by omega) (by decide) (ek.symm.trans (e0.symm.trans z)); omega
    rw [show apR S (pPer T c q (pKd T q 7) pn).1 = _ from if_neg hn]
    exact ⟨h1, by rw [← h2]⟩
theorem Vi.step {q1 : PS} (h : Vi nt np r I m tn pn q) (hw : q.2.2.2.2 = false) (hp : Pk c q1) : Vi nt np r (upI I m (pItem T c q1 tn pn).1) (m + 1) (pItem T c q1 tn pn).2.1 (pItem T c q1 tn pn).2.2.1 (pItem T c q1 tn pn).2.2.2 := by
  intro g
  obtain ⟨h1, h2, h3, h4, h5⟩ := h hw
  have ok := pItem_ok hp h3.2.2.1.1 h3.2.2.1.2.1 g
  obtain ⟨a1, a2⟩ := pItem_ap hp h3.2.2.1.1 h3.2.2.1.2.1 g (cS I (nt, np, r) m) h1 h2
  have e : cS (upI I m (pItem T c q1 tn pn).1) (nt, np, r) (m + 1) = apR (cS I (nt, np, r) m) (pItem T c q1 tn pn).1 := by
    show apR (cS (upI I m (pItem T c q1 tn pn).1) (nt, np, r) m) (upI I m (pItem T c q1 tn pn).1 m) = _
    rw [upI_s, cS_u m (Nat.le_refl _)]
  rw [e]
  refine ⟨a1, a2, ?_, by have := pItem_n (T := T) (c := c) (q := q1) (tn := tn) (pn := pn); omega, fun k hk => ?_⟩
  · rw [← a1, ← a2]
    exact apR_gd (by rw [h1, h2]; exact h3) (by rw [h1, h2]; exact ok)
  · rw [cS_u k (by omega)]
    by_cases hkm : k = m
    · subst hkm
      rw [upI_s, h1, h2]; exact ok
    · rw [upI_o (by omega)]
      exact h5 k (by omega)
theorem Vi.le (h : Vi nt np r I m tn pn q) (hw : q.2.2.2.2 = false) : m ≤ 16 ∧ tn ≤ 8 ∧ pn ≤ 8 := by
  obtain ⟨h1, h2, h3, h4, h5⟩ := h hw
  have := h3.2.2.1.1
  have := h3.2.2.1.2.1
  omega
theorem Vi.zero (h : Gd nt np r) : Vi nt np r I 0 nt np q := fun _ => ⟨rfl, rfl, h, rfl, fun _ hk => absurd hk (Nat.not_lt_zero _)⟩
theorem pMu_g (hw : q.2.2.2.2 = false) : pMu T c q (nI 1) = pNx T c q.2.1 := if_neg fun z => z.elim (fun z => absurd (hw.symm.trans z) (by decide)) (fun z => absurd z (by decide))
/-- all in all -/
def Ve (nt np : Nat) (r : Nat → Int32) (R : Nat × (Nat → Nat → Int32) × PS) : Prop := R.2.2.2.2.2.2 = false → Gd (cS R.2.1 (nt, np, r) R.1).1 (cS R.2.1 (nt, np, r) R.1).2.1 (cS R.2.1 (nt, np, r) R.1).2.2 ∧ R.1 ≤ 16 ∧ ∀ k, k < R.1 → OkI (cS R.2.1 (nt, np, r) k).1 (cS R.2.1 (nt, np, r) k).2.1 (R.2.1 k)
theorem Vi.ve (h : Vi nt np r I m tn pn q) : Ve nt np r (m, I, q) := fun g => by
  obtain ⟨h1, h2, h3, h4, h5⟩ := h g
  exact ⟨by rw [h1, h2]; exact h3, (h.le g).1, h5⟩
theorem pI2_ve : ∀ (f m tn pn : Nat) (q : PS) (I : Nat → Nat → Int32), Pk c q → Vi nt np r I m tn pn q → Ve nt np r (pI2 T c f q tn pn m I) := by
  intro f
  induction f with
  | zero => intro m tn pn q I _ h; exact h.ve
  | succ f ih =>
    intro m tn pn q I hp h
    by_cases g : goC T q
    · rw [pI2_g g]
      have hp1 : Pk c (pMu T c q (nI 1)) := (pMu_pk hp).1
      exact ih _ _ _ _ _ (pItem_pk hp1) (h.step g.1 hp1)
    · rw [pI2_e g]
      exact h.ve
theorem pTx_ve (hc : c ≤ 120) (h : Gd nt np r) : Ve nt np r (pTx T c nt np) := by
  have hp : Pk c (pNx T c 0) := (pNx_pk hc (Nat.zero_le _)).1
  exact pI2_ve _ _ _ _ _ _ (pItem_pk hp) ((Vi.zero (q := pNx T c 0) h).step pNx_w hp)
theorem Gd.text (hc : c ≤ 120) (h : Gd nt np r) : Gd (fTx nt np r (pTx T c nt np)).2.1 (fTx nt np r (pTx T c nt np)).2.2.1 (fTx nt np r (pTx T c nt np)).2.2.2 := by
  have hv := pTx_ve (T := T) hc h
  unfold fTx
  split
  · exact h
  · rename_i g
    have hw : (pTx T c nt np).2.2.2.2.2.2 = false := by
      cases e : (pTx T c nt np).2.2.2.2.2.2 with
      | false => rfl
      | true => exact absurd (Or.inl e) g
    exact (hv hw).1
end VI
section RX
variable {X : mSc} {Q : Option Value → mHp → Prop} {M : mM} {T : Nat → Nat} {c : Nat}
/-- items in their cells -/
def Ic (I : Nat → Nat → Int32) (m : Nat) (M : mM) : Prop := ∀ k, k < m → ∀ j, j < 7 → M 75 (7 * k + j) = I k j
def Sg (T : Nat → Nat) (c : Nat) (q : PS) (m tn pn : Nat) (I : Nat → Nat → Int32) (M0 M : mM) : Prop := RT T c q M ∧ M 66 17 = nI m ∧ M 66 18 = nI tn ∧ M 66 19 = nI pn ∧ Lt M0 M ∧ Ic I m M
/-- a text's end -/
def Fx (q : Sq4) (M0 : mM) (v : Int32) (M' : mM) : Prop := v = q.1 ∧ M' 67 = q.2.2.2 ∧ (∀ a, a ≠ 66 → a ≠ 67 → a ≠ 75 → M' a = M0 a) ∧ (∀ x, x < 9 → M' 66 x = M0 66 x) ∧ M' 66 9 = nI 0
theorem lkt67 {n k : Nat} {a b d : Int32} : lkt (joinT M n a b d) n k 4 67 = joinR (M 67) n a b d (M 75 (7 * k + 3)) (M 75 (7 * k + 4)) (M 75 (7 * k + 5)) (M 75 (7 * k + 6)) := by
  have e75 : ∀ i, lkt (joinT M n a b d) n k i 75 = M 75 := fun i => (lkt_c (by decide) i).trans (joinT_o (by decide))
  show mput (mput (mput (mput (joinT M n a b d) 67 _ (lkt (joinT M n a b d) n k 0 75 _)) 67 _ (lkt (joinT M n a b d) n k 1 75 _)) 67 _ (lkt (joinT M n a b d) n k 2 75 _)) 67 _ (lkt (joinT M n a b d) n k 3 75 _) 67 = _
  rw [e75, e75, e75, e75, mput67, mput67, mput67, mput67, joinT_67, joinR_u3, joinR_u4, joinR_u5, joinR_u6]
theorem cS_1 {I : Nat → Nat → Int32} {S : S3} (h1 : S.2.2 1 = nI S.1) (h2 : S.2.2 2 = nI S.2.1) : ∀ k, (cS I S k).2.2 1 = nI (cS I S k).1 ∧ (cS I S k).2.2 2 = nI (cS I S k).2.1 := by
  intro k
  induction k with
  | zero => exact ⟨h1, h2⟩
  | succ k ih =>
    show (apR (cS I S k) (I k)).2.2 1 = nI (apR (cS I S k) (I k)).1 ∧ (apR (cS I S k) (I k)).2.2 2 = nI (apR (cS I S k) (I k)).2.1
    unfold apR
    split
    · dsimp only
      refine ⟨?_, ?_⟩
      · exact addR_at.2.2.2.2.2.2
      · rw [addR_o (by decide) (by omega)]; exact ih.2
    · dsimp only
      refine ⟨?_, ?_⟩
      · rw [joinR_o (by decide) (by omega)]; exact ih.1
      · exact joinR_at.2.2.2.2.2.2.2
theorem k220f {mm nt np : Nat} {I : Nat → Nat → Int32} (hmm : mm ≤ 17) (hnt : M 67 1 = nI nt) (hnp : M 67 2 = nI np) (hok : ∀ k, k < mm → OkI (cS I (nt, np, M 67) k).1 (cS I (nt, np, M 67) k).2.1 (I k)) : ∀ (z k : Nat) (M1 : mM), mm - k < z → k ≤ mm → Ic I mm M1 → M1 66 17 = nI mm → M1 67 = (cS I (nt, np, M 67) k).2.2 → (∀ a, a ≠ 66 → a ≠ 67 → a ≠ 75 → M1 a = M a) → (∀ x, x < 9 → M1 66 x = M 66 x) → M1 66 9 = nI 0 → mEv X (QI (Fx (nI mm, cS I (nt, np, M 67) mm) M)) 220 123 [some (.ref 66), some (.int (nI k)), some (.int (nI k))] [] (con M1) := by
  have hm : mMet 220 = some _ := rfl
  intro z
  induction z with
  | zero =>
    intro k M1 hkn hkb hic h17 h67 hfr h66 h669
    omega
  | succ z ih =>
    intro k M1 hkn hkb hic h17 h67 hfr h66 h669
    obtain ⟨c1, c2⟩ := cS_1 (I := I) (S := (nt, np, M 67)) hnt hnp k
    refine x_iload_n hm rfl rfl ?_
    refine x_aload_n hm rfl rfl ?_
    refine x_getf hm rfl (gI rfl rfl) ?_
    rw [h17]
    refine x_icmp_ge hm rfl (t := 156) rfl (fun h1 => ?_) (fun h1 => ?_)
    · obtain rfl : k = mm := Nat.le_antisymm hkb ((jI_le (by omega) (by omega)).mp h1)
      refine x_iload_n hm rfl rfl ?_
      refine x_iret hm rfl rfl (by first | rfl | exact bI_nar | decide) ?_
      exact ⟨_, _, rfl, rfl, rfl, h67, hfr, h66, h669⟩
    · have hk : k < mm := Nat.lt_of_not_le fun h => h1 (nI_le h (by omega))
      have hi := hic k hk
      have e0 : M1 75 (7 * k) = I k 0 := hi 0 (by decide)
      refine x_iload_n hm rfl rfl ?_
      refine x_aload_n hm rfl rfl ?_
      refine x_bipush hm rfl (v := nI 7) (by decide) ?_
      refine x_iload_n hm rfl rfl ?_
      refine x_imul hm rfl ?_
      rw [jI_mul]
      rcases hok k hk with ⟨kk, hk7, hq, p8, -⟩ | ⟨hq, t8, -⟩
      · refine x_callV hm rfl rfl (u230b (n := (cS I (nt, np, M 67) k).2.1) (by omega) hk7 (e0.trans hq) (by rw [h67]; exact c2) p8) ?_
        refine x_if_ge hm rfl (t := 147) rfl (fun h9 => ?_) (fun h9 => absurd (ge0 (by omega)) h9)
        refine x_iconst hm rfl (v := nI 1) (by decide) ?_
        refine x_iadd hm rfl ?_
        rw [jI_add]
        refine x_istore_n hm rfl rfl ?_
        refine x_iinc hm rfl rfl (v := nI 1) (by decide) rfl ?_
        rw [jI_add]
        refine x_goto hm rfl (t := 123) rfl ?_
        have hn : ¬ I k 0 = nI 10 := fun w => by have := jI_inj (by omega) (by decide) (hq.symm.trans w); omega
        have ea : cS I (nt, np, M 67) (k + 1) = _ := (show apR (cS I (nt, np, M 67) k) (I k) = _ from if_neg hn)
        have o : ∀ a, a ≠ 67 → lkt (joinT M1 (cS I (nt, np, M 67) k).2.1 (M1 75 (7 * k)) (M1 75 (7 * k + 1)) (M1 75 (7 * k + 2))) (cS I (nt, np, M 67) k).2.1 k 4 a = M1 a := fun a ha => (lkt_c ha 4).trans (joinT_o ha)
        refine ih (k + 1) _ (by omega) (by omega) (fun u hu j hj => (congrFun (o 75 (by decide)) _).trans (hic u hu j hj)) ((congrFun (o 66 (by decide)) 17).trans h17) ?_ (fun a g1 g2 g3 => (o a g2).trans (hfr a g1 g2 g3)) (fun x hx => (congrFun (o 66 (by decide)) x).trans (h66 x hx)) ((congrFun (o 66 (by decide)) 9).trans h669)
        rw [lkt67, ea, h67, e0, hi 1 (by decide), hi 2 (by decide), hi 3 (by decide), hi 4 (by decide), hi 5 (by decide), hi 6 (by decide)]
      · refine x_callV hm rfl rfl (u230a (n := (cS I (nt, np, M 67) k).1) (by omega) (e0.trans hq) (by rw [h67]; exact c1) t8) ?_
        refine x_if_ge hm rfl (t := 147) rfl (fun h9 => ?_) (fun h9 => absurd (ge0 (by omega)) h9)
        refine x_iconst hm rfl (v := nI 1) (by decide) ?_
        refine x_iadd hm rfl ?_
        rw [jI_add]
        refine x_istore_n hm rfl rfl ?_
        refine x_iinc hm rfl rfl (v := nI 1) (by decide) rfl ?_
        rw [jI_add]
        refine x_goto hm rfl (t := 123) rfl ?_
        have ea : cS I (nt, np, M 67) (k + 1) = _ := (show apR (cS I (nt, np, M 67) k) (I k) = _ from if_pos hq)
        have o : ∀ a, a ≠ 67 → addT M1 (cS I (nt, np, M 67) k).1 (M1 75 (7 * k + 1)) (M1 75 (7 * k + 2)) (M1 75 (7 * k + 3)) (M1 75 (7 * k + 4)) (M1 75 (7 * k + 5)) (M1 75 (7 * k + 6)) a = M1 a := fun a ha => addT_o ha
        refine ih (k + 1) _ (by omega) (by omega) (fun u hu j hj => (congrFun (o 75 (by decide)) _).trans (hic u hu j hj)) ((congrFun (o 66 (by decide)) 17).trans h17) ?_ (fun a g1 g2 g3 => (o a g2).trans (hfr a g1 g2 g3)) (fun x hx => (congrFun (o 66 (by decide)) x).trans (h66 x hx)) ((congrFun (o 66 (by decide)) 9).trans h669)
        rw [addT_67, ea, h67, hi 1 (by decide), hi 2 (by decide), hi 3 (by decide), hi 4 (by decide), hi 5 (by decide), hi 6 (by decide)]
theorem k220e {nt np : Nat} (hnt : M 67 1 = nI nt) (hnp : M 67 2 = nI np) (h8 : ∀ k, k < c → T k < 256) {q : PS} {m tn pn : Nat} {I : Nat → Nat → Int32} {x1 x2 : Option Value} {M1 : mM} (hm17 : m ≤ 17) (hV : Ve nt np (M 67) (m, I, q)) (hS : Sg T c q m tn pn I M M1) : mEv X (QI (Fx (fTx nt np (M 67) (m, I, q)) M)) 220 84 [some (.ref 66), x1, x2] [] (con M1) := by
  have hm : mMet 220 = some _ := rfl
  obtain ⟨hR, h17, h18, h19, hL, hic⟩ := hS
  refine x_aload_n hm rfl rfl ?_
  refine x_aload_n hm rfl rfl ?_
  refine x_getf hm rfl (gI rfl rfl) ?_
  rw [hR.2.2.1]
  refine x_if_ne hm rfl (t := 96) rfl (fun h1 => ?_) (fun h1 => ?_)
  · have hs0 : ¬ q.2.2.1 = 0 := fun e => h1 (by rw [e]; rfl)
    refine x_iconst hm rfl (v := nI 0) (by decide) ?_
    obtain ⟨M3, c3, k1, k2⟩ := k226 (X := X) hR h8
    refine x_callV hm rfl rfl c3 ?_
    have fa : ∀ a, a ≠ 66 → a ≠ 75 → mput M3 66 9 (nI 0) a = M a := fun a g1 g3 => (mpo g1).trans (funext fun x => ((k2 a x (Or.inl g1)).trans (hL a x (Or.inl g1) g3)))
    have fb : ∀ x, x < 9 → mput M3 66 9 (nI 0) 66 x = M 66 x := fun x hx => (mpf (by omega)).trans ((k2 66 x (by omega)).trans (hL 66 x (by omega) (by decide)))
    refine x_aload_n hm rfl rfl ?_
    refine x_iconst hm rfl (v := nI 0) (by decide) ?_
    refine x_putf hm rfl (pI rfl rfl (by decide) (by first | exact mFit_int | rfl | decide) rfl) ?_
    refine x_aload_n hm rfl rfl ?_
    refine x_getf hm rfl (gI rfl rfl) ?_
    refine x_if_eq hm rfl (t := 119) rfl (fun h9 => ?_) (fun h9 => ?_)
    · rw [mpf (by decide)] at h9
      have hf := k1.ff h9
      obtain ⟨f1, f2⟩ := pMu_ok hf
      first
        | exact absurd rfl f2
        | (have hq : fTx nt np (M 67) (m, I, q) = (nI m, cS I (nt, np, M 67) m) := if_neg (fun z => z.elim (fun z => absurd (f1.symm.trans z) (by decide)) (fun z => z hs0))
           rw [hq]
           obtain ⟨v1, v2, v3⟩ := hV f1
           refine x_iconst hm rfl (v := nI 0) (by decide) ?_
           refine x_istore_n hm rfl rfl ?_
           refine x_iconst hm rfl (v := nI 0) (by decide) ?_
           refine x_istore_n hm rfl rfl ?_
           exact k220f (mm := m) (I := I) hm17 hnt hnp v3 _ 0 _ (Nat.lt_succ_self _) (Nat.zero_le _) (fun u hu j hj => (congrFun (mpo (by decide)) _).trans ((k2 75 _ (by omega)).trans (hic u hu j hj))) ((mpf (by decide)).trans ((k2 66 17 (by omega)).trans h17)) (fa 67 (by decide) (by decide)) (fun a g1 g2 g3 => fa a g1 g3) fb mp0)
    · rw [mpf (by decide)] at h9
      have hf := k1.fw h9
      have hq : fTx nt np (M 67) (m, I, q) = (-1 - nI q.1, nt, np, M 67) := by
        refine if_pos ?_
        by_cases w : q.2.2.2.2 = true
        · exact Or.inl w
        · refine Or.inr fun z => ?_
          first
            | exact hs0 z
            | (rw [show pMu T c q (nI 1) = pNx T c q.2.1 from if_neg (fun z => z.elim w (fun z => absurd z (by decide))), pNx_w] at hf
               exact absurd hf (by decide))
      have hb : M3 66 10 = nI q.1 := by
        have hb1 := k1.1
        first
          | rw [show pMu T c q (nI 0) = (q.1, q.2.1, q.2.2.1, q.2.2.2.1, true) from if_pos (Or.inr rfl)] at hb1; exact hb1
          | (by_cases w : q.2.2.2.2 = true
             · rw [pMu_w w] at hb1; exact hb1
             · rw [show pMu T c q (nI 1) = pNx T c q.2.1 from if_neg (fun z => z.elim w (fun z => absurd z (by decide))), pNx_w] at hf
               exact absurd hf (by decide))
          | exact hb1
      refine x_iconst hm rfl (v := -1) (by decide) ?_
      refine x_aload_n hm rfl rfl ?_
      refine x_getf hm rfl (gI rfl rfl) ?_
      rw [mpf (by decide), hb]
      refine x_isub hm rfl ?_
      refine x_iret hm rfl rfl (by first | rfl | exact bI_nar | decide) ?_
      exact ⟨_, _, rfl, rfl, by rw [hq], by rw [hq]; exact fa 67 (by decide) (by decide), fun a g1 _ g3 => fa a g1 g3, fb, mp0⟩
  · have hs0 : q.2.2.1 = 0 := jI_inj (b := 0) (by have := hR.2.2.2.2.2.2.2.2.2.2.2.1; omega) (by decide) h1
    refine x_iconst hm rfl (v := nI 1) (by decide) ?_
    refine x_goto hm rfl (t := 97) rfl ?_
    obtain ⟨M3, c3, k1, k2⟩ := k226 (X := X) hR h8
    refine x_callV hm rfl rfl c3 ?_
    have fa : ∀ a, a ≠ 66 → a ≠ 75 → mput M3 66 9 (nI 0) a = M a := fun a g1 g3 => (mpo g1).trans (funext fun x => ((k2 a x (Or.inl g1)).trans (hL a x (Or.inl g1) g3)))
    have fb : ∀ x, x < 9 → mput M3 66 9 (nI 0) 66 x = M 66 x := fun x hx => (mpf (by omega)).trans ((k2 66 x (by omega)).trans (hL 66 x (by omega) (by decide)))
    refine x_aload_n hm rfl rfl ?_
    refine x_iconst hm rfl (v := nI 0) (by decide) ?_
    refine x_putf hm rfl (pI rfl rfl (by decide) (by first | exact mFit_int | rfl | decide) rfl) ?_
    refine x_aload_n hm rfl rfl ?_
    refine x_getf hm rfl (gI rfl rfl) ?_
    refine x_if_eq hm rfl (t := 119) rfl (fun h9 => ?_) (fun h9 => ?_)
    · rw [mpf (by decide)] at h9
      have hf := k1.ff h9
      obtain ⟨f1, f2⟩ := pMu_ok hf
      first
        | exact absurd rfl f2
        | (have hq : fTx nt np (M 67) (m, I, q) = (nI m, cS I (nt, np, M 67) m) := if_neg (fun z => z.elim (fun z => absurd (f1.symm.trans z) (by decide)) (fun z => z hs0))
           rw [hq]
           obtain ⟨v1, v2, v3⟩ := hV f1
           refine x_iconst hm rfl (v := nI 0) (by decide) ?_
           refine x_istore_n hm rfl rfl ?_
           refine x_iconst hm rfl (v := nI 0) (by decide) ?_
           refine x_istore_n hm rfl rfl ?_
           exact k220f (mm := m) (I := I) hm17 hnt hnp v3 _ 0 _ (Nat.lt_succ_self _) (Nat.zero_le _) (fun u hu j hj => (congrFun (mpo (by decide)) _).trans ((k2 75 _ (by omega)).trans (hic u hu j hj))) ((mpf (by decide)).trans ((k2 66 17 (by omega)).trans h17)) (fa 67 (by decide) (by decide)) (fun a g1 g2 g3 => fa a g1 g3) fb mp0)
    · rw [mpf (by decide)] at h9
      have hf := k1.fw h9
      have hq : fTx nt np (M 67) (m, I, q) = (-1 - nI q.1, nt, np, M 67) := by
        refine if_pos ?_
        by_cases w : q.2.2.2.2 = true
        · exact Or.inl w
        · refine Or.inr fun z => ?_
          first
            | exact hs0 z
            | (rw [show pMu T c q (nI 1) = pNx T c q.2.1 from if_neg (fun z => z.elim w (fun z => absurd z (by decide))), pNx_w] at hf
               exact absurd hf (by decide))
      have hb : M3 66 10 = nI q.1 := by
        have hb1 := k1.1
        first
          | rw [show pMu T c q (nI 0) = (q.1, q.2.1, q.2.2.1, q.2.2.2.1, true) from if_pos (Or.inr rfl)] at hb1; exact hb1
          | (by_cases w : q.2.2.2.2 = true
             · rw [pMu_w w] at hb1; exact hb1
             · rw [show pMu T c q (nI 1) = pNx T c q.2.1 from if_neg (fun z => z.elim w (fun z => absurd z (by decide))), pNx_w] at hf
               exact absurd hf (by decide))
          | exact hb1
      refine x_iconst hm rfl (v := -1) (by decide) ?_
      refine x_aload_n hm rfl rfl ?_
      refine x_getf hm rfl (gI rfl rfl) ?_
      rw [mpf (by decide), hb]
      refine x_isub hm rfl ?_
      refine x_iret hm rfl rfl (by first | rfl | exact bI_nar | decide) ?_
      exact ⟨_, _, rfl, rfl, by rw [hq], by rw [hq]; exact fa 67 (by decide) (by decide), fun a g1 _ g3 => fa a g1 g3, fb, mp0⟩
theorem k220l {nt np : Nat} (hnt : M 67 1 = nI nt) (hnp : M 67 2 = nI np) (h8 : ∀ k, k < c → T k < 256) : ∀ (z m : Nat) (q : PS) (tn pn : Nat) (I : Nat → Nat → Int32) (x1 x2 : Option Value) (M1 : mM), 17 - m < z → m ≤ 17 → 1 ≤ m → Vi nt np (M 67) I m tn pn q → Sg T c q m tn pn I M M1 → mEv X (QI (Fx (fTx nt np (M 67) (pI2 T c (17 - m) q tn pn m I)) M)) 220 43 [some (.ref 66), x1, x2] [] (con M1) := by
  have hm : mMet 220 = some _ := rfl
  intro z
  induction z with
  | zero =>
    intro m q tn pn I x1 x2 M1 hz hm17 hm1 hV hS
    omega
  | succ z ih =>
    intro m q tn pn I x1 x2 M1 hz hm17 hm1 hV hS
    obtain ⟨hR, h17, h18, h19, hL, hic⟩ := id hS
    obtain ⟨b1, b2, b3, b4, b5, b6⟩ := id hR.2.2.2.2.2.2.2
    refine x_aload_n hm rfl rfl ?_
    refine x_getf hm rfl (gI rfl rfl) ?_
    refine x_if_ne hm rfl (t := 84) rfl (fun h1 => ?_) (fun h1 => ?_)
    · have hng : ¬ goC T q := fun z => absurd (z.1.symm.trans (hR.fw h1)) (by decide)
      rw [pI2_e hng]
      exact k220e hnt hnp h8 hm17 hV.ve hS
    · have hw := hR.ff h1
      refine x_aload_n hm rfl rfl ?_
      refine x_getf hm rfl (gI rfl rfl) ?_
      rw [hR.2.2.1]
      refine x_iconst hm rfl (v := nI 3) (by decide) ?_
      refine x_icmp_ne hm rfl (t := 84) rfl (fun h2 => ?_) (fun h2 => ?_)
      · have hng : ¬ goC T q := fun z => h2 (by rw [z.2.1])
        rw [pI2_e hng]
        exact k220e hnt hnp h8 hm17 hV.ve hS
      · have hs3 : q.2.2.1 = 3 := jI_inj (by omega) (by decide) h2
        have hbc : q.1 < c := Nat.lt_of_lt_of_le (b4 (by rw [hs3]; decide)) b3
        have hx8 := h8 _ hbc
        refine x_aload_n hm rfl rfl ?_
        refine x_getf hm rfl (gR rfl rfl) ?_
        refine x_aload_n hm rfl rfl ?_
        refine x_getf hm rfl (gI rfl rfl) ?_
        rw [hR.1]
        refine x_iald hm rfl (lI rfl (by omega) (by decide)) ?_
        rw [hR.2.2.2.2.2.2.1 _ hbc]
        refine x_bipush hm rfl (v := nI 59) (by decide) ?_
        refine x_icmp_ne hm rfl (t := 84) rfl (fun h3 => ?_) (fun h3 => ?_)
        · have hng : ¬ goC T q := fun z => h3 (by rw [z.2.2])
          rw [pI2_e hng]
          exact k220e hnt hnp h8 hm17 hV.ve hS
        · have hgo : goC T q := ⟨hw, hs3, jI_inj (by omega) (by decide) h3⟩
          obtain ⟨l1, l2, l3⟩ := hV.le hw
          obtain ⟨f, hf⟩ : ∃ f, 17 - m = f + 1 := ⟨16 - m, by omega⟩
          rw [hf, pI2_g hgo]
          refine x_aload_n hm rfl rfl ?_
          refine x_iconst hm rfl (v := nI 1) (by decide) ?_
          obtain ⟨M2, c2, r2⟩ := v226k (X := X) (x := nI 1) (M0 := M1) h8 ⟨hR, h17, h18, h19, Lw.rf⟩
          refine x_callV hm rfl rfl c2 ?_
          refine x_aload_n hm rfl rfl ?_
          obtain ⟨M3, c3, r3⟩ := k223 (X := X) h8 (by omega) l2 l3 r2
          refine x_callV hm rfl rfl c3 ?_
          refine x_goto hm rfl (t := 43) rfl ?_
          rw [show f = 17 - (m + 1) by omega]
          refine ih (m + 1) _ _ _ _ _ _ _ (by omega) (by omega) (by omega) (hV.step hw (pMu_pk ⟨b1, b2, b3, b4, b5, b6⟩).1) ⟨r3.1, r3.2.1, r3.2.2.1, r3.2.2.2.1, hL.trans r3.2.2.2.2.2.lt, fun u hu j hj => ?_⟩
          by_cases e : u = m
          · subst e
            rw [upI_s]
            exact r3.2.2.2.2.1 j hj
          · rw [upI_o (by omega)]
            exact (r3.2.2.2.2.2 75 _ (by omega) (by omega)).trans (hic u (by omega) j hj)
theorem k220 {nt np : Nat} (hnt : M 67 1 = nI nt) (hnp : M 67 2 = nI np) (h8 : ∀ k, k < c → T k < 256) (hc1 : c ≤ 120) (hc9 : M 66 9 = nI c) (hT : ∀ k, k < c → M 73 k = nI (T k)) (hG : Gd nt np (M 67)) : ∃ v M', mT X 220 [.ref 66] (con M) (some (.int v)) (con M') ∧ Fx (fTx nt np (M 67) (pTx T c nt np)) M v M' := by
  refine ti_of (row := _) rfl (Nat.le_of_ble_eq_true rfl) ?_
  have hm : mMet 220 = some _ := rfl
  refine x_aload_n hm rfl rfl ?_
  refine x_iconst hm rfl (v := nI 0) (by decide) ?_
  refine x_putf hm rfl (pI rfl rfl (by decide) (by first | exact mFit_int | rfl | decide) rfl) ?_
  refine x_aload_n hm rfl rfl ?_
  refine x_iconst hm rfl (v := nI 0) (by decide) ?_
  refine x_putf hm rfl (pI rfl rfl (by decide) (by first | exact mFit_int | rfl | decide) rfl) ?_
  refine x_aload_n hm rfl rfl ?_
  refine x_iconst hm rfl (v := nI 0) (by decide) ?_
  refine x_putf hm rfl (pI rfl rfl (by decide) (by first | exact mFit_int | rfl | decide) rfl) ?_
  refine x_aload_n hm rfl rfl ?_
  refine x_aload_n hm rfl rfl ?_
  refine x_getf hm rfl (gR rfl rfl) ?_
  refine x_iconst hm rfl (v := nI 1) (by decide) ?_
  refine x_iald hm rfl (lI rfl (by omega) (by decide)) ?_
  refine x_putf hm rfl (pI rfl rfl (by decide) (by first | exact mFit_int | rfl | decide) rfl) ?_
  refine x_aload_n hm rfl rfl ?_
  refine x_aload_n hm rfl rfl ?_
  refine x_getf hm rfl (gR rfl rfl) ?_
  refine x_iconst hm rfl (v := nI 2) (by decide) ?_
  refine x_iald hm rfl (lI rfl (by omega) (by decide)) ?_
  refine x_putf hm rfl (pI rfl rfl (by decide) (by first | exact mFit_int | rfl | decide) rfl) ?_
  generalize hM0 : mput (mput (mput (mput (mput M 66 11 (nI 0)) 66 14 (nI 0)) 66 17 (nI 0)) 66 18 _) 66 19 _ = M0
  have hL0 : Lt M M0 := by
    rw [← hM0]
    exact ((((Lt.put (by decide)).trans (Lt.put (by decide))).trans (Lt.put (by decide))).trans (Lt.put (by decide))).trans (Lt.put (by decide))
  have q17 : M0 66 17 = nI 0 := by rw [← hM0, mpf (by decide), mpf (by decide)]; exact mp0
  have q18 : M0 66 18 = nI nt := by rw [← hM0, mpf (by decide), mp0]; exact hnt
  have q19 : M0 66 19 = nI np := by rw [← hM0, mp0]; exact hnp
  have q11 : M0 66 11 = nI 0 := by rw [← hM0, mpf (by decide), mpf (by decide), mpf (by decide), mpf (by decide)]; exact mp0
  have q14 : M0 66 14 = nI 0 := by rw [← hM0, mpf (by decide), mpf (by decide), mpf (by decide)]; exact mp0
  have q9 : M0 66 9 = nI c := by rw [hL0 66 9 (by omega) (by omega)]; exact hc9
  have q73 : ∀ k, k < c → M0 73 k = nI (T k) := fun k hk => (hL0 73 k (by omega) (by omega)).trans (hT k hk)
  obtain ⟨M2, c2, g1, g2⟩ := k221 (X := X) q11 q9 hc1 q73 h8 q14 (Nat.zero_le _)
  refine x_aload_n hm rfl rfl ?_
  refine x_callV hm rfl rfl c2 ?_
  refine x_aload_n hm rfl rfl ?_
  obtain ⟨M3, c3, r3⟩ := k223 (X := X) (m := 0) (M0 := M2) h8 (by decide) hG.2.2.1.1 hG.2.2.1.2.1 ⟨g1, (g2 66 17 (by omega)).trans q17, (g2 66 18 (by omega)).trans q18, (g2 66 19 (by omega)).trans q19, Lw.rf⟩
  refine x_callV hm rfl rfl c3 ?_
  exact k220l hnt hnp h8 _ 1 _ _ _ _ _ _ _ (Nat.lt_succ_self _) (by decide) (by decide) ((Vi.zero (q := pNx T c 0) (I := fun _ _ => 0) hG).step pNx_w g1.2.2.2.2.2.2.2) ⟨r3.1, r3.2.1, r3.2.2.1, r3.2.2.2.1, (hL0.trans g2.ly.lt).trans r3.2.2.2.2.2.lt, fun u hu j hj => by
    obtain rfl : u = 0 := by omega
    rw [upI_s]
    exact r3.2.2.2.2.1 j hj⟩
end RX
