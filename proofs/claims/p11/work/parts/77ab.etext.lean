section CZ
variable {X : mSc} {Q : Option Value → mHp → Prop} {M : mM} {T : Nat → Nat} {c : Nat}
theorem k91 {nt np : Nat} {r0 : Nat → Int32} (hB : ∀ k, k < c → T k < 256) (hc9 : M 52 1 = nI c) (hc1 : c ≤ 120) (hT : ∀ k, k < c → M 53 k = bt (T k)) (hR : Rel 1 nt np M r0) (hG : Gd nt np r0) : ∃ v M', mT X 91 [.ref 52, .ref 1] (con M) (some (.int v)) (con M') ∧ v = nI (pTx T c nt np).1 ∧ CW T c nt np r0 (qF T c (pTx T c nt np).2.2) (cS (pTx T c nt np).2.1 (nt, np, r0) (pTx T c nt np).1) M M' := by
  refine ti_of (row := _) rfl (Nat.le_of_ble_eq_true rfl) ?_
  have hm : mMet 91 = some _ := rfl
  refine x_aload_n hm rfl rfl ?_
  refine x_iconst hm rfl (v := (-1 : Int32)) (by decide) ?_
  refine x_putf hm rfl (pI rfl rfl (by decide) (by first | exact mFit_int | rfl | decide) rfl) ?_
  refine x_aload_n hm rfl rfl ?_
  refine x_iconst hm rfl (v := nI 0) (by decide) ?_
  refine x_putf hm rfl (pI rfl rfl (by decide) (by first | exact mFit_int | rfl | decide) rfl) ?_
  refine x_aload_n hm rfl rfl ?_
  have hL : Lc M (mput (mput M 52 6 (-1)) 52 4 (nI 0)) := (Lc.put (by decide) (by decide)).trans (Lc.put (by decide) (by decide))
  obtain ⟨M2, g1, g2, g3⟩ := k92 (X := X) (M := mput (mput M 52 6 (-1)) 52 4 (nI 0)) (e0 := 0) (c := c) (T := T) mp0 ((hL 52 1 (by omega)).trans hc9) hc1 (fun k hk => (hL 53 k (by omega)).trans (hT k hk)) hB (Nat.zero_le _) ((mpf (by decide)).trans mp0)
  have hL2 := hL.trans g3
  have e : ∀ a, a ≠ 52 → M2 a = M a := fun a ha => funext fun x => hL2 a x (Or.inl ha)
  refine x_callV hm rfl rfl g1 ?_
  refine x_iconst hm rfl (v := nI 0) (by decide) ?_
  refine x_istore_n hm rfl rfl ?_
  refine x_iconst hm rfl (v := nI 1) (by decide) ?_
  refine x_istore_n hm rfl rfl ?_
  exact k91l (M0 := M) hB hG.2.2.1.1 _ 0 _ nt np (fun _ _ => 0) _ _ (Nat.lt_succ_self _) pNx_w (Vi.zero hG) ⟨g2, hR.fr fun a _ _ => e a (by omega), by rw [e 1 (by decide)], fun a _ h2 => e a h2⟩ Ag.rf (Nat.le_refl _) (Nat.le_refl _)
/-- a text's end, the class -/
def Tt (q : Sq4) (M0 : mM) (v : Int32) (M' : mM) : Prop := v = q.1 ∧ Rel 1 q.2.1 q.2.2.1 M' q.2.2.2 ∧ M' 1 7 = M0 1 7 ∧ (∀ a, (a < 1 ∨ 17 < a) → a ≠ 52 → M' a = M0 a) ∧ M' 52 1 = nI 0
theorem k90 {nt np : Nat} {r0 : Nat → Int32} (hB : ∀ k, k < c → T k < 256) (hc9 : M 52 1 = nI c) (hc1 : c ≤ 120) (hT : ∀ k, k < c → M 53 k = bt (T k)) (hR : Rel 1 nt np M r0) (hG : Gd nt np r0) : ∃ v M', mT X 90 [.ref 0] (con M) (some (.int v)) (con M') ∧ Tt (fTx nt np r0 (pTx T c nt np)) M v M' := by
  refine ti_of (row := _) rfl (Nat.le_of_ble_eq_true rfl) ?_
  have hm : mMet 90 = some _ := rfl
  refine x_aload_n hm rfl rfl ?_
  refine x_getf hm rfl (gR rfl rfl) ?_
  refine x_getf hm rfl (gI rfl rfl) ?_
  rw [hR.1]
  refine x_istore_n hm rfl rfl ?_
  refine x_aload_n hm rfl rfl ?_
  refine x_getf hm rfl (gR rfl rfl) ?_
  refine x_getf hm rfl (gI rfl rfl) ?_
  rw [hR.2.1]
  refine x_istore_n hm rfl rfl ?_
  refine x_aload_n hm rfl rfl ?_
  refine x_getf hm rfl (gR rfl rfl) ?_
  refine x_aload_n hm rfl rfl ?_
  refine x_getf hm rfl (gR rfl rfl) ?_
  refine x_cVi hm rfl rfl (k91 hB hc9 hc1 hT hR hG) (fun v1 M1 r1 => ?_)
  obtain ⟨rfl, tn, pn, r, hk, d1, d2, d3, d4, d5, d6⟩ := r1
  refine x_istore_n hm rfl rfl ?_
  refine x_aload_n hm rfl rfl ?_
  refine x_getf hm rfl (gR rfl rfl) ?_
  refine x_getf hm rfl (gI rfl rfl) ?_
  refine x_iconst hm rfl (v := (-1 : Int32)) (by decide) ?_
  refine x_icmp_eq hm rfl (t := 55) rfl (fun h2 => ?_) (fun h2 => ?_)
  · have hf := hk.1.ff h2
    obtain ⟨hf1, hf2⟩ := qF_f hf
    have hq : fTx nt np r0 (pTx T c nt np) = (nI (pTx T c nt np).1, cS (pTx T c nt np).2.1 (nt, np, r0) (pTx T c nt np).1) := if_neg (fun z => z.elim (fun z => absurd (hf1.symm.trans z) (by decide)) (fun z => z hf2))
    obtain ⟨rfl, rfl, rfl⟩ := d6 hf
    refine x_aload_n hm rfl rfl ?_
    refine x_getf hm rfl (gR rfl rfl) ?_
    refine x_iconst hm rfl (v := nI 0) (by decide) ?_
    refine x_putf hm rfl (pI rfl rfl (by decide) (by first | exact mFit_int | rfl | decide) rfl) ?_
    first
      | (refine x_aload_n hm rfl rfl ?_
         refine x_getf hm rfl (gR rfl rfl) ?_
         refine x_getf hm rfl (gI rfl rfl) ?_
         refine x_iconst hm rfl (v := -1) (by decide) ?_
         refine x_icmp_ne hm rfl (t := 78) rfl (fun h50 => absurd (hf : _ = false) (by first | exact absurd ((mpf (by decide)).trans (by assumption)) h50)) (fun h50 => ?_)
         refine x_iload_n hm rfl rfl ?_
         refine x_goto hm rfl (t := 87) rfl ?_
         refine x_iret hm rfl rfl (by first | rfl | exact bI_nar | decide) ?_
         exact ⟨_, _, rfl, rfl, by rw [hq], by rw [hq]; exact hk.2.1.fr fun a _ _ => mpo (by omega), (congrFun (mpo (by decide)) 7).trans hk.2.2.1, fun a h1 h2 => (mpo h2).trans (hk.2.2.2 a h1 h2), mp0⟩)
      | (refine x_aload_n hm rfl rfl ?_
         refine x_getf hm rfl (gR rfl rfl) ?_
         refine x_getf hm rfl (gI rfl rfl) ?_
         have e6 : mput (mput (mput M1 1 3 (nI nt)) 1 4 (nI np)) 52 1 (nI 0) 52 6 = nI (pTx T c nt np).2.2.1 := by
           rw [mpf (by decide), mpo (by decide), mpo (by decide)]; exact hv6
         rw [e6]
         refine x_iconst hm rfl (v := -1) (by decide) ?_
         refine x_icmp_ne hm rfl (t := 78) rfl (fun h50 => ?_) (fun h50 => absurd (hv6.trans h50) (by assumption))
         refine x_iconst hm rfl (v := -1) (by decide) ?_
         refine x_aload_n hm rfl rfl ?_
         refine x_getf hm rfl (gR rfl rfl) ?_
         refine x_getf hm rfl (gI rfl rfl) ?_
         rw [e6]
         refine x_isub hm rfl ?_
         refine x_iret hm rfl rfl (by first | rfl | exact bI_nar | decide) ?_
         exact ⟨_, _, rfl, rfl, by rw [hq], by rw [hq]; exact hL.fr fun a _ _ => mpo (by omega), (congrFun (mpo (by decide)) 7).trans ((mpf (by decide)).trans ((mpf (by decide)).trans hk.2.2.1)), fun a h1 h2 => (mpo h2).trans ((mpo (by omega)).trans ((mpo (by omega)).trans (hk.2.2.2 a h1 h2))), mp0⟩)
  · have hw := hk.1.fw h2
    have hq : fTx nt np r0 (pTx T c nt np) = (-1 - nI (pTx T c nt np).2.2.1, nt, np, r0) := if_pos (qF_w hw)
    have hL := hk.2.1.low d5 d3 d4
    have hv6 : M1 52 6 = nI (pTx T c nt np).2.2.1 := by
      have e := hk.1.2.2.2.2.1
      rw [hw, qF_1] at e
      exact e
    refine x_aload_n hm rfl rfl ?_
    refine x_getf hm rfl (gR rfl rfl) ?_
    refine x_iload_n hm rfl rfl ?_
    refine x_putf hm rfl (pI rfl rfl (by decide) (by first | exact mFit_int | rfl | decide) rfl) ?_
    refine x_aload_n hm rfl rfl ?_
    refine x_getf hm rfl (gR rfl rfl) ?_
    refine x_iload_n hm rfl rfl ?_
    refine x_putf hm rfl (pI rfl rfl (by decide) (by first | exact mFit_int | rfl | decide) rfl) ?_
    refine x_aload_n hm rfl rfl ?_
    refine x_getf hm rfl (gR rfl rfl) ?_
    refine x_iconst hm rfl (v := nI 0) (by decide) ?_
    refine x_putf hm rfl (pI rfl rfl (by decide) (by first | exact mFit_int | rfl | decide) rfl) ?_
    first
      | (refine x_aload_n hm rfl rfl ?_
         refine x_getf hm rfl (gR rfl rfl) ?_
         refine x_getf hm rfl (gI rfl rfl) ?_
         refine x_iconst hm rfl (v := -1) (by decide) ?_
         refine x_icmp_ne hm rfl (t := 78) rfl (fun h50 => absurd (hf : _ = false) (by first | exact absurd ((mpf (by decide)).trans (by assumption)) h50)) (fun h50 => ?_)
         refine x_iload_n hm rfl rfl ?_
         refine x_goto hm rfl (t := 87) rfl ?_
         refine x_iret hm rfl rfl (by first | rfl | exact bI_nar | decide) ?_
         exact ⟨_, _, rfl, rfl, by rw [hq], by rw [hq]; exact hk.2.1.fr fun a _ _ => mpo (by omega), (congrFun (mpo (by decide)) 7).trans hk.2.2.1, fun a h1 h2 => (mpo h2).trans (hk.2.2.2 a h1 h2), mp0⟩)
      | (refine x_aload_n hm rfl rfl ?_
         refine x_getf hm rfl (gR rfl rfl) ?_
         refine x_getf hm rfl (gI rfl rfl) ?_
         have e6 : mput (mput (mput M1 1 3 (nI nt)) 1 4 (nI np)) 52 1 (nI 0) 52 6 = nI (pTx T c nt np).2.2.1 := by
           rw [mpf (by decide), mpo (by decide), mpo (by decide)]; exact hv6
         rw [e6]
         refine x_iconst hm rfl (v := -1) (by decide) ?_
         refine x_icmp_ne hm rfl (t := 78) rfl (fun h50 => ?_) (fun h50 => absurd (hv6.trans h50) (by assumption))
         refine x_iconst hm rfl (v := -1) (by decide) ?_
         refine x_aload_n hm rfl rfl ?_
         refine x_getf hm rfl (gR rfl rfl) ?_
         refine x_getf hm rfl (gI rfl rfl) ?_
         rw [e6]
         refine x_isub hm rfl ?_
         refine x_iret hm rfl rfl (by first | rfl | exact bI_nar | decide) ?_
         exact ⟨_, _, rfl, rfl, by rw [hq], by rw [hq]; exact hL.fr fun a _ _ => mpo (by omega), (congrFun (mpo (by decide)) 7).trans ((mpf (by decide)).trans ((mpf (by decide)).trans hk.2.2.1)), fun a h1 h2 => (mpo h2).trans ((mpo (by omega)).trans ((mpo (by omega)).trans (hk.2.2.2 a h1 h2))), mp0⟩)
theorem byte_k {x : Int32} : ∃ n, n < 256 ∧ x &&& 255 = nI n := by
  refine ⟨(x.toUInt32 &&& 255).toNat, ?_, ?_⟩
  · rw [UInt32.toNat_and]
    exact Nat.lt_of_le_of_lt Nat.and_le_right (by decide)
  · exact congrArg UInt32.toInt32 UInt32.ofNat_toNat.symm
theorem Tt.cn {q : Sq4} {v : Int32} {N : mM} (hM : cnm M = M) (h : Tt q M v N) : Tt q M v (cnm N) := ⟨h.1, h.2.1.cn (Or.inl rfl), h.2.2.1, fun a h1 h2 => cn_fr hM (h.2.2.2.1 a h1 h2), h.2.2.2.2⟩
theorem Fx.cn {q : Sq4} {v : Int32} {N : mM} (hM : cnm M = M) (h : Fx q M v N) : Fx q M v (cnm N) := ⟨h.1, h.2.1, fun a h1 h2 h3 => cn_fr hM (h.2.2.1 a h1 h2 h3), fun x hx => by
  obtain ⟨-, -, -, h4, -⟩ := h
  rcases cnc_or 66 (N 66) x with e | e
  · exact e.trans (h4 x hx)
  · have e2 : cnm M 66 x = M 66 x := congrFun (congrFun hM 66) x
    show cnc 66 (N 66) x = M 66 x
    rw [← e2]
    show cnc 66 (N 66) x = cnc 66 (M 66) x
    unfold cnc
    rw [h4 x hx], h.2.2.2.2⟩
theorem j_text (hJ : J M) : JJ X 90 220 [.ref 0] [.ref 66] M Eq := by
  obtain ⟨hI, hcn, ⟨nt, np, hR, h1, h2, hV, hr, hc⟩, hJI, hJP, hJS, h6⟩ := id hJ
  obtain ⟨c, hc1, hc9⟩ := ok4 (show okx 4 (M 52 1) from hI.1 52 1)
  have hc66 : M 66 9 = nI c := hJP.1.symm.trans hc9
  have hG : Gd nt np (M 67) := ⟨h1, h2, hV, hr⟩
  have hT0 : ∀ k, k < c → M 73 k = nI ((M 73 k).toNatClampNeg) ∧ (M 73 k).toNatClampNeg < 256 := by
    intro k hk
    obtain ⟨n, hn, e⟩ := byte_k (x := M 53 k)
    have e1 : M 73 k = nI n := (hJP.2 k (by omega)).1.trans e
    rw [e1, jI_nat (by omega)]
    exact ⟨rfl, hn⟩
  have hB : ∀ k, k < c → (M 73 k).toNatClampNeg < 256 := fun k hk => (hT0 k hk).2
  have hT : ∀ k, k < c → M 53 k = bt ((M 73 k).toNatClampNeg) := fun k hk => by
    rw [(hJP.2 k (by omega)).2]
    exact congrArg (fun x : Int32 => x.toInt8.toInt32) (hT0 k hk).1
  obtain ⟨v, M1, a1, a2, a3, a4⟩ := mT.both (t90 (X := X) hI.1) (k90 (X := X) (T := fun k => (M 73 k).toNatClampNeg) hB hc9 hc1 hT hR hG) (fun _ _ h => h.cn hcn) (fun _ _ h => h.cn hcn)
  have i1 := a3.inv hI
  have e66 : ∀ a, 66 ≤ a → M1 a = M a := a3.2
  have hG1 : Gd nt np (M1 67) := by rw [e66 67 (by decide)]; exact hG
  obtain ⟨w, M2, b1, b2, b3, b4⟩ := mT.both (t220 (X := X) i1) (k220 (X := X) (T := fun k => (M 73 k).toNatClampNeg) hG1.1 hG1.2.1 hB hc1 (by rw [e66 66 (by decide)]; exact hc66) (fun k hk => by rw [e66 73 (by decide)]; exact (hT0 k hk).1) hG1) (fun _ _ h => h.cn) (fun _ _ h => h.cn a2)
  rw [e66 67 (by decide)] at b4
  obtain ⟨d1, d2, d3, d4, d5⟩ := a4
  obtain ⟨f1, f2, f3, f4, f5⟩ := b4
  have hGd := Gd.text (T := fun k => (M 73 k).toNatClampNeg) hc1 hG
  have l : ∀ a, (a < 1 ∨ 17 < a) → a ≠ 52 → a ≠ 66 → a ≠ 67 → a ≠ 75 → M2 a = M a := fun a g1 g2 g3 g4 g5 => (f3 a g3 g4 g5).trans (d4 a g1 g2)
  refine ⟨v, M1, w, M2, a1, b1, ⟨b3, b2, ⟨_, _, ?_, by rw [f2]; exact hGd.1, by rw [f2]; exact hGd.2.1, by rw [f2]; exact hGd.2.2.1, by rw [f2]; exact hGd.2.2.2, ?_⟩, hJI.of (by rw [l 0 (by decide) (by decide) (by decide) (by decide) (by decide)]) ((f4 3 (by decide)).trans (by rw [e66 66 (by decide)])) (fun x g1 g2 => l x (by omega) (by omega) (by omega) (by omega) (by omega)) (l 68 (by decide) (by decide) (by decide) (by decide) (by decide)),
    ⟨?_, fun k hk => ?_⟩, hJS.of (fun x g1 g2 => l x (by omega) (by omega) (by omega) (by omega) (by omega)) (l 76 (by decide) (by decide) (by decide) (by decide) (by decide)) (l 77 (by decide) (by decide) (by decide) (by decide) (by decide)) (l 78 (by decide) (by decide) (by decide) (by decide) (by decide)), ?_⟩, d1.trans f1.symm⟩
  · rw [f2]
    exact d2.fr fun a g1 g2 => f3 a (by omega) (by omega) (by omega)
  · rw [f3 1 (by decide) (by decide) (by decide), d3]
    exact hc
  · rw [f3 52 (by decide) (by decide) (by decide), d5, f5]
  · rw [l 73 (by decide) (by decide) (by decide) (by decide) (by decide), l 53 (by decide) (by decide) (by decide) (by decide) (by decide)]
    exact hJP.2 k hk
  · rw [f4 6 (by decide), e66 66 (by decide)]
    exact h6
end CZ
