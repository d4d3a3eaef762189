/-! ===== texts: both sides ===== -/
section CZ
variable {X : mSc} {Q : Option Value → mHp → Prop} {M : mM} {T : Nat → Nat} {c : Nat}
/-- rows alike, as far as the first things and people go -/
def Ag (nt np : Nat) (r0 r : Nat → Int32) : Prop := r 0 = r0 0 ∧ r 3 = r0 3 ∧ (∀ s, s < 10 → r (4 + s) = r0 (4 + s)) ∧ (∀ f t, f < 6 → t < nt → r (14 + 6 * t + f) = r0 (14 + 6 * t + f)) ∧ (∀ f p, f < 7 → p < np → r (62 + 7 * p + f) = r0 (62 + 7 * p + f))
theorem Ag.rf {nt np : Nat} {r : Nat → Int32} : Ag nt np r r := ⟨rfl, rfl, fun _ _ => rfl, fun _ _ _ _ => rfl, fun _ _ _ _ => rfl⟩
theorem Ag.add {nt np tn : Nat} {r0 r : Nat → Int32} {a b d e f g : Int32} (h : Ag nt np r0 r) (h1 : nt ≤ tn) (h8 : tn < 8) : Ag nt np r0 (addR r tn a b d e f g) := by
  obtain ⟨g1, g2, g3, g4, g5⟩ := h
  refine ⟨?_, ?_, fun s hs => ?_, fun f t hf ht => ?_, fun f p hf hp => ?_⟩
  · rw [addR_o (by decide) (by omega)]; exact g1
  · rw [addR_o (by decide) (by omega)]; exact g2
  · rw [addR_o (by omega) (by omega)]; exact g3 s hs
  · rw [addR_o (by omega) (by omega)]; exact g4 f t hf ht
  · rw [addR_o (by omega) (by omega)]; exact g5 f p hf hp
theorem Ag.join {nt np pn : Nat} {r0 r : Nat → Int32} {a b d e f g i : Int32} (h : Ag nt np r0 r) (h1 : np ≤ pn) (h8 : nt ≤ 8) : Ag nt np r0 (joinR r pn a b d e f g i) := by
  obtain ⟨g1, g2, g3, g4, g5⟩ := h
  refine ⟨?_, ?_, fun s hs => ?_, fun f t hf ht => ?_, fun f p hf hp => ?_⟩
  · rw [joinR_o (by decide) (by omega)]; exact g1
  · rw [joinR_o (by decide) (by omega)]; exact g2
  · rw [joinR_o (by omega) (by omega)]; exact g3 s hs
  · rw [joinR_o (by omega) (by omega)]; exact g4 f t hf ht
  · rw [joinR_o (by omega) (by omega)]; exact g5 f p hf hp
theorem Rel.low {nt np tn pn : Nat} {r0 r : Nat → Int32} (h : Rel 1 tn pn M r) (g : Ag nt np r0 r) (h1 : nt ≤ tn) (h2 : np ≤ pn) : Rel 1 nt np (mput (mput M 1 3 (nI nt)) 1 4 (nI np)) r0 := by
  obtain ⟨a1, a2, a3, a4, a5, a6, a7⟩ := h
  obtain ⟨g1, g2, g3, g4, g5⟩ := g
  have e : ∀ a x, (a ≠ 1 ∨ (x ≠ 3 ∧ x ≠ 4)) → mput (mput M 1 3 (nI nt)) 1 4 (nI np) a x = M a x := fun a x hx => by rw [mpn (by omega), mpn (by omega)]
  exact ⟨(mpf (by decide)).trans mp0, mp0, (e 1 5 (by omega)).trans (a3.trans g1), (e 1 6 (by omega)).trans (a4.trans g2), fun s hs => (e _ _ (by omega)).trans ((a5 s hs).trans (g3 s hs)), fun f t hf ht => (e _ _ (by omega)).trans ((a6 f t hf (by omega)).trans (g4 f t hf ht)), fun f p hf hp => (e _ _ (by omega)).trans ((a7 f p hf (by omega)).trans (g5 f p hf hp))⟩
/-- the class's reader and town, where something may be wrong -/
def CW (T : Nat → Nat) (c nt np : Nat) (r0 : Nat → Int32) (q : PS) (S : S3) (M0 M : mM) : Prop := ∃ tn pn r, CK T c q tn pn r M0 M ∧ tn ≤ 8 ∧ pn ≤ 8 ∧ nt ≤ tn ∧ np ≤ pn ∧ Ag nt np r0 r ∧ (q.2.2.2.2 = false → tn = S.1 ∧ pn = S.2.1 ∧ r = S.2.2)
section CW
variable {nt np m tn pn : Nat} {r0 : Nat → Int32} {I : Nat → Nat → Int32} {q : PS} {M0 : mM}
theorem cS_n {it : Nat → Int32} {S : S3} : cS (upI I m it) S (m + 1) = apR (cS I S m) it := by
  show apR (cS (upI I m it) S m) (upI I m it m) = _
  rw [upI_s, cS_u m (Nat.le_refl _)]
theorem cw_fail (ht : tn ≤ 8) (hp : pn ≤ 8) (h1 : nt ≤ tn) (h2 : np ≤ pn) {r : Nat → Int32} {S : S3} (hA : Ag nt np r0 r) (h : CK T c (pMu T c q (nI 0)) tn pn r M0 M) {q' : PS} (e : q' = pMu T c q (nI 0)) : CW T c nt np r0 q' S M0 M := by
  subst e
  exact ⟨tn, pn, r, h, ht, hp, h1, h2, hA, fun g => absurd (pMu0_w.symm.trans g) (by decide)⟩
theorem cw_thing (hneg : pKd T q 7 < 0) (ht8 : tn < 8) (hp : pn ≤ 8) (h1 : nt ≤ tn) (h2 : np ≤ pn) (e1 : (cS I (nt, np, r0) m).1 = tn) (e2 : (cS I (nt, np, r0) m).2.1 = pn) {v2 v3 v4 v5 v6 v7 : Int32} (hA : Ag nt np r0 (cS I (nt, np, r0) m).2.2) (h : CK T c (pThg T c q tn pn).2 (tn + 1) pn (addR (cS I (nt, np, r0) m).2.2 tn v2 v3 v4 v5 v6 v7) M0 M) (hv : (pThg T c q tn pn).2.2.2.2.2 = false → itm (nI 10) v2 v3 v4 v5 v6 v7 = (pThg T c q tn pn).1) : CW T c nt np r0 (pItem T c q tn pn).2.2.2 (cS (upI I m (pItem T c q tn pn).1) (nt, np, r0) (m + 1)) M0 M := by
  have eq : pItem T c q tn pn = ((pThg T c q tn pn).1, tn + 1, pn, (pThg T c q tn pn).2) := if_pos hneg
  rw [eq, cS_n]
  refine ⟨tn + 1, pn, _, h, ht8, hp, by omega, h2, hA.add h1 ht8, fun g => ?_⟩
  dsimp only
  rw [← hv g, show apR (cS I (nt, np, r0) m) (itm (nI 10) v2 v3 v4 v5 v6 v7) = _ from if_pos rfl]
  exact ⟨by rw [e1], e2.symm, by rw [e1]; rfl⟩
theorem cw_person {k : Nat} (hk : k < 7) (hkd : pKd T q 7 = nI k) (ht : tn ≤ 8) (hp8 : pn < 8) (hn8 : nt ≤ 8) (h1 : nt ≤ tn) (h2 : np ≤ pn) (e1 : (cS I (nt, np, r0) m).1 = tn) (e2 : (cS I (nt, np, r0) m).2.1 = pn) {v3 v4 l0 l1 l2 l3 : Int32} (hA : Ag nt np r0 (cS I (nt, np, r0) m).2.2) (h : CK T c (pPer T c q (nI k) pn).2 tn (pn + 1) (joinR (cS I (nt, np, r0) m).2.2 pn (nI k) v3 v4 l0 l1 l2 l3) M0 M) (hv : (pPer T c q (nI k) pn).2.2.2.2.2 = false → itm (nI k) v3 v4 l0 l1 l2 l3 = (pPer T c q (nI k) pn).1) : CW T c nt np r0 (pItem T c q tn pn).2.2.2 (cS (upI I m (pItem T c q tn pn).1) (nt, np, r0) (m + 1)) M0 M := by
  have eq : pItem T c q tn pn = ((pPer T c q (pKd T q 7) pn).1, tn, pn + 1, (pPer T c q (pKd T q 7) pn).2) := if_neg (by rw [hkd]; exact jI_nn (by omega))
  rw [eq, cS_n, hkd]
  refine ⟨tn, pn + 1, _, h, ht, hp8, h1, by omega, hA.join h2 hn8, fun g => ?_⟩
  dsimp only
  rw [← hv g, show apR (cS I (nt, np, r0) m) (itm (nI k) v3 v4 l0 l1 l2 l3) = _ from if_neg (fun z => by have := jI_inj (by omega) (by decide) (show nI k = nI 10 from z); omega)]
  exact ⟨e1.symm, by rw [e2], by rw [e2]; rfl⟩
end CW
def qF (T : Nat → Nat) (c : Nat) (q : PS) : PS := if q.2.2.1 = 0 then q else pMu T c q (nI 0)
theorem qF_f {q : PS} (h : (qF T c q).2.2.2.2 = false) : q.2.2.2.2 = false ∧ q.2.2.1 = 0 := by
  by_cases e : q.2.2.1 = 0
  · rw [show qF T c q = q from if_pos e] at h
    exact ⟨h, e⟩
  · rw [show qF T c q = pMu T c q (nI 0) from if_neg e] at h
    exact absurd (pMu0_w.symm.trans h) (by decide)
theorem qF_w {q : PS} (h : (qF T c q).2.2.2.2 = true) : q.2.2.2.2 = true ∨ ¬ q.2.2.1 = 0 := by
  by_cases e : q.2.2.1 = 0
  · rw [show qF T c q = q from if_pos e] at h
    exact Or.inl h
  · exact Or.inr e
theorem qF_1 {q : PS} : (qF T c q).1 = q.1 := by
  unfold qF
  split
  · rfl
  · rw [show pMu T c q (nI 0) = (q.1, q.2.1, q.2.2.1, q.2.2.2.1, true) from if_pos (Or.inr rfl)]
theorem k91x {nt np : Nat} {r0 : Nat → Int32} {M0 : mM} {q : PS} {S : S3} {m : Nat} {x4 : Option Value} (h : CW T c nt np r0 q S M0 M) : mEv X (QI (fun v M' => v = nI m ∧ CW T c nt np r0 (qF T c q) S M0 M')) 91 18 [some (.ref 52), some (.ref 1), some (.int (nI m)), some (.int (nI 0)), x4] [] (con M) := by
  have hm : mMet 91 = some _ := rfl
  obtain ⟨tn, pn, r, hk, y1, y2, y3, y4, y5, y6⟩ := h
  have hs3 := hk.1.2.2.2.2.2.2.2.2.2.2.2.1
  refine x_iload_n hm rfl rfl ?_
  refine x_if_eq hm rfl (t := 125) rfl (fun h1 => ?_) (fun h1 => ?_)
  · refine x_aload_n hm rfl rfl ?_
    refine x_getf hm rfl (gI rfl rfl) ?_
    refine x_if_eq hm rfl (t := 136) rfl (fun h2 => ?_) (fun h2 => ?_)
    · have hs0 : q.2.2.1 = 0 := (tkc_e hs3 (by decide)).mp (hk.1.2.2.1.symm.trans h2)
      have hq : qF T c q = q := if_pos hs0
      refine x_iload_n hm rfl rfl ?_
      refine x_iret hm rfl rfl (by first | rfl | exact bI_nar | decide) ?_
      first
        | exact ⟨_, _, rfl, rfl, rfl, by rw [hq]; exact ⟨tn, pn, r, hk, y1, y2, y3, y4, y5, y6⟩⟩
        | exact ⟨_, _, rfl, rfl, rfl, by rw [hq]; exact ⟨tn, pn, r, r0, y1, y2, y3, y4, y5, fun g => absurd (pMu0_w.symm.trans g) (by decide)⟩⟩
    · have hs0 : ¬ q.2.2.1 = 0 := fun e => h2 (hk.1.2.2.1.trans ((tkc_e (k := 0) hs3 (by decide)).mpr e))
      have hq : qF T c q = pMu T c q (nI 0) := if_neg hs0
      refine x_aload_n hm rfl rfl ?_
      refine x_cVv hm rfl rfl (q112 hk) (fun M3 r3 => ?_)
      refine x_iload_n hm rfl rfl ?_
      refine x_iret hm rfl rfl (by first | rfl | exact bI_nar | decide) ?_
      first
        | exact ⟨_, _, rfl, rfl, rfl, by rw [hq]; exact ⟨tn, pn, r, r3, y1, y2, y3, y4, y5, fun g => absurd (pMu0_w.symm.trans g) (by decide)⟩⟩
        | exact ⟨_, _, rfl, rfl, rfl, by rw [hq]; exact ⟨tn, pn, r, hk, y1, y2, y3, y4, y5, y6⟩⟩
  · exact absurd rfl h1 --stop
theorem k91t {nt np : Nat} {r0 : Nat → Int32} {M0 : mM} {q : PS} {S : S3} {m : Nat} {x4 : Option Value} (hB : ∀ k, k < c → T k < 256) (h : CW T c nt np r0 q S M0 M) (hend : ¬ goC T q → mEv X Q 91 18 [some (.ref 52), some (.ref 1), some (.int (nI (m + 1))), some (.int (nI 0)), x4] [] (con M)) (hout : goC T q → ∀ M1, CW T c nt np r0 (pMu T c q (nI 1)) S M0 M1 → mEv X Q 91 18 [some (.ref 52), some (.ref 1), some (.int (nI (m + 1))), some (.int (nI 1)), x4] [] (con M1)) : mEv X Q 91 89 [some (.ref 52), some (.ref 1), some (.int (nI m)), some (.int (nI 1)), x4] [] (con M) := by
  have hm : mMet 91 = some _ := rfl
  obtain ⟨tn, pn, r, hk, g1, g2, g3, g4, g5, g6⟩ := id h
  have hs3 := hk.1.2.2.2.2.2.2.2.2.2.2.2.1
  refine x_iinc hm rfl rfl (v := nI 1) (by decide) rfl ?_
  rw [jI_add]
  refine x_aload_n hm rfl rfl ?_
  refine x_getf hm rfl (gI rfl rfl) ?_
  refine x_iconst hm rfl (v := (-1 : Int32)) (by decide) ?_
  refine x_icmp_ne hm rfl (t := 112) rfl (fun h1 => ?_) (fun h1 => ?_)
  · have hng : ¬ goC T q := fun z => absurd (z.1.symm.trans (hk.1.fw h1)) (by decide)
    refine x_iconst hm rfl (v := nI 0) (by decide) ?_
    refine x_istore_n hm rfl rfl ?_
    refine x_iload_n hm rfl rfl ?_
    refine x_if_eq hm rfl (t := 122) rfl (fun h2 => ?_) (fun h2 => ?_)
    · first
        | exact absurd (show nI 1 = (0 : Int32) by assumption) (by decide)
        | (refine x_goto hm rfl (t := 18) rfl ?_
           exact hend hng)
    · first
        | exact absurd rfl (show ¬ nI 0 = 0 by assumption)
        | (obtain ⟨M2, c2, r2⟩ := q92 (X := X) hB hk hf
           refine x_aload_n hm rfl rfl ?_
           refine x_callV hm rfl rfl c2 ?_
           refine x_goto hm rfl (t := 18) rfl ?_
           exact hout hgo _ ⟨tn, pn, r, r2, g1, g2, g3, g4, g5, fun _ => g6 hgo.1⟩)
  · have hf := hk.1.ff h1
    refine x_aload_n hm rfl rfl ?_
    refine x_getf hm rfl (gI rfl rfl) ?_
    refine x_iconst hm rfl (v := nI 3) (by decide) ?_
    refine x_icmp_ne hm rfl (t := 112) rfl (fun h3 => ?_) (fun h3 => ?_)
    · have hng : ¬ goC T q := fun z => h3 (hk.1.2.2.1.trans ((tkc_3 hs3).mpr z.2))
      refine x_iconst hm rfl (v := nI 0) (by decide) ?_
      refine x_istore_n hm rfl rfl ?_
      refine x_iload_n hm rfl rfl ?_
      refine x_if_eq hm rfl (t := 122) rfl (fun h4 => ?_) (fun h4 => ?_)
      · first
          | exact absurd (show nI 1 = (0 : Int32) by assumption) (by decide)
          | (refine x_goto hm rfl (t := 18) rfl ?_
             exact hend hng)
      · first
          | exact absurd rfl (show ¬ nI 0 = 0 by assumption)
          | (obtain ⟨M2, c2, r2⟩ := q92 (X := X) hB hk hf
             refine x_aload_n hm rfl rfl ?_
             refine x_callV hm rfl rfl c2 ?_
             refine x_goto hm rfl (t := 18) rfl ?_
             exact hout hgo _ ⟨tn, pn, r, r2, g1, g2, g3, g4, g5, fun _ => g6 hgo.1⟩)
    · have hgo : goC T q := ⟨hf, (tkc_3 hs3).mp (hk.1.2.2.1.symm.trans h3)⟩
      refine x_iconst hm rfl (v := nI 1) (by decide) ?_
      refine x_goto hm rfl (t := 113) rfl ?_
      refine x_istore_n hm rfl rfl ?_
      refine x_iload_n hm rfl rfl ?_
      refine x_if_eq hm rfl (t := 122) rfl (fun h5 => ?_) (fun h5 => ?_)
      · first
          | exact absurd (show nI 1 = (0 : Int32) by assumption) (by decide)
          | (refine x_goto hm rfl (t := 18) rfl ?_
             exact hend hng)
      · first
          | exact absurd rfl (show ¬ nI 0 = 0 by assumption)
          | (obtain ⟨M2, c2, r2⟩ := q92 (X := X) hB hk hf
             refine x_aload_n hm rfl rfl ?_
             refine x_callV hm rfl rfl c2 ?_
             refine x_goto hm rfl (t := 18) rfl ?_
             exact hout hgo _ ⟨tn, pn, r, r2, g1, g2, g3, g4, g5, fun _ => g6 hgo.1⟩)
theorem k91l {nt np : Nat} {r0 : Nat → Int32} {M0 : mM} (hB : ∀ k, k < c → T k < 256) (hn8 : nt ≤ 8) : ∀ (z m : Nat) (q : PS) (tn pn : Nat) (I : Nat → Nat → Int32) (x4 : Option Value) (M : mM), 17 - m < z → q.2.2.2.2 = false → Vi nt np r0 I m tn pn q → CK T c q tn pn (cS I (nt, np, r0) m).2.2 M0 M → Ag nt np r0 (cS I (nt, np, r0) m).2.2 → nt ≤ tn → np ≤ pn → mEv X (QI (fun v M' => v = nI (pI2 T c (16 - m) (pItem T c q tn pn).2.2.2 (pItem T c q tn pn).2.1 (pItem T c q tn pn).2.2.1 (m + 1) (upI I m (pItem T c q tn pn).1)).1 ∧ CW T c nt np r0 (qF T c (pI2 T c (16 - m) (pItem T c q tn pn).2.2.2 (pItem T c q tn pn).2.1 (pItem T c q tn pn).2.2.1 (m + 1) (upI I m (pItem T c q tn pn).1)).2.2) (cS (pI2 T c (16 - m) (pItem T c q tn pn).2.2.2 (pItem T c q tn pn).2.1 (pItem T c q tn pn).2.2.1 (m + 1) (upI I m (pItem T c q tn pn).1)).2.1 (nt, np, r0) (pI2 T c (16 - m) (pItem T c q tn pn).2.2.2 (pItem T c q tn pn).2.1 (pItem T c q tn pn).2.2.1 (m + 1) (upI I m (pItem T c q tn pn).1)).1) M0 M')) 91 18 [some (.ref 52), some (.ref 1), some (.int (nI m)), some (.int (nI 1)), x4] [] (con M) := by
  have hm : mMet 91 = some _ := rfl
  intro z
  induction z with
  | zero =>
    intro m q tn pn I x4 M hz hf hV hk hA hnt hnp
    omega
  | succ z ih =>
    intro m q tn pn I x4 M hz hf hV hk hA hnt hnp
    obtain ⟨l1, l2, l3⟩ := hV.le hf
    obtain ⟨u1, u2, -⟩ := hV hf
    have hVs := hV.step (T := T) hf hk.1.2.2.2.2.2.2.2
    refine x_iload_n hm rfl rfl ?_
    refine x_if_eq hm rfl (t := 125) rfl (fun h1 => ?_) (fun h1 => ?_)
    · exact absurd h1 (by decide) --stop
    · refine x_iload_n hm rfl rfl ?_
      refine x_bipush hm rfl (v := nI 120) (by decide) ?_
      refine x_icmp_gt hm rfl (t := 125) rfl (fun h2 => ?_) (fun h2 => ?_)
      · exact absurd ((jI_lt (by decide) (by omega)).mp h2) (by omega) --stop
      · refine x_aload_n hm rfl rfl ?_
        refine x_cVe hm rfl rfl (k95 hk.1 hB) (fun v3 r3 => ?_)
        subst r3
        refine x_istore hm rfl rfl ?_
        refine x_iload hm rfl rfl ?_
        refine x_iconst hm rfl (v := (-1 : Int32)) (by decide) ?_
        refine x_icmp_eq hm rfl (t := 59) rfl (fun h4 => ?_) (fun h4 => ?_)
        · have hneg : pKd T q 7 < 0 := by rw [h4]; decide
          have hqi : (pItem T c q tn pn).2.2.2 = (pThg T c q tn pn).2 := by rw [show pItem T c q tn pn = ((pThg T c q tn pn).1, tn + 1, pn, (pThg T c q tn pn).2) from if_pos hneg]
          refine x_aload_n hm rfl rfl ?_
          refine x_ldcS hm rfl ?_
          refine x_cVe hm rfl rfl (k97 hk.1 hB (t := 0) (by decide)) (fun v5 r5 => ?_)
          subst r5
          refine x_if_eq hm rfl (t := 85) rfl (fun h6 => ?_) (fun h6 => ?_)
          · first
              | (have hx : ¬ (pWd T q 0 ∧ tn < 8) := fun z => bI_eq0.mp h6 z.1
                 rw [pThg_w hx] at hqi)
              | skip
            refine x_aload_n hm rfl rfl ?_
            refine x_cVv hm rfl rfl (q112 hk) (fun M7 r7 => ?_)
            first
              | (have hcw := cw_fail (S := cS (upI I m (pItem T c q tn pn).1) (nt, np, r0) (m + 1)) l2 l3 hnt hnp hA r7 hqi
                 refine k91t hB hcw ?_ ?_
                 · intro hng
                   rw [pI2_e hng]
                   exact k91x hcw
                 · intro hgo M5 h5
                   obtain ⟨s1, s2, s3, s4, s5⟩ := hVs hgo.1
                   have hm16 := (hVs.le hgo.1).1
                   obtain ⟨f, hf16⟩ : ∃ f, 16 - m = f + 1 := ⟨15 - m, by omega⟩
                   rw [hf16, pI2_g hgo, show f = 16 - (m + 1) by omega]
                   obtain ⟨tn2, pn2, r2, d1, d2, d3, d4, d5, d6, d7⟩ := h5
                   have hw1 : (pMu T c (pItem T c q tn pn).2.2.2 (nI 1)).2.2.2.2 = false := by rw [pMu_g hgo.1]; exact pNx_w
                   obtain ⟨e1, e2, e3⟩ := d7 hw1
                   rw [s1] at e1
                   rw [s2] at e2
                   subst e1
                   subst e2
                   subst e3
                   exact ih (m + 1) _ _ _ _ _ _ (by omega) hw1 (fun _ => ⟨s1, s2, s3, s4, s5⟩) d1 d6 d4 d5)
              | (obtain ⟨v3, v4, j0, j1, j2, j3, r4, w4⟩ := r7
                 have hcw := cw_person hkk hkd l2 hlt8 hn8 hnt hnp u1 u2 hA r4 w4
                 refine k91t hB hcw ?_ ?_
                 · intro hng
                   rw [pI2_e hng]
                   exact k91x hcw
                 · intro hgo M5 h5
                   obtain ⟨s1, s2, s3, s4, s5⟩ := hVs hgo.1
                   have hm16 := (hVs.le hgo.1).1
                   obtain ⟨f, hf16⟩ : ∃ f, 16 - m = f + 1 := ⟨15 - m, by omega⟩
                   rw [hf16, pI2_g hgo, show f = 16 - (m + 1) by omega]
                   obtain ⟨tn2, pn2, r2, d1, d2, d3, d4, d5, d6, d7⟩ := h5
                   have hw1 : (pMu T c (pItem T c q tn pn).2.2.2 (nI 1)).2.2.2.2 = false := by rw [pMu_g hgo.1]; exact pNx_w
                   obtain ⟨e1, e2, e3⟩ := d7 hw1
                   rw [s1] at e1
                   rw [s2] at e2
                   subst e1
                   subst e2
                   subst e3
                   exact ih (m + 1) _ _ _ _ _ _ (by omega) hw1 (fun _ => ⟨s1, s2, s3, s4, s5⟩) d1 d6 d4 d5)
          · first
              | exact absurd (wd_u hwk (bI_ne0 (by assumption))) (kt_t kk hkk)
              | (have hw0 : pWd T q 0 := bI_ne0 (by assumption)
                 refine x_aload_n hm rfl rfl ?_
                 refine x_getf hm rfl (gI rfl rfl) ?_
                 rw [hk.2.1.1]
                 refine x_bipush hm rfl (v := nI 8) (by decide) ?_
                 refine x_icmp_ge hm rfl (t := 85) rfl (fun h90 => ?_) (fun h90 => ?_)
                 · have hx : ¬ (pWd T q 0 ∧ tn < 8) := fun z => by have := (jI_le (by omega) (by omega)).mp h90; omega
                   rw [pThg_w hx] at hqi
                   obtain ⟨M4, c4, r4⟩ := q112 (X := X) hk
                   refine x_aload_n hm rfl rfl ?_
                   refine x_callV hm rfl rfl c4 ?_
                   have hcw := cw_fail (S := cS (upI I m (pItem T c q tn pn).1) (nt, np, r0) (m + 1)) l2 l3 hnt hnp hA r4 hqi
                   refine k91t hB hcw ?_ ?_
                   · intro hng
                     rw [pI2_e hng]
                     exact k91x hcw
                   · intro hgo M5 h5
                     obtain ⟨s1, s2, s3, s4, s5⟩ := hVs hgo.1
                     have hm16 := (hVs.le hgo.1).1
                     obtain ⟨f, hf16⟩ : ∃ f, 16 - m = f + 1 := ⟨15 - m, by omega⟩
                     rw [hf16, pI2_g hgo, show f = 16 - (m + 1) by omega]
                     obtain ⟨tn2, pn2, r2, d1, d2, d3, d4, d5, d6, d7⟩ := h5
                     have hw1 : (pMu T c (pItem T c q tn pn).2.2.2 (nI 1)).2.2.2.2 = false := by rw [pMu_g hgo.1]; exact pNx_w
                     obtain ⟨e1, e2, e3⟩ := d7 hw1
                     rw [s1] at e1
                     rw [s2] at e2
                     subst e1
                     subst e2
                     subst e3
                     exact ih (m + 1) _ _ _ _ _ _ (by omega) hw1 (fun _ => ⟨s1, s2, s3, s4, s5⟩) d1 d6 d4 d5
                 · have hlt8 : tn < 8 := Nat.lt_of_not_le fun q => h90 (nI_le q (by omega))
                   refine x_aload_n hm rfl rfl ?_
                   refine x_aload_n hm rfl rfl ?_
                   obtain ⟨M4, c4, v2, v3, v4, v5, v6, v7, r4, w4⟩ := k113 (X := X) hB hk hf hw0 hlt8 l3
                   refine x_callV hm rfl rfl c4 ?_
                   refine x_goto hm rfl (t := 89) rfl ?_
                   have hcw := cw_thing hneg hlt8 l3 hnt hnp u1 u2 hA r4 w4
                   refine k91t hB hcw ?_ ?_
                   · intro hng
                     rw [pI2_e hng]
                     exact k91x hcw
                   · intro hgo M5 h5
                     obtain ⟨s1, s2, s3, s4, s5⟩ := hVs hgo.1
                     have hm16 := (hVs.le hgo.1).1
                     obtain ⟨f, hf16⟩ : ∃ f, 16 - m = f + 1 := ⟨15 - m, by omega⟩
                     rw [hf16, pI2_g hgo, show f = 16 - (m + 1) by omega]
                     obtain ⟨tn2, pn2, r2, d1, d2, d3, d4, d5, d6, d7⟩ := h5
                     have hw1 : (pMu T c (pItem T c q tn pn).2.2.2 (nI 1)).2.2.2.2 = false := by rw [pMu_g hgo.1]; exact pNx_w
                     obtain ⟨e1, e2, e3⟩ := d7 hw1
                     rw [s1] at e1
                     rw [s2] at e2
                     subst e1
                     subst e2
                     subst e3
                     exact ih (m + 1) _ _ _ _ _ _ (by omega) hw1 (fun _ => ⟨s1, s2, s3, s4, s5⟩) d1 d6 d4 d5)
        · obtain ⟨kk, hkk, hkd, hwk⟩ := (pKd_k (T := T) (q := q) 7 (Nat.le_refl _)).resolve_left h4
          have hqi : (pItem T c q tn pn).2.2.2 = (pPer T c q (pKd T q 7) pn).2 := by rw [show pItem T c q tn pn = ((pPer T c q (pKd T q 7) pn).1, tn, pn + 1, (pPer T c q (pKd T q 7) pn).2) from if_neg (by rw [hkd]; exact jI_nn (by omega))]
          refine x_aload_n hm rfl rfl ?_
          refine x_getf hm rfl (gI rfl rfl) ?_
          rw [hk.2.1.2.1]
          refine x_bipush hm rfl (v := nI 8) (by decide) ?_
          refine x_icmp_ge hm rfl (t := 59) rfl (fun h8 => ?_) (fun h8 => ?_)
          · have hge8 : ¬ pn < 8 := fun q => by have := (jI_le (by omega) (by omega)).mp h8; omega
            rw [pPer_w hge8] at hqi
            refine x_aload_n hm rfl rfl ?_
            refine x_ldcS hm rfl ?_
            refine x_cVe hm rfl rfl (k97 hk.1 hB (t := 0) (by decide)) (fun v9 r9 => ?_)
            subst r9
            refine x_if_eq hm rfl (t := 85) rfl (fun h10 => ?_) (fun h10 => ?_)
            · first
                | (have hx : ¬ (pWd T q 0 ∧ tn < 8) := fun z => bI_eq0.mp h10 z.1
                   rw [pThg_w hx] at hqi)
                | skip
              refine x_aload_n hm rfl rfl ?_
              refine x_cVv hm rfl rfl (q112 hk) (fun M11 r11 => ?_)
              first
                | (have hcw := cw_fail (S := cS (upI I m (pItem T c q tn pn).1) (nt, np, r0) (m + 1)) l2 l3 hnt hnp hA r11 hqi
                   refine k91t hB hcw ?_ ?_
                   · intro hng
                     rw [pI2_e hng]
                     exact k91x hcw
                   · intro hgo M5 h5
                     obtain ⟨s1, s2, s3, s4, s5⟩ := hVs hgo.1
                     have hm16 := (hVs.le hgo.1).1
                     obtain ⟨f, hf16⟩ : ∃ f, 16 - m = f + 1 := ⟨15 - m, by omega⟩
                     rw [hf16, pI2_g hgo, show f = 16 - (m + 1) by omega]
                     obtain ⟨tn2, pn2, r2, d1, d2, d3, d4, d5, d6, d7⟩ := h5
                     have hw1 : (pMu T c (pItem T c q tn pn).2.2.2 (nI 1)).2.2.2.2 = false := by rw [pMu_g hgo.1]; exact pNx_w
                     obtain ⟨e1, e2, e3⟩ := d7 hw1
                     rw [s1] at e1
                     rw [s2] at e2
                     subst e1
                     subst e2
                     subst e3
                     exact ih (m + 1) _ _ _ _ _ _ (by omega) hw1 (fun _ => ⟨s1, s2, s3, s4, s5⟩) d1 d6 d4 d5)
                | (obtain ⟨v3, v4, j0, j1, j2, j3, r4, w4⟩ := r11
                   have hcw := cw_person hkk hkd l2 hlt8 hn8 hnt hnp u1 u2 hA r4 w4
                   refine k91t hB hcw ?_ ?_
                   · intro hng
                     rw [pI2_e hng]
                     exact k91x hcw
                   · intro hgo M5 h5
                     obtain ⟨s1, s2, s3, s4, s5⟩ := hVs hgo.1
                     have hm16 := (hVs.le hgo.1).1
                     obtain ⟨f, hf16⟩ : ∃ f, 16 - m = f + 1 := ⟨15 - m, by omega⟩
                     rw [hf16, pI2_g hgo, show f = 16 - (m + 1) by omega]
                     obtain ⟨tn2, pn2, r2, d1, d2, d3, d4, d5, d6, d7⟩ := h5
                     have hw1 : (pMu T c (pItem T c q tn pn).2.2.2 (nI 1)).2.2.2.2 = false := by rw [pMu_g hgo.1]; exact pNx_w
                     obtain ⟨e1, e2, e3⟩ := d7 hw1
                     rw [s1] at e1
                     rw [s2] at e2
                     subst e1
                     subst e2
                     subst e3
                     exact ih (m + 1) _ _ _ _ _ _ (by omega) hw1 (fun _ => ⟨s1, s2, s3, s4, s5⟩) d1 d6 d4 d5)
            · first
                | exact absurd (wd_u hwk (bI_ne0 (by assumption))) (kt_t kk hkk)
                | (have hw0 : pWd T q 0 := bI_ne0 (by assumption)
                   refine x_aload_n hm rfl rfl ?_
                   refine x_getf hm rfl (gI rfl rfl) ?_
                   rw [hk.2.1.1]
                   refine x_bipush hm rfl (v := nI 8) (by decide) ?_
                   refine x_icmp_ge hm rfl (t := 85) rfl (fun h90 => ?_) (fun h90 => ?_)
                   · have hx : ¬ (pWd T q 0 ∧ tn < 8) := fun z => by have := (jI_le (by omega) (by omega)).mp h90; omega
                     rw [pThg_w hx] at hqi
                     obtain ⟨M4, c4, r4⟩ := q112 (X := X) hk
                     refine x_aload_n hm rfl rfl ?_
                     refine x_callV hm rfl rfl c4 ?_
                     have hcw := cw_fail (S := cS (upI I m (pItem T c q tn pn).1) (nt, np, r0) (m + 1)) l2 l3 hnt hnp hA r4 hqi
                     refine k91t hB hcw ?_ ?_
                     · intro hng
                       rw [pI2_e hng]
                       exact k91x hcw
                     · intro hgo M5 h5
                       obtain ⟨s1, s2, s3, s4, s5⟩ := hVs hgo.1
                       have hm16 := (hVs.le hgo.1).1
                       obtain ⟨f, hf16⟩ : ∃ f, 16 - m = f + 1 := ⟨15 - m, by omega⟩
                       rw [hf16, pI2_g hgo, show f = 16 - (m + 1) by omega]
                       obtain ⟨tn2, pn2, r2, d1, d2, d3, d4, d5, d6, d7⟩ := h5
                       have hw1 : (pMu T c (pItem T c q tn pn).2.2.2 (nI 1)).2.2.2.2 = false := by rw [pMu_g hgo.1]; exact pNx_w
                       obtain ⟨e1, e2, e3⟩ := d7 hw1
                       rw [s1] at e1
                       rw [s2] at e2
                       subst e1
                       subst e2
                       subst e3
                       exact ih (m + 1) _ _ _ _ _ _ (by omega) hw1 (fun _ => ⟨s1, s2, s3, s4, s5⟩) d1 d6 d4 d5
                   · have hlt8 : tn < 8 := Nat.lt_of_not_le fun q => h90 (nI_le q (by omega))
                     refine x_aload_n hm rfl rfl ?_
                     refine x_aload_n hm rfl rfl ?_
                     obtain ⟨M4, c4, v2, v3, v4, v5, v6, v7, r4, w4⟩ := k113 (X := X) hB hk hf hw0 hlt8 l3
                     refine x_callV hm rfl rfl c4 ?_
                     refine x_goto hm rfl (t := 89) rfl ?_
                     have hcw := cw_thing hneg hlt8 l3 hnt hnp u1 u2 hA r4 w4
                     refine k91t hB hcw ?_ ?_
                     · intro hng
                       rw [pI2_e hng]
                       exact k91x hcw
                     · intro hgo M5 h5
                       obtain ⟨s1, s2, s3, s4, s5⟩ := hVs hgo.1
                       have hm16 := (hVs.le hgo.1).1
                       obtain ⟨f, hf16⟩ : ∃ f, 16 - m = f + 1 := ⟨15 - m, by omega⟩
                       rw [hf16, pI2_g hgo, show f = 16 - (m + 1) by omega]
                       obtain ⟨tn2, pn2, r2, d1, d2, d3, d4, d5, d6, d7⟩ := h5
                       have hw1 : (pMu T c (pItem T c q tn pn).2.2.2 (nI 1)).2.2.2.2 = false := by rw [pMu_g hgo.1]; exact pNx_w
                       obtain ⟨e1, e2, e3⟩ := d7 hw1
                       rw [s1] at e1
                       rw [s2] at e2
                       subst e1
                       subst e2
                       subst e3
                       exact ih (m + 1) _ _ _ _ _ _ (by omega) hw1 (fun _ => ⟨s1, s2, s3, s4, s5⟩) d1 d6 d4 d5)
          · have hlt8 : pn < 8 := Nat.lt_of_not_le fun q => h8 (nI_le q (by omega))
            rw [hkd]
            refine x_aload_n hm rfl rfl ?_
            refine x_aload_n hm rfl rfl ?_
            refine x_iload hm rfl rfl ?_
            refine x_cVv hm rfl rfl (k109 hB hk hf l2 hlt8) (fun M12 r12 => ?_)
            refine x_goto hm rfl (t := 89) rfl ?_
            first
              | (have hcw := cw_fail (S := cS (upI I m (pItem T c q tn pn).1) (nt, np, r0) (m + 1)) l2 l3 hnt hnp hA r12 hqi
                 refine k91t hB hcw ?_ ?_
                 · intro hng
                   rw [pI2_e hng]
                   exact k91x hcw
                 · intro hgo M5 h5
                   obtain ⟨s1, s2, s3, s4, s5⟩ := hVs hgo.1
                   have hm16 := (hVs.le hgo.1).1
                   obtain ⟨f, hf16⟩ : ∃ f, 16 - m = f + 1 := ⟨15 - m, by omega⟩
                   rw [hf16, pI2_g hgo, show f = 16 - (m + 1) by omega]
                   obtain ⟨tn2, pn2, r2, d1, d2, d3, d4, d5, d6, d7⟩ := h5
                   have hw1 : (pMu T c (pItem T c q tn pn).2.2.2 (nI 1)).2.2.2.2 = false := by rw [pMu_g hgo.1]; exact pNx_w
                   obtain ⟨e1, e2, e3⟩ := d7 hw1
                   rw [s1] at e1
                   rw [s2] at e2
                   subst e1
                   subst e2
                   subst e3
                   exact ih (m + 1) _ _ _ _ _ _ (by omega) hw1 (fun _ => ⟨s1, s2, s3, s4, s5⟩) d1 d6 d4 d5)
              | (obtain ⟨v3, v4, j0, j1, j2, j3, r4, w4⟩ := r12
                 have hcw := cw_person hkk hkd l2 hlt8 hn8 hnt hnp u1 u2 hA r4 w4
                 refine k91t hB hcw ?_ ?_
                 · intro hng
                   rw [pI2_e hng]
                   exact k91x hcw
                 · intro hgo M5 h5
                   obtain ⟨s1, s2, s3, s4, s5⟩ := hVs hgo.1
                   have hm16 := (hVs.le hgo.1).1
                   obtain ⟨f, hf16⟩ : ∃ f, 16 - m = f + 1 := ⟨15 - m, by omega⟩
                   rw [hf16, pI2_g hgo, show f = 16 - (m + 1) by omega]
                   obtain ⟨tn2, pn2, r2, d1, d2, d3, d4, d5, d6, d7⟩ := h5
                   have hw1 : (pMu T c (pItem T c q tn pn).2.2.2 (nI 1)).2.2.2.2 = false := by rw [pMu_g hgo.1]; exact pNx_w
                   obtain ⟨e1, e2, e3⟩ := d7 hw1
                   rw [s1] at e1
                   rw [s2] at e2
                   subst e1
                   subst e2
                   subst e3
                   exact ih (m + 1) _ _ _ _ _ _ (by omega) hw1 (fun _ => ⟨s1, s2, s3, s4, s5⟩) d1 d6 d4 d5)
end CZ
