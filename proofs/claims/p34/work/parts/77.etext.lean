/-! ===== texts: both sides ===== -/
section CZ
variable {X : mSc} {Q : Option Value → mHp → Prop} {M : mM} {T : Nat → Nat} {c : Nat}
/-- rows alike, as far as the first things and people go -/
def Ag (nt np : Nat) (r0 r : Nat → Int32) : Prop := r 0 = r0 0 ∧ r 3 = r0 3 ∧ (∀ s, s < 10 → r (4 + s) = r0 (4 + s)) ∧ (∀ f t, f < 6 → t < nt → r (14 + 6 * t + f) = r0 (14 + 6 * t + f)) ∧ (∀ f p, f < 7 → p < np → r (62 + 7 * p + f) = r0 (62 + 7 * p + f))
theorem Ag.rf {nt np : Nat} {r : Nat → Int32} : Ag nt np r r := ⟨rfl, rfl, fun _ _ => rfl, fun _ _ _ _ => rfl, fun _ _ _ _ => rfl⟩
theorem Ag.add {nt np tn : Nat} {r0 r : Nat → Int32} {a b d e f g : Int32} (h : Ag nt np r0 r) (h1 : nt ≤ tn) (h8 : tn < 8) : Ag nt np r0 (addR r tn a b d e f g) := by
  obtain ⟨g1, g2, g3, g4, g5⟩ := h
  refine ⟨?_, ?_, fun s hs => ?_, fun f t hf ht => ?_, fun f p hf hp => ?_⟩
  · rw [addR_o (by decide) (by omega)]; exact g1
  · rw [addR_o (by decide) (by omega)]; exact g2
  · rw [addR_o (by omega) (by omega)]; exact g3 s hs
  · rw [addR_o (by omega) (by omega)]; exact g4 f t hf ht
  · rw [addR_o (by omega) (by omega)]; exact g5 f p hf hp
theorem Ag.join {nt np pn : Nat} {r0 r : Nat → Int32} {a b d e f g i : Int32} (h : Ag nt np r0 r) (h1 : np ≤ pn) (h8 : nt ≤ 8) : Ag nt np r0 (joinR r pn a b d e f g i) := by
  obtain ⟨g1, g2, g3, g4, g5⟩ := h
  refine ⟨?_, ?_, fun s hs => ?_, fun f t hf ht => ?_, fun f p hf hp => ?_⟩
  · rw [joinR_o (by decide) (by omega)]; exact g1
  · rw [joinR_o (by decide) (by omega)]; exact g2
  · rw [joinR_o (by omega) (by omega)]; exact g3 s hs
  · rw [joinR_o (by omega) (by omega)]; exact g4 f t hf ht
  · rw [joinR_o (by omega) (by omega)]; exact g5 f p hf hp
theorem Rel.low {nt np tn pn : Nat} {r0 r : Nat → Int32} (h : Rel 1 tn pn M r) (g : Ag nt np r0 r) (h1 : nt ≤ tn) (h2 : np ≤ pn) : Rel 1 nt np (mput (mput M 1 3 (nI nt)) 1 4 (nI np)) r0 := by
  obtain ⟨a1, a2, a3, a4, a5, a6, a7⟩ := h
  obtain ⟨g1, g2, g3, g4, g5⟩ := g
  have e : ∀ a x, (a ≠ 1 ∨ (x ≠ 3 ∧ x ≠ 4)) → mput (mput M 1 3 (nI nt)) 1 4 (nI np) a x = M a x := fun a x hx => by rw [mpn (by omega), mpn (by omega)]
  exact ⟨(mpf (by decide)).trans mp0, mp0, (e 1 5 (by omega)).trans (a3.trans g1), (e 1 6 (by omega)).trans (a4.trans g2), fun s hs => (e _ _ (by omega)).trans ((a5 s hs).trans (g3 s hs)), fun f t hf ht => (e _ _ (by omega)).trans ((a6 f t hf (by omega)).trans (g4 f t hf ht)), fun f p hf hp => (e _ _ (by omega)).trans ((a7 f p hf (by omega)).trans (g5 f p hf hp))⟩
/-- the class's reader and town, where something may be wrong -/
def CW (T : Nat → Nat) (c nt np : Nat) (r0 : Nat → Int32) (q : PS) (S : S3) (M0 M : mM) : Prop := ∃ tn pn r, CK T c q tn pn r M0 M ∧ tn ≤ 8 ∧ pn ≤ 8 ∧ nt ≤ tn ∧ np ≤ pn ∧ Ag nt np r0 r ∧ (q.2.2.2.2 = false → tn = S.1 ∧ pn = S.2.1 ∧ r = S.2.2)
section CW
variable {nt np m tn pn : Nat} {r0 : Nat → Int32} {I : Nat → Nat → Int32} {q : PS} {M0 : mM}
theorem cS_n {it : Nat → Int32} {S : S3} : cS (upI I m it) S (m + 1) = apR (cS I S m) it := by
  show apR (cS (upI I m it) S m) (upI I m it m) = _
  rw [upI_s, cS_u m (Nat.le_refl _)]
theorem cw_fail (ht : tn ≤ 8) (hp : pn ≤ 8) (h1 : nt ≤ tn) (h2 : np ≤ pn) {r : Nat → Int32} {S : S3} (hA : Ag nt np r0 r) (h : CK T c (pMu T c q (nI 0)) tn pn r M0 M) {q' : PS} (e : q' = pMu T c q (nI 0)) : CW T c nt np r0 q' S M0 M := by
  subst e
  exact ⟨tn, pn, r, h, ht, hp, h1, h2, hA, fun g => absurd (pMu0_w.symm.trans g) (by decide)⟩
theorem cw_thing (hneg : pKd T q 7 < 0) (ht8 : tn < 8) (hp : pn ≤ 8) (h1 : nt ≤ tn) (h2 : np ≤ pn) (e1 : (cS I (nt, np, r0) m).1 = tn) (e2 : (cS I (nt, np, r0) m).2.1 = pn) {v2 v3 v4 v5 v6 v7 : Int32} (hA : Ag nt np r0 (cS I (nt, np, r0) m).2.2) (h : CK T c (pThg T c q tn pn).2 (tn + 1) pn (addR (cS I (nt, np, r0) m).2.2 tn v2 v3 v4 v5 v6 v7) M0 M) (hv : (pThg T c q tn pn).2.2.2.2.2 = false → itm (nI 10) v2 v3 v4 v5 v6 v7 = (pThg T c q tn pn).1) : CW T c nt np r0 (pItem T c q tn pn).2.2.2 (cS (upI I m (pItem T c q tn pn).1) (nt, np, r0) (m + 1)) M0 M := by
  have eq : pItem T c q tn pn = ((pThg T c q tn pn).1, tn + 1, pn, (pThg T c q tn pn).2) := if_pos hneg
  rw [eq, cS_n]
  refine ⟨tn + 1, pn, _, h, ht8, hp, by omega, h2, hA.add h1 ht8, fun g => ?_⟩
  dsimp only
  rw [← hv g, show apR (cS I (nt, np, r0) m) (itm (nI 10) v2 v3 v4 v5 v6 v7) = _ from if_pos rfl]
  exact ⟨by rw [e1], e2.symm, by rw [e1]; rfl⟩
theorem cw_person {k : Nat} (hk : k < 7) (hkd : pKd T q 7 = nI k) (ht : tn ≤ 8) (hp8 : pn < 8) (hn8 : nt ≤ 8) (h1 : nt ≤ tn) (h2 : np ≤ pn) (e1 : (cS I (nt, np, r0) m).1 = tn) (e2 : (cS I (nt, np, r0) m).2.1 = pn) {v3 v4 l0 l1 l2 l3 : Int32} (hA : Ag nt np r0 (cS I (nt, np, r0) m).2.2) (h : CK T c (pPer T c q (nI k) pn).2 tn (pn + 1) (joinR (cS I (nt, np, r0) m).2.2 pn (nI k) v3 v4 l0 l1 l2 l3) M0 M) (hv : (pPer T c q (nI k) pn).2.2.2.2.2 = false → itm (nI k) v3 v4 l0 l1 l2 l3 = (pPer T c q (nI k) pn).1) : CW T c nt np r0 (pItem T c q tn pn).2.2.2 (cS (upI I m (pItem T c q tn pn).1) (nt, np, r0) (m + 1)) M0 M := by
  have eq : pItem T c q tn pn = ((pPer T c q (pKd T q 7) pn).1, tn, pn + 1, (pPer T c q (pKd T q 7) pn).2) := if_neg (by rw [hkd]; exact jI_nn (by omega))
  rw [eq, cS_n, hkd]
  refine ⟨tn, pn + 1, _, h, ht, hp8, h1, by omega, hA.join h2 hn8, fun g => ?_⟩
  dsimp only
  rw [← hv g, show apR (cS I (nt, np, r0) m) (itm (nI k) v3 v4 l0 l1 l2 l3) = _ from if_neg (fun z => by have := jI_inj (by omega) (by decide) (show nI k = nI 10 from z); omega)]
  exact ⟨e1.symm, by rw [e2], by rw [e2]; rfl⟩
end CW
def qF (T : Nat → Nat) (c : Nat) (q : PS) : PS := if q.2.2.1 = 0 then q else pMu T c q (nI 0)
theorem qF_f {q : PS} (h : (qF T c q).2.2.2.2 = false) : q.2.2.2.2 = false ∧ q.2.2.1 = 0 := by
  by_cases e : q.2.2.1 = 0
  · rw [show qF T c q = q from if_pos e] at h
    exact ⟨h, e⟩
  · rw [show qF T c q = pMu T c q (nI 0) from if_neg e] at h
    exact absurd (pMu0_w.symm.trans h) (by decide)
theorem qF_w {q : PS} (h : (qF T c q).2.2.2.2 = true) : q.2.2.2.2 = true ∨ ¬ q.2.2.1 = 0 := by
  by_cases e : q.2.2.1 = 0
  · rw [show qF T c q = q from if_pos e] at h
    exact Or.inl h
  · exact Or.inr e
theorem qF_1 {q : PS} : (qF T c q).1 = q.1 := by
  unfold qF
  split
  · rfl
  · rw [show pMu T c q (nI 0) = (q.1, q.2.1, q.2.2.1, q.2.2.2.1, true) from if_pos (Or.inr rfl)]
theorem k91x {nt np : Nat} {r0 : Nat → Int32} {M0 : mM} {q : PS} {S : S3} {m : Nat} {x4 : Option Value} (h : CW T c nt np r0 q S M0 M) : mEv X (QI (fun v M' => v = nI m ∧ CW T c nt np r0 (qF T c q) S M0 M')) 91 18 [some (.ref 52), some (.ref 1), some (.int (nI m)), some (.int (nI 0)), x4] [] (con M) := by
  have hm : mMet 91 = some _ := rfl
  obtain ⟨tn, pn, r, hk, y1, y2, y3, y4, y5, y6⟩ := h
  have hs3 := hk.1.2.2.2.2.2.2.2.2.2.2.2.1
  refine x_iload_n hm rfl rfl ?_
  refine x_if_eq hm rfl (t := 125) rfl (fun h1 => ?_) (fun h1 => ?_)
  · refine x_aload_n hm rfl rfl ?_
    refine x_getf hm rfl (gI rfl rfl) ?_
    refine x_if_eq hm rfl (t := 136) rfl (fun h2 => ?_) (fun h2 => ?_)
    · have hs0 : q.2.2.1 = 0 := (tkc_e hs3 (by decide)).mp (hk.1.2.2.1.symm.trans h2)
      have hq : qF T c q = q := if_pos hs0
      refine x_iload_n hm rfl rfl ?_
      refine x_iret hm rfl rfl (by first | rfl | exact bI_nar | decide) ?_
      first
        | exact ⟨_, _, rfl, rfl, rfl, by rw [hq]; exact ⟨tn, pn, r, hk, y1, y2, y3, y4, y5, y6⟩⟩
        | exact ⟨_, _, rfl, rfl, rfl, by rw [hq]; exact ⟨tn, pn, r, r0, y1, y2, y3, y4, y5, fun g => absurd (pMu0_w.symm.trans g) (by decide)⟩⟩
    · have hs0 : ¬ q.2.2.1 = 0 := fun e => h2 (hk.1.2.2.1.trans ((tkc_e (k := 0) hs3 (by decide)).mpr e))
      have hq : qF T c q = pMu T c q (nI 0) := if_neg hs0
      refine x_aload_n hm rfl rfl ?_
      refine x_cVv hm rfl rfl (q112 hk) (fun M3 r3 => ?_)
      refine x_iload_n hm rfl rfl ?_
      refine x_iret hm rfl rfl (by first | rfl | exact bI_nar | decide) ?_
      first
        | exact ⟨_, _, rfl, rfl, rfl, by rw [hq]; exact ⟨tn, pn, r, r3, y1, y2, y3, y4, y5, fun g => absurd (pMu0_w.symm.trans g) (by decide)⟩⟩
        | exact ⟨_, _, rfl, rfl, rfl, by rw [hq]; exact ⟨tn, pn, r, hk, y1, y2, y3, y4, y5, y6⟩⟩
  · exact absurd rfl h1 --stop
theorem k91t {nt np : Nat} {r0 : Nat → Int32} {M0 : mM} {q : PS} {S : S3} {m : Nat} {x4 : Option Value} (hB : ∀ k, k < c → T k < 256) (h : CW T c nt np r0 q S M0 M) (hend : ¬ goC T q → mEv X Q 91 18 [some (.ref 52), some (.ref 1), some (.int (nI (m + 1))), some (.int (nI 0)), x4] [] (con M)) (hout : goC T q → ∀ M1, CW T c nt np r0 (pMu T c q (nI 1)) S M0 M1 → mEv X Q 91 18 [some (.ref 52), some (.ref 1), some (.int (nI (m + 1))), some (.int (nI 1)), x4] [] (con M1)) : mEv X Q 91 89 [some (.ref 52), some (.ref 1), some (.int (nI m)), some (.int (nI 1)), x4] [] (con M) := by
  have hm : mMet 91 = some _ := rfl
  obtain ⟨tn, pn, r, hk, g1, g2, g3, g4, g5, g6⟩ := id h
  have hs3 := hk.1.2.2.2.2.2.2.2.2.2.2.2.1
  refine x_iinc hm rfl rfl (v := nI 1) (by decide) rfl ?_
  rw [jI_add]
  refine x_aload_n hm rfl rfl ?_
  refine x_getf hm rfl (gI rfl rfl) ?_
  refine x_iconst hm rfl (v := (-1 : Int32)) (by decide) ?_
  refine x_icmp_ne hm rfl (t := 112) rfl (fun h1 => ?_) (fun h1 => ?_)
  · have hng : ¬ goC T q := fun z => absurd (z.1.symm.trans (hk.1.fw h1)) (by decide)
    refine x_iconst hm rfl (v := nI 0) (by decide) ?_
    refine x_istore_n hm rfl rfl ?_
    refine x_iload_n hm rfl rfl ?_
    refine x_if_eq hm rfl (t := 122) rfl (fun h2 => ?_) (fun h2 => ?_)
    · first
        | exact absurd (show nI 1 = (0 : Int32) by assumption) (by decide)
        | (refine x_goto hm rfl (t := 18) rfl ?_
           exact hend hng)
    · first
        | exact absurd rfl (show ¬ nI 0 = 0 by assumption)
        | (obtain ⟨M2, c2, r2⟩ := q92 (X := X) hB hk hf
           refine x_aload_n hm rfl rfl ?_
           refine x_callV hm rfl rfl c2 ?_
           refine x_goto hm rfl (t := 18) rfl ?_
           exact hout hgo _ ⟨tn, pn, r, r2, g1, g2, g3, g4, g5, fun _ => g6 hgo.1⟩)
  · have hf := hk.1.ff h1
    refine x_aload_n hm rfl rfl ?_
    refine x_getf hm rfl (gI rfl rfl) ?_
    refine x_iconst hm rfl (v := nI 3) (by decide) ?_
    refine x_icmp_ne hm rfl (t := 112) rfl (fun h3 => ?_) (fun h3 => ?_)
    · have hng : ¬ goC T q := fun z => h3 (hk.1.2.2.1.trans ((tkc_3 hs3).mpr z.2))
      refine x_iconst hm rfl (v := nI 0) (by decide) ?_
      refine x_istore_n hm rfl rfl ?_
      refine x_iload_n hm rfl rfl ?_
      refine x_if_eq hm rfl (t := 122) rfl (fun h4 => ?_) (fun h4 => ?_)
      · first
          | exact absurd (show nI 1 = (0 : Int32) by assumption) (by decide)
          | (refine x_goto hm rfl (t := 18) rfl ?_
             exact hend hng)
      · first
          | exact absurd rfl (show ¬ nI 0 = 0 by assumption)
          | (obtain ⟨M2, c2, r2⟩ := q92 (X := X) hB hk hf
             refine x_aload_n hm rfl rfl ?_
             refine x_callV hm rfl rfl c2 ?_
             refine x_goto hm rfl (t := 18) rfl ?_
             exact hout hgo _ ⟨tn, pn, r, r2, g1, g2, g3, g4, g5, fun _ => g6 hgo.1⟩)
    · have hgo : goC T q := ⟨hf, (tkc_3 hs3).mp (hk.1.2.2.1.symm.trans h3)⟩
      refine x_iconst hm rfl (v := nI 1) (by decide) ?_
      refine x_goto hm rfl (t := 113) rfl ?_
      refine x_istore_n hm rfl rfl ?_
      refine x_iload_n hm rfl rfl ?_
      refine x_if_eq hm rfl (t := 122) rfl (fun h5 => ?_) (fun h5 => ?_)
      · first
          | exact absurd (show nI 1 = (0 : Int32) by assumption) (by decide)
          | (refine x_goto hm rfl (t := 18) rfl ?_
             exact hend hng)
      · first
          | exact absurd rfl (show ¬ nI 0 = 0 by assumption)
          | (obtain ⟨M2, c2, r2⟩ := q92 (X := X) hB hk hf
             refine x_aload_n hm rfl rfl ?_
             refine x_callV hm rfl rfl c2 ?_
             refine x_goto hm rfl (t := 18) rfl ?_
             exact hout hgo _ ⟨tn, pn, r, r2, g1, g2, g3, g4, g5, fun _ => g6 hgo.1⟩)
theorem k91l {nt np : Nat} {r0 : Nat → Int32} {M0 : mM} (hB : ∀ k, k < c → T k < 256) (hn8 : nt ≤ 8) : ∀ (z m : Nat) (q : PS) (tn pn : Nat) (I : Nat → Nat → Int32) (x4 : Option Value) (M : mM), 17 - m < z → q.2.2.2.2 = false → Vi nt np r0 I m tn pn q → CK T c q tn pn (cS I (nt, np, r0) m).2.2 M0 M → Ag nt np r0 (cS I (nt, np, r0) m).2.2 → nt ≤ tn → np ≤ pn → mEv X (QI (fun v M' => v = nI (pI2 T c (16 - m) (pItem T c q tn pn).2.2.2 (pItem T c q tn pn).2.1 (pItem T c q tn pn).2.2.1 (m + 1) (upI I m (pItem T c q tn pn).1)).1 ∧ CW T c nt np r0 (qF T c (pI2 T c (16 - m) (pItem T c q tn pn).2.2.2 (pItem T c q tn pn).2.1 (pItem T c q tn pn).2.2.1 (m + 1) (upI I m (pItem T c q tn pn).1)).2.2) (cS (pI2 T c (16 - m) (pItem T c q tn pn).2.2.2 (pItem T c q tn pn).2.1 (pItem T c q tn pn).2.2.1 (m + 1) (upI I m (pItem T c q tn pn).1)).2.1 (nt, np, r0) (pI2 T c (16 - m) (pItem T c q tn pn).2.2.2 (pItem T c q tn pn).2.1 (pItem T c q tn pn).2.2.1 (m + 1) (upI I m (pItem T c q tn pn).1)).1) M0 M')) 91 18 [some (.ref 52), some (.ref 1), some (.int (nI m)), some (.int (nI 1)), x4] [] (con M) := by
  have hm : mMet 91 = some _ := rfl
  intro z
  induction z with
  | zero =>
    intro m q tn pn I x4 M hz hf hV hk hA hnt hnp
    omega
  | succ z ih =>
    intro m q tn pn I x4 M hz hf hV hk hA hnt hnp
    obtain ⟨l1, l2, l3⟩ := hV.le hf
    obtain ⟨u1, u2, -⟩ := hV hf
    have hVs := hV.step (T := T) hf hk.1.2.2.2.2.2.2.2
    refine x_iload_n hm rfl rfl ?_
    refine x_if_eq hm rfl (t := 125) rfl (fun h1 => ?_) (fun h1 => ?_)
    · exact absurd h1 (by decide) --stop
    · refine x_iload_n hm rfl rfl ?_
      refine x_bipush hm rfl (v := nI 120) (by decide) ?_
      refine x_icmp_gt hm rfl (t := 125) rfl (fun h2 => ?_) (fun h2 => ?_)
      · exact absurd ((jI_lt (by decide) (by omega)).mp h2) (by omega) --stop
      · refine x_aload_n hm rfl rfl ?_
        refine x_cVe hm rfl rfl (k95 hk.1 hB) (fun v3 r3 => ?_)
        subst r3
        refine x_istore hm rfl rfl ?_
        refine x_iload hm rfl rfl ?_
        refine x_iconst hm rfl (v := (-1 : Int32)) (by decide) ?_
        refine x_icmp_eq hm rfl (t := 59) rfl (fun h4 => ?_) (fun h4 => ?_)
        · have hneg : pKd T q 7 < 0 := by rw [h4]; decide
          have hqi : (pItem T c q tn pn).2.2.2 = (pThg T c q tn pn).2 := by rw [show pItem T c q tn pn = ((pThg T c q tn pn).1, tn + 1, pn, (pThg T c q tn pn).2) from if_pos hneg]
          refine x_aload_n hm rfl rfl ?_
          refine x_ldcS hm rfl ?_
          refine x_cVe hm rfl rfl (k97 hk.1 hB (t := 0) (by decide)) (fun v5 r5 => ?_)
          subst r5
          refine x_if_eq hm rfl (t := 85) rfl (fun h6 => ?_) (fun h6 => ?_)
          · first
              | (have hx : ¬ (pWd T q 0 ∧ tn < 8) := fun z => bI_eq0.mp h6 z.1
                 rw [pThg_w hx] at hqi)
              | skip
            refine x_aload_n hm rfl rfl ?_
            refine x_cVv hm rfl rfl (q112 hk) (fun M7 r7 => ?_)
            first
              | (have hcw := cw_fail (S := cS (upI I m (pItem T c q tn pn).1) (nt, np, r0) (m + 1)) l2 l3 hnt hnp hA r7 hqi
                 refine k91t hB hcw ?_ ?_
                 · intro hng
                   rw [pI2_e hng]
                   exact k91x hcw
                 · intro hgo M5 h5
                   obtain ⟨s1, s2, s3, s4, s5⟩ := hVs hgo.1
                   have hm16 := (hVs.le hgo.1).1
                   obtain ⟨f, hf16⟩ : ∃ f, 16 - m = f + 1 := ⟨15 - m, by omega⟩
                   rw [hf16, pI2_g hgo, show f = 16 - (m + 1) by omega]
                   obtain ⟨tn2, pn2, r2, d1, d2, d3, d4, d5, d6, d7⟩ := h5
                   have hw1 : (pMu T c (pItem T c q tn pn).2.2.2 (nI 1)).2.2.2.2 = false := by rw [pMu_g hgo.1]; exact pNx_w
                   obtain ⟨e1, e2, e3⟩ := d7 hw1
                   rw [s1] at e1
                   rw [s2] at e2
                   subst e1
                   subst e2
                   subst e3
                   exact ih (m + 1) _ _ _ _ _ _ (by omega) hw1 (fun _ => ⟨s1, s2, s3, s4, s5⟩) d1 d6 d4 d5)
              | (obtain ⟨v3, v4, j0, j1, j2, j3, r4, w4⟩ := r7
                 have hcw := cw_person hkk hkd l2 hlt8 hn8 hnt hnp u1 u2 hA r4 w4
                 refine k91t hB hcw ?_ ?_
                 · intro hng
                   rw [pI2_e hng]
                   exact k91x hcw
                 · intro hgo M5 h5
                   obtain ⟨s1, s2, s3, s4, s5⟩ := hVs hgo.1
                   have hm16 := (hVs.le hgo.1).1
                   obtain ⟨f, hf16⟩ : ∃ f, 16 - m = f + 1 := ⟨15 - m, by omega⟩
                   rw [hf16, pI2_g hgo, show f = 16 - (m + 1) by omega]
                   obtain ⟨tn2, pn2, r2, d1, d2, d3, d4, d5, d6, d7⟩ := h5
                   have hw1 : (pMu T c (pItem T c q tn pn).2.2.2 (nI 1)).2.2.2.2 = false := by rw [pMu_g hgo.1]; exact pNx_w
                   obtain ⟨e1, e2, e3⟩ := d7 hw1
                   rw [s1] at e1
                   rw [s2] at e2
                   subst e1
                   subst e2
                   subst e3
                   exact ih (m + 1) _ _ _ _ _ _ (by omega) hw1 (fun _ => ⟨s1, s2, s3, s4, s5⟩) d1 d6 d4 d5)
          · first
              | exact absurd (wd_u hwk (bI_ne0 (by assumption))) (kt_t kk hkk)
              | (have hw0 : pWd T q 0 := bI_ne0 (by assumption)
                 refine x_aload_n hm rfl rfl ?_
                 refine x_getf hm rfl (gI rfl rfl) ?_
                 rw [hk.2.1.1]
                 refine x_bipush hm rfl (v := nI 8) (by decide) ?_
                 refine x_icmp_ge hm rfl (t := 85) rfl (fun h90 => ?_) (fun h90 => ?_)
                 · have hx : ¬ (pWd T q 0 ∧ tn < 8) := fun z => by have := (jI_le (by omega) (by omega)).mp h90; omega
                   rw [pThg_w hx] at hqi
                   obtain ⟨M4, c4, r4⟩ := q112 (X := X) hk
                   refine x_aload_n hm rfl rfl ?_
                   refine x_callV hm rfl rfl c4 ?_
                   have hcw := cw_fail (S := cS (upI I m (pItem T c q tn pn).1) (nt, np, r0) (m + 1)) l2 l3 hnt hnp hA r4 hqi
                   refine k91t hB hcw ?_ ?_
                   · intro hng
                     rw [pI2_e hng]
                     exact k91x hcw
                   · intro hgo M5 h5
                     obtain ⟨s1, s2, s3, s4, s5⟩ := hVs hgo.1
                     have hm16 := (hVs.le hgo.1).1
                     obtain ⟨f, hf16⟩ : ∃ f, 16 - m = f + 1 := ⟨15 - m, by omega⟩
                     rw [hf16, pI2_g hgo, show f = 16 - (m + 1) by omega]
                     obtain ⟨tn2, pn2, r2, d1, d2, d3, d4, d5, d6, d7⟩ := h5
                     have hw1 : (pMu T c (pItem T c q tn pn).2.2.2 (nI 1)).2.2.2.2 = false := by rw [pMu_g hgo.1]; exact pNx_w
                     obtain ⟨e1, e2, e3⟩ := d7 hw1
                     rw [s1] at e1
                     rw [s2] at e2
                     subst e1
                     subst e2
                     subst e3
                     exact ih (m + 1) _ _ _ _ _ _ (by omega) hw1 (fun _ => ⟨s1, s2, s3, s4, s5⟩) d1 d6 d4 d5
                 · have hlt8 : tn < 8 := Nat.lt_of_not_le fun q => h90 (nI_le q (by omega))
                   refine x_aload_n hm rfl rfl ?_
                   refine x_aload_n hm rfl rfl ?_
                   obtain ⟨M4, c4, v2, v3, v4, v5, v6, v7, r4, w4⟩ := k113 (X := X) hB hk hf hw0 hlt8 l3
                   refine x_callV hm rfl rfl c4 ?_
                   refine x_goto hm rfl (t := 89) rfl ?_
                   have hcw := cw_thing hneg hlt8 l3 hnt hnp u1 u2 hA r4 w4
                   refine k91t hB hcw ?_ ?_
                   · intro hng
                     rw [pI2_e hng]
                     exact k91x hcw
                   · intro hgo M5 h5
                     obtain ⟨s1, s2, s3, s4, s5⟩ := hVs hgo.1
                     have hm16 := (hVs.le hgo.1).1
                     obtain ⟨f, hf16⟩ : ∃ f, 16 - m = f + 1 := ⟨15 - m, by omega⟩
                     rw [hf16, pI2_g hgo, show f = 16 - (m + 1) by omega]
                     obtain ⟨tn2, pn2, r2, d1, d2, d3, d4, d5, d6, d7⟩ := h5
                     have hw1 : (pMu T c (pItem T c q tn pn).2.2.2 (nI 1)).2.2.2.2 = false := by rw [pMu_g hgo.1]; exact pNx_w
                     obtain ⟨e1, e2, e3⟩ := d7 hw1
                     rw [s1] at e1
                     rw [s2] at e2
                     subst e1
                     subst e2
                     subst e3
                     exact ih (m + 1) _ _ _ _ _ _ (by omega) hw1 (fun _ => ⟨s1, s2, s3, s4, s5⟩) d1 d6 d4 d5)
        · obtain ⟨kk, hkk, hkd, hwk⟩ := (pKd_k (T := T) (q := q) 7 (Nat.le_refl _)).resolve_left h4
          have hqi : (pItem T c q tn pn).2.2.2 = (pPer T c q (pKd T q 7) pn).2 := by rw [show pItem T c q tn pn = ((pPer T c q (pKd T q 7) pn).1, tn, pn + 1, (pPer T c q (pKd T q 7) pn).2) from if_neg (by rw [hkd]; exact jI_nn (by omega))]
          refine x_aload_n hm rfl rfl ?_
          refine x_getf hm rfl (gI rfl rfl) ?_
          rw [hk.2.1.2.1]
          refine x_bipush hm rfl (v := nI 8) (by decide) ?_
          refine x_icmp_ge hm rfl (t := 59) rfl (fun h8 => ?_) (fun h8 => ?_)
          · have hge8 : ¬ pn < 8 := fun q => by have := (jI_le (by omega) (by omega)).mp h8; omega
            rw [pPer_w hge8] at hqi
            refine x_aload_n hm rfl rfl ?_
            refine x_ldcS hm rfl ?_
            refine x_cVe hm rfl rfl (k97 hk.1 hB (t := 0) (by decide)) (fun v9 r9 => ?_)
            subst r9
            refine x_if_eq hm rfl (t := 85) rfl (fun h10 => ?_) (fun h10 => ?_)
            · first
                | (have hx : ¬ (pWd T q 0 ∧ tn < 8) := fun z => bI_eq0.mp h10 z.1
                   rw [pThg_w hx] at hqi)
                | skip
              refine x_aload_n hm rfl rfl ?_
              refine x_cVv hm rfl rfl (q112 hk) (fun M11 r11 => ?_)
              first
                | (have hcw := cw_fail (S := cS (upI I m (pItem T c q tn pn).1) (nt, np, r0) (m + 1)) l2 l3 hnt hnp hA r11 hqi
                   refine k91t hB hcw ?_ ?_
                   · intro hng
                     rw [pI2_e hng]
                     exact k91x hcw
                   · intro hgo M5 h5
                     obtain ⟨s1, s2, s3, s4, s5⟩ := hVs hgo.1
                     have hm16 := (hVs.le hgo.1).1
                     obtain ⟨f, hf16⟩ : ∃ f, 16 - m = f + 1 := ⟨15 - m, by omega⟩
                     rw [hf16, pI2_g hgo, show f = 16 - (m + 1) by omega]
                     obtain ⟨tn2, pn2, r2, d1, d2, d3, d4, d5, d6, d7⟩ := h5
                     have hw1 : (pMu T c (pItem T c q tn pn).2.2.2 (nI 1)).2.2.2.2 = false := by rw [pMu_g hgo.1]; exact pNx_w
                     obtain ⟨e1, e2, e3⟩ := d7 hw1
                     rw [s1] at e1
                     rw [s2] at e2
                     subst e1
                     subst e2
                     subst e3
                     exact ih (m + 1) _ _ _ _ _ _ (by omega) hw1 (fun _ => ⟨s1, s2, s3, s4, s5⟩) d1 d6 d4 d5)
                | (obtain ⟨v3, v4, j0, j1, j2, j3, r4, w4⟩ := r11
                   have hcw := cw_person hkk hkd l2 hlt8 hn8 hnt hnp u1 u2 hA r4 w4
                   refine k91t hB hcw ?_ ?_
                   · intro hng
                     rw [pI2_e hng]
                     exact k91x hcw
                   · intro hgo M5 h5
                     obtain ⟨s1, s2, s3, s4, s5⟩ := hVs hgo.1
                     have hm16 := (hVs.le hgo.1).1
                     obtain ⟨f, hf16⟩ : ∃ f, 16 - m = f + 1 := ⟨15 - m, by omega⟩
                     rw [hf16, pI2_g hgo, show f = 16 - (m + 1) by omega]
                     obtain ⟨tn2, pn2, r2, d1, d2, d3, d4, d5, d6, d7⟩ := h5
                     have hw1 : (pMu T c (pItem T c q tn pn).2.2.2 (nI 1)).2.2.2.2 = false := by rw [pMu_g hgo.1]; exact pNx_w
                     obtain ⟨e1, e2, e3⟩ := d7 hw1
                     rw [s1] at e1
                     rw [s2] at e2
                     subst e1
                     subst e2
                     subst e3
                     exact ih (m + 1) _ _ _ _ _ _ (by omega) hw1 (fun _ => ⟨s1, s2, s3, s4, s5⟩) d1 d6 d4 d5)
            · first
                | exact absurd (wd_u hwk (bI_ne0 (by assumption))) (kt_t kk hkk)
                | (have hw0 : pWd T q 0 := bI_ne0 (by assumption)
                   refine x_aload_n hm rfl rfl ?_
                   refine x_getf hm rfl (gI rfl rfl) ?_
                   rw [hk.2.1.1]
                   refine x_bipush hm rfl (v := nI 8) (by decide) ?_
                   refine x_icmp_ge hm rfl (t := 85) rfl (fun h90 => ?_) (fun h90 => ?_)
                   · have hx : ¬ (pWd T q 0 ∧ tn < 8) := fun z => by have := (jI_le (by omega) (by omega)).mp h90; omega
                     rw [pThg_w hx] at hqi
                     obtain ⟨M4, c4, r4⟩ := q112 (X := X) hk
                     refine x_aload_n hm rfl rfl ?_
                     refine x_callV hm rfl rfl c4 ?_
                     have hcw := cw_fail (S := cS (upI I m (pItem T c q tn pn).1) (nt, np, r0) (m + 1)) l2 l3 hnt hnp hA r4 hqi
                     refine k91t hB hcw ?_ ?_
                     · intro hng
                       rw [pI2_e hng]
                       exact k91x hcw
                     · intro hgo M5 h5
                       obtain ⟨s1, s2, s3, s4, s5⟩ := hVs hgo.1
                       have hm16 := (hVs.le hgo.1).1
                       obtain ⟨f, hf16⟩ : ∃ f, 16 - m = f + 1 := ⟨15 - m, by omega⟩
                       rw [hf16, pI2_g hgo, show f = 16 - (m + 1) by omega]
                       obtain ⟨tn2, pn2, r2, d1, d2, d3, d4, d5, d6, d7⟩ := h5
                       have hw1 : (pMu T c (pItem T c q tn pn).2.2.2 (nI 1)).2.2.2.2 = false := by rw [pMu_g hgo.1]; exact pNx_w
                       obtain ⟨e1, e2, e3⟩ := d7 hw1
                       rw [s1] at e1
                       rw [s2] at e2
                       subst e1
                       subst e2
                       subst e3
                       exact ih (m + 1) _ _ _ _ _ _ (by omega) hw1 (fun _ => ⟨s1, s2, s3, s4, s5⟩) d1 d6 d4 d5
                   · have hlt8 : tn < 8 := Nat.lt_of_not_le fun q => h90 (nI_le q (by omega))
                     refine x_aload_n hm rfl rfl ?_
                     refine x_aload_n hm rfl rfl ?_
                     obtain ⟨M4, c4, v2, v3, v4, v5, v6, v7, r4, w4⟩ := k113 (X := X) hB hk hf hw0 hlt8 l3
                     refine x_callV hm rfl rfl c4 ?_
                     refine x_goto hm rfl (t := 89) rfl ?_
                     have hcw := cw_thing hneg hlt8 l3 hnt hnp u1 u2 hA r4 w4
                     refine k91t hB hcw ?_ ?_
                     · intro hng
                       rw [pI2_e hng]
                       exact k91x hcw
                     · intro hgo M5 h5
                       obtain ⟨s1, s2, s3, s4, s5⟩ := hVs hgo.1
                       have hm16 := (hVs.le hgo.1).1
                       obtain ⟨f, hf16⟩ : ∃ f, 16 - m = f + 1 := ⟨15 - m, by omega⟩
                       rw [hf16, pI2_g hgo, show f = 16 - (m + 1) by omega]
                       obtain ⟨tn2, pn2, r2, d1, d2, d3, d4, d5, d6, d7⟩ := h5
                       have hw1 : (pMu T c (pItem T c q tn pn).2.2.2 (nI 1)).2.2.2.2 = false := by rw [pMu_g hgo.1]; exact pNx_w
                       obtain ⟨e1, e2, e3⟩ := d7 hw1
                       rw [s1] at e1
                       rw [s2] at e2
                       subst e1
                       subst e2
                       subst e3
                       exact ih (m + 1) _ _ _ _ _ _ (by omega) hw1 (fun _ => ⟨s1, s2, s3, s4, s5⟩) d1 d6 d4 d5)
          · have hlt8 : pn < 8 := Nat.lt_of_not_le fun q => h8 (nI_le q (by omega))
            rw [hkd]
            refine x_aload_n hm rfl rfl ?_
            refine x_aload_n hm rfl rfl ?_
            refine x_iload hm rfl rfl ?_
            refine x_cVv hm rfl rfl (k109 hB hk hf l2 hlt8) (fun M12 r12 => ?_)
            refine x_goto hm rfl (t := 89) rfl ?_
            first
              | (have hcw := cw_fail (S := cS (upI I m (pItem T c q tn pn).1) (nt, np, r0) (m + 1)) l2 l3 hnt hnp hA r12 hqi
                 refine k91t hB hcw ?_ ?_
                 · intro hng
                   rw [pI2_e hng]
                   exact k91x hcw
                 · intro hgo M5 h5
                   obtain ⟨s1, s2, s3, s4, s5⟩ := hVs hgo.1
                   have hm16 := (hVs.le hgo.1).1
                   obtain ⟨f, hf16⟩ : ∃ f, 16 - m = f + 1 := ⟨15 - m, by omega⟩
                   rw [hf16, pI2_g hgo, show f = 16 - (m + 1) by omega]
                   obtain ⟨tn2, pn2, r2, d1, d2, d3, d4, d5, d6, d7⟩ := h5
                   have hw1 : (pMu T c (pItem T c q tn pn).2.2.2 (nI 1)).2.2.2.2 = false := by rw [pMu_g hgo.1]; exact pNx_w
                   obtain ⟨e1, e2, e3⟩ := d7 hw1
                   rw [s1] at e1
                   rw [s2] at e2
                   subst e1
                   subst e2
                   subst e3
                   exact ih (m + 1) _ _ _ _ _ _ (by omega) hw1 (fun _ => ⟨s1, s2, s3, s4, s5⟩) d1 d6 d4 d5)
              | (obtain ⟨v3, v4, j0, j1, j2, j3, r4, w4⟩ := r12
                 have hcw := cw_person hkk hkd l2 hlt8 hn8 hnt hnp u1 u2 hA r4 w4
                 refine k91t hB hcw ?_ ?_
                 · intro hng
                   rw [pI2_e hng]
                   exact k91x hcw
                 · intro hgo M5 h5
                   obtain ⟨s1, s2, s3, s4, s5⟩ := hVs hgo.1
                   have hm16 := (hVs.le hgo.1).1
                   obtain ⟨f, hf16⟩ : ∃ f, 16 - m = f + 1 := ⟨15 - m, by omega⟩
                   rw [hf16, pI2_g hgo, show f = 16 - (m + 1) by omega]
                   obtain ⟨tn2, pn2, r2, d1, d2, d3, d4, d5, d6, d7⟩ := h5
                   have hw1 : (pMu T c (pItem T c q tn pn).2.2.2 (nI 1)).2.2.2.2 = false := by rw [pMu_g hgo.1]; exact pNx_w
                   obtain ⟨e1, e2, e3⟩ := d7 hw1
                   rw [s1] at e1
                   rw [s2] at e2
                   subst e1
                   subst e2
                   subst e3
                   exact ih (m + 1) _ _ _ _ _ _ (by omega) hw1 (fun _ => ⟨s1, s2, s3, s4, s5⟩) d1 d6 d4 d5)
theorem k91 {nt np : Nat} {r0 : Nat → Int32} (hB : ∀ k, k < c → T k < 256) (hc9 : M 52 1 = nI c) (hc1 : c ≤ 120) (hT : ∀ k, k < c → M 53 k = bt (T k)) (hR : Rel 1 nt np M r0) (hG : Gd nt np r0) : ∃ v M', mT X 91 [.ref 52, .ref 1] (con M) (some (.int v)) (con M') ∧ v = nI (pTx T c nt np).1 ∧ CW T c nt np r0 (qF T c (pTx T c nt np).2.2) (cS (pTx T c nt np).2.1 (nt, np, r0) (pTx T c nt np).1) M M' := by
  refine ti_of (row := _) rfl (Nat.le_of_ble_eq_true rfl) ?_
  have hm : mMet 91 = some _ := rfl
  refine x_aload_n hm rfl rfl ?_
  refine x_iconst hm rfl (v := (-1 : Int32)) (by decide) ?_
  refine x_putf hm rfl (pI rfl rfl (by decide) (by first | exact mFit_int | rfl | decide) rfl) ?_
  refine x_aload_n hm rfl rfl ?_
  refine x_iconst hm rfl (v := nI 0) (by decide) ?_
  refine x_putf hm rfl (pI rfl rfl (by decide) (by first | exact mFit_int | rfl | decide) rfl) ?_
  refine x_aload_n hm rfl rfl ?_
  have hL : Lc M (mput (mput M 52 6 (-1)) 52 4 (nI 0)) := (Lc.put (by decide) (by decide)).trans (Lc.put (by decide) (by decide))
  obtain ⟨M2, g1, g2, g3⟩ := k92 (X := X) (M := mput (mput M 52 6 (-1)) 52 4 (nI 0)) (e0 := 0) (c := c) (T := T) mp0 ((hL 52 1 (by omega)).trans hc9) hc1 (fun k hk => (hL 53 k (by omega)).trans (hT k hk)) hB (Nat.zero_le _) ((mpf (by decide)).trans mp0)
  have hL2 := hL.trans g3
  have e : ∀ a, a ≠ 52 → M2 a = M a := fun a ha => funext fun x => hL2 a x (Or.inl ha)
  refine x_callV hm rfl rfl g1 ?_
  refine x_iconst hm rfl (v := nI 0) (by decide) ?_
  refine x_istore_n hm rfl rfl ?_
  refine x_iconst hm rfl (v := nI 1) (by decide) ?_
  refine x_istore_n hm rfl rfl ?_
  exact k91l (M0 := M) hB hG.2.2.1.1 _ 0 _ nt np (fun _ _ => 0) _ _ (Nat.lt_succ_self _) pNx_w (Vi.zero hG) ⟨g2, hR.fr fun a _ _ => e a (by omega), by rw [e 1 (by decide)], fun a _ h2 => e a h2⟩ Ag.rf (Nat.le_refl _) (Nat.le_refl _)
/-- a text's end, the class -/
def Tt (q : Sq4) (M0 : mM) (v : Int32) (M' : mM) : Prop := v = q.1 ∧ Rel 1 q.2.1 q.2.2.1 M' q.2.2.2 ∧ M' 1 7 = M0 1 7 ∧ (∀ a, (a < 1 ∨ 17 < a) → a ≠ 52 → M' a = M0 a) ∧ M' 52 1 = nI 0
theorem k90 {nt np : Nat} {r0 : Nat → Int32} (hB : ∀ k, k < c → T k < 256) (hc9 : M 52 1 = nI c) (hc1 : c ≤ 120) (hT : ∀ k, k < c → M 53 k = bt (T k)) (hR : Rel 1 nt np M r0) (hG : Gd nt np r0) : ∃ v M', mT X 90 [.ref 0] (con M) (some (.int v)) (con M') ∧ Tt (fTx nt np r0 (pTx T c nt np)) M v M' := by
  refine ti_of (row := _) rfl (Nat.le_of_ble_eq_true rfl) ?_
  have hm : mMet 90 = some _ := rfl
  refine x_aload_n hm rfl rfl ?_
  refine x_getf hm rfl (gR rfl rfl) ?_
  refine x_getf hm rfl (gI rfl rfl) ?_
  rw [hR.1]
  refine x_istore_n hm rfl rfl ?_
  refine x_aload_n hm rfl rfl ?_
  refine x_getf hm rfl (gR rfl rfl) ?_
  refine x_getf hm rfl (gI rfl rfl) ?_
  rw [hR.2.1]
  refine x_istore_n hm rfl rfl ?_
  refine x_aload_n hm rfl rfl ?_
  refine x_getf hm rfl (gR rfl rfl) ?_
  refine x_aload_n hm rfl rfl ?_
  refine x_getf hm rfl (gR rfl rfl) ?_
  refine x_cVi hm rfl rfl (k91 hB hc9 hc1 hT hR hG) (fun v1 M1 r1 => ?_)
  obtain ⟨rfl, tn, pn, r, hk, d1, d2, d3, d4, d5, d6⟩ := r1
  refine x_istore_n hm rfl rfl ?_
  refine x_aload_n hm rfl rfl ?_
  refine x_getf hm rfl (gR rfl rfl) ?_
  refine x_getf hm rfl (gI rfl rfl) ?_
  refine x_iconst hm rfl (v := (-1 : Int32)) (by decide) ?_
  refine x_icmp_eq hm rfl (t := 55) rfl (fun h2 => ?_) (fun h2 => ?_)
  · have hf := hk.1.ff h2
    obtain ⟨hf1, hf2⟩ := qF_f hf
    have hq : fTx nt np r0 (pTx T c nt np) = (nI (pTx T c nt np).1, cS (pTx T c nt np).2.1 (nt, np, r0) (pTx T c nt np).1) := if_neg (fun z => z.elim (fun z => absurd (hf1.symm.trans z) (by decide)) (fun z => z hf2))
    obtain ⟨rfl, rfl, rfl⟩ := d6 hf
    refine x_aload_n hm rfl rfl ?_
    refine x_getf hm rfl (gR rfl rfl) ?_
    refine x_iconst hm rfl (v := nI 0) (by decide) ?_
    refine x_putf hm rfl (pI rfl rfl (by decide) (by first | exact mFit_int | rfl | decide) rfl) ?_
    first
      | (refine x_aload_n hm rfl rfl ?_
         refine x_getf hm rfl (gR rfl rfl) ?_
         refine x_getf hm rfl (gI rfl rfl) ?_
         refine x_iconst hm rfl (v := -1) (by decide) ?_
         refine x_icmp_ne hm rfl (t := 78) rfl (fun h50 => absurd (hf : _ = false) (by first | exact absurd ((mpf (by decide)).trans (by assumption)) h50)) (fun h50 => ?_)
         refine x_iload_n hm rfl rfl ?_
         refine x_goto hm rfl (t := 87) rfl ?_
         refine x_iret hm rfl rfl (by first | rfl | exact bI_nar | decide) ?_
         exact ⟨_, _, rfl, rfl, by rw [hq], by rw [hq]; exact hk.2.1.fr fun a _ _ => mpo (by omega), (congrFun (mpo (by decide)) 7).trans hk.2.2.1, fun a h1 h2 => (mpo h2).trans (hk.2.2.2 a h1 h2), mp0⟩)
      | (refine x_aload_n hm rfl rfl ?_
         refine x_getf hm rfl (gR rfl rfl) ?_
         refine x_getf hm rfl (gI rfl rfl) ?_
         have e6 : mput (mput (mput M1 1 3 (nI nt)) 1 4 (nI np)) 52 1 (nI 0) 52 6 = nI (pTx T c nt np).2.2.1 := by
           rw [mpf (by decide), mpo (by decide), mpo (by decide)]; exact hv6
         rw [e6]
         refine x_iconst hm rfl (v := -1) (by decide) ?_
         refine x_icmp_ne hm rfl (t := 78) rfl (fun h50 => ?_) (fun h50 => absurd (hv6.trans h50) (by assumption))
         refine x_iconst hm rfl (v := -1) (by decide) ?_
         refine x_aload_n hm rfl rfl ?_
         refine x_getf hm rfl (gR rfl rfl) ?_
         refine x_getf hm rfl (gI rfl rfl) ?_
         rw [e6]
         refine x_isub hm rfl ?_
         refine x_iret hm rfl rfl (by first | rfl | exact bI_nar | decide) ?_
         exact ⟨_, _, rfl, rfl, by rw [hq], by rw [hq]; exact hL.fr fun a _ _ => mpo (by omega), (congrFun (mpo (by decide)) 7).trans ((mpf (by decide)).trans ((mpf (by decide)).trans hk.2.2.1)), fun a h1 h2 => (mpo h2).trans ((mpo (by omega)).trans ((mpo (by omega)).trans (hk.2.2.2 a h1 h2))), mp0⟩)
  · have hw := hk.1.fw h2
    have hq : fTx nt np r0 (pTx T c nt np) = (-1 - nI (pTx T c nt np).2.2.1, nt, np, r0) := if_pos (qF_w hw)
    have hL := hk.2.1.low d5 d3 d4
    have hv6 : M1 52 6 = nI (pTx T c nt np).2.2.1 := by
      have e := hk.1.2.2.2.2.1
      rw [hw, qF_1] at e
      exact e
    refine x_aload_n hm rfl rfl ?_
    refine x_getf hm rfl (gR rfl rfl) ?_
    refine x_iload_n hm rfl rfl ?_
    refine x_putf hm rfl (pI rfl rfl (by decide) (by first | exact mFit_int | rfl | decide) rfl) ?_
    refine x_aload_n hm rfl rfl ?_
    refine x_getf hm rfl (gR rfl rfl) ?_
    refine x_iload_n hm rfl rfl ?_
    refine x_putf hm rfl (pI rfl rfl (by decide) (by first | exact mFit_int | rfl | decide) rfl) ?_
    refine x_aload_n hm rfl rfl ?_
    refine x_getf hm rfl (gR rfl rfl) ?_
    refine x_iconst hm rfl (v := nI 0) (by decide) ?_
    refine x_putf hm rfl (pI rfl rfl (by decide) (by first | exact mFit_int | rfl | decide) rfl) ?_
    first
      | (refine x_aload_n hm rfl rfl ?_
         refine x_getf hm rfl (gR rfl rfl) ?_
         refine x_getf hm rfl (gI rfl rfl) ?_
         refine x_iconst hm rfl (v := -1) (by decide) ?_
         refine x_icmp_ne hm rfl (t := 78) rfl (fun h50 => absurd (hf : _ = false) (by first | exact absurd ((mpf (by decide)).trans (by assumption)) h50)) (fun h50 => ?_)
         refine x_iload_n hm rfl rfl ?_
         refine x_goto hm rfl (t := 87) rfl ?_
         refine x_iret hm rfl rfl (by first | rfl | exact bI_nar | decide) ?_
         exact ⟨_, _, rfl, rfl, by rw [hq], by rw [hq]; exact hk.2.1.fr fun a _ _ => mpo (by omega), (congrFun (mpo (by decide)) 7).trans hk.2.2.1, fun a h1 h2 => (mpo h2).trans (hk.2.2.2 a h1 h2), mp0⟩)
      | (refine x_aload_n hm rfl rfl ?_
         refine x_getf hm rfl (gR rfl rfl) ?_
         refine x_getf hm rfl (gI rfl rfl) ?_
         have e6 : mput (mput (mput M1 1 3 (nI nt)) 1 4 (nI np)) 52 1 (nI 0) 52 6 = nI (pTx T c nt np).2.2.1 := by
           rw [mpf (by decide), mpo (by decide), mpo (by decide)]; exact hv6
         rw [e6]
         refine x_iconst hm rfl (v := -1) (by decide) ?_
         refine x_icmp_ne hm rfl (t := 78) rfl (fun h50 => ?_) (fun h50 => absurd (hv6.trans h50) (by assumption))
         refine x_iconst hm rfl (v := -1) (by decide) ?_
         refine x_aload_n hm rfl rfl ?_
         refine x_getf hm rfl (gR rfl rfl) ?_
         refine x_getf hm rfl (gI rfl rfl) ?_
         rw [e6]
         refine x_isub hm rfl ?_
         refine x_iret hm rfl rfl (by first | rfl | exact bI_nar | decide) ?_
         exact ⟨_, _, rfl, rfl, by rw [hq], by rw [hq]; exact hL.fr fun a _ _ => mpo (by omega), (congrFun (mpo (by decide)) 7).trans ((mpf (by decide)).trans ((mpf (by decide)).trans hk.2.2.1)), fun a h1 h2 => (mpo h2).trans ((mpo (by omega)).trans ((mpo (by omega)).trans (hk.2.2.2 a h1 h2))), mp0⟩)
theorem byte_k {x : Int32} : ∃ n, n < 256 ∧ x &&& 255 = nI n := by
  refine ⟨(x.toUInt32 &&& 255).toNat, ?_, ?_⟩
  · rw [UInt32.toNat_and]
    exact Nat.lt_of_le_of_lt Nat.and_le_right (by decide)
  · exact congrArg UInt32.toInt32 UInt32.ofNat_toNat.symm
theorem Tt.cn {q : Sq4} {v : Int32} {N : mM} (hM : cnm M = M) (h : Tt q M v N) : Tt q M v (cnm N) := ⟨h.1, h.2.1.cn (Or.inl rfl), h.2.2.1, fun a h1 h2 => cn_fr hM (h.2.2.2.1 a h1 h2), h.2.2.2.2⟩
theorem Fx.cn {q : Sq4} {v : Int32} {N : mM} (hM : cnm M = M) (h : Fx q M v N) : Fx q M v (cnm N) := ⟨h.1, h.2.1, fun a h1 h2 h3 => cn_fr hM (h.2.2.1 a h1 h2 h3), fun x hx => by
  obtain ⟨-, -, -, h4, -⟩ := h
  rcases cnc_or 66 (N 66) x with e | e
  · exact e.trans (h4 x hx)
  · have e2 : cnm M 66 x = M 66 x := congrFun (congrFun hM 66) x
    show cnc 66 (N 66) x = M 66 x
    rw [← e2]
    show cnc 66 (N 66) x = cnc 66 (M 66) x
    unfold cnc
    rw [h4 x hx], h.2.2.2.2⟩
theorem j_text (hJ : J M) : JJ X 90 220 [.ref 0] [.ref 66] M Eq := by
  obtain ⟨hI, hcn, ⟨nt, np, hR, h1, h2, hV, hr, hc⟩, hJI, hJP, hJS, h6⟩ := id hJ
  obtain ⟨c, hc1, hc9⟩ := ok4 (show okx 4 (M 52 1) from hI.1 52 1)
  have hc66 : M 66 9 = nI c := hJP.1.symm.trans hc9
  have hG : Gd nt np (M 67) := ⟨h1, h2, hV, hr⟩
  have hT0 : ∀ k, k < c → M 73 k = nI ((M 73 k).toNatClampNeg) ∧ (M 73 k).toNatClampNeg < 256 := by
    intro k hk
    obtain ⟨n, hn, e⟩ := byte_k (x := M 53 k)
    have e1 : M 73 k = nI n := (hJP.2 k (by omega)).1.trans e
    rw [e1, jI_nat (by omega)]
    exact ⟨rfl, hn⟩
  have hB : ∀ k, k < c → (M 73 k).toNatClampNeg < 256 := fun k hk => (hT0 k hk).2
  have hT : ∀ k, k < c → M 53 k = bt ((M 73 k).toNatClampNeg) := fun k hk => by
    rw [(hJP.2 k (by omega)).2]
    exact congrArg (fun x : Int32 => x.toInt8.toInt32) (hT0 k hk).1
  obtain ⟨v, M1, a1, a2, a3, a4⟩ := mT.both (t90 (X := X) hI.1) (k90 (X := X) (T := fun k => (M 73 k).toNatClampNeg) hB hc9 hc1 hT hR hG) (fun _ _ h => h.cn hcn) (fun _ _ h => h.cn hcn)
  have i1 := a3.inv hI
  have e66 : ∀ a, 66 ≤ a → M1 a = M a := a3.2
  have hG1 : Gd nt np (M1 67) := by rw [e66 67 (by decide)]; exact hG
  obtain ⟨w, M2, b1, b2, b3, b4⟩ := mT.both (t220 (X := X) i1) (k220 (X := X) (T := fun k => (M 73 k).toNatClampNeg) hG1.1 hG1.2.1 hB hc1 (by rw [e66 66 (by decide)]; exact hc66) (fun k hk => by rw [e66 73 (by decide)]; exact (hT0 k hk).1) hG1) (fun _ _ h => h.cn) (fun _ _ h => h.cn a2)
  rw [e66 67 (by decide)] at b4
  obtain ⟨d1, d2, d3, d4, d5⟩ := a4
  obtain ⟨f1, f2, f3, f4, f5⟩ := b4
  have hGd := Gd.text (T := fun k => (M 73 k).toNatClampNeg) hc1 hG
  have l : ∀ a, (a < 1 ∨ 17 < a) → a ≠ 52 → a ≠ 66 → a ≠ 67 → a ≠ 75 → M2 a = M a := fun a g1 g2 g3 g4 g5 => (f3 a g3 g4 g5).trans (d4 a g1 g2)
  refine ⟨v, M1, w, M2, a1, b1, ⟨b3, b2, ⟨_, _, ?_, by rw [f2]; exact hGd.1, by rw [f2]; exact hGd.2.1, by rw [f2]; exact hGd.2.2.1, by rw [f2]; exact hGd.2.2.2, ?_⟩, hJI.of (by rw [l 0 (by decide) (by decide) (by decide) (by decide) (by decide)]) ((f4 3 (by decide)).trans (by rw [e66 66 (by decide)])) (fun x g1 g2 => l x (by omega) (by omega) (by omega) (by omega) (by omega)) (l 68 (by decide) (by decide) (by decide) (by decide) (by decide)),
    ⟨?_, fun k hk => ?_⟩, hJS.of (fun x g1 g2 => l x (by omega) (by omega) (by omega) (by omega) (by omega)) (l 76 (by decide) (by decide) (by decide) (by decide) (by decide)) (l 77 (by decide) (by decide) (by decide) (by decide) (by decide)) (l 78 (by decide) (by decide) (by decide) (by decide) (by decide)), ?_⟩, d1.trans f1.symm⟩
  · rw [f2]
    exact d2.fr fun a g1 g2 => f3 a (by omega) (by omega) (by omega)
  · rw [f3 1 (by decide) (by decide) (by decide), d3]
    exact hc
  · rw [f3 52 (by decide) (by decide) (by decide), d5, f5]
  · rw [l 73 (by decide) (by decide) (by decide) (by decide) (by decide), l 53 (by decide) (by decide) (by decide) (by decide) (by decide)]
    exact hJP.2 k hk
  · rw [f4 6 (by decide), e66 66 (by decide)]
    exact h6
end CZ
