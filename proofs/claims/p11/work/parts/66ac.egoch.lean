section EK
variable {X : mSc} {Q : Option Value → mHp → Prop} {M : mM} {nt np : Nat} {r : Nat → Int32}
theorem g163 {a1 : Int32} (h67 : M 67 = r) (hnt : M 67 1 = nI nt) (hn8 : nt ≤ 8) (hnp : M 67 2 = nI np) (hp8 : np ≤ 8) (hW : Wf M) (h6 : M 66 6 = -1) : ∃ v M', mT X 163 [.ref 66, .int a1] (con M) (some (.int v)) (con M') ∧ Uq (fGo nt np r a1) v M M' := by
  refine ti_of (row := _) rfl (Nat.le_of_ble_eq_true rfl) ?_
  have hm : mMet 163 = some _ := rfl
  refine x_iload_n hm rfl rfl ?_
  refine x_iconst hm rfl (v := nI 1) (by decide) ?_
  refine x_bipush hm rfl (v := nI 60) (by decide) ?_
  refine x_callS hm rfl rfl (t133) ?_
  refine x_if_ne hm rfl (t := 17) rfl (fun h1 => ?_) (fun h1 => ?_)
  · obtain ⟨a, ha, ha1, rfl⟩ := le1_k (by omega) (bI_ne0 h1)
    refine x_aload_n hm rfl rfl ?_
    refine x_getf hm rfl (gR rfl rfl) ?_
    refine x_iconst hm rfl (v := nI 0) (by decide) ?_
    refine x_iald hm rfl (lI rfl (by omega) (by decide)) ?_
    rw [h67]
    refine x_iload_n hm rfl rfl ?_
    refine x_iadd hm rfl ?_
    refine x_ldcI hm rfl (v := nI 99999) (by decide +kernel) ?_
    refine x_icmp_le hm rfl (t := 37) rfl (fun h2 => ?_) (fun h2 => ?_)
    · have hng : ¬ nI 99999 < r 0 + nI a := Int32.not_lt.mpr h2
      refine x_aload_n hm rfl rfl ?_
      refine x_iload_n hm rfl rfl ?_
      refine x_cVv hm rfl rfl (e164 hW hnt hn8 hnp hp8 (by omega)) (fun M3 r3 => ?_)
      rw [h6, h67] at r3
      have e67 := r3.2.1
      refine x_aload_n hm rfl rfl ?_
      refine x_callV hm rfl rfl (e167 (r3.1.1.2.1.trans hnt) hn8) ?_
      rw [e67]
      obtain ⟨g, hg, eg⟩ := sGone_k (sDays (-1) nt np a r) nt hn8
      have hg2 : g < 256 := Nat.lt_of_lt_of_le hg (Nat.pow_le_pow_right (by decide) hn8)
      rw [eg]
      refine x_callS hm rfl rfl (g168 hg2) ?_
      refine x_iret hm rfl rfl (by first | rfl | exact bI_nar | decide) ?_
      have hq : fGo nt np r (nI a) = (sBits 256 (nI 0) (sGone (sDays (-1) nt np a r) nt), nt, np, sDays (-1) nt np a r) := by
        unfold fGo
        rw [if_neg (by assumption), if_neg (by assumption)]
        rw [jI_nat (k := a) (by omega)]
      exact ⟨_, _, rfl, rfl, by rw [hq]; exact ⟨by rw [eg], e67, fun a h1 _ _ h4 => r3.2.2 a h1 h4⟩⟩
    · have hps : nI 99999 < r 0 + nI a := Int32.not_le.mp h2
      refine x_aload_n hm rfl rfl ?_
      refine x_ldcI hm rfl (v := (-1000005 : Int32)) (by decide +kernel) ?_
      refine x_callV hm rfl rfl (e135 (by decide +kernel)) ?_
      refine x_iret hm rfl rfl (by first | rfl | exact bI_nar | decide) ?_
      have hq : fGo nt np r (nI a) = (-1000005, nt, np, r) := by
        unfold fGo
        rw [if_neg (by assumption), if_pos (by assumption)]
      exact ⟨_, _, rfl, rfl, by rw [hq]; exact ⟨rfl, fnd_rm h67⟩⟩
  · refine x_aload_n hm rfl rfl ?_
    refine x_ldcI hm rfl (v := (-1000001 : Int32)) (by decide +kernel) ?_
    refine x_callV hm rfl rfl (e135 (by decide +kernel)) ?_
    refine x_iret hm rfl rfl (by first | rfl | exact bI_nar | decide) ?_
    have hq : fGo nt np r a1 = (-1000001, nt, np, r) := by
      unfold fGo
      rw [if_pos (by assumption)]
    exact ⟨_, _, rfl, rfl, by rw [hq]; exact ⟨rfl, fnd_rm h67⟩⟩
theorem Gd.go {a1 : Int32} (h : Gd nt np r) : Gd (fGo nt np r a1).2.1 (fGo nt np r a1).2.2.1 (fGo nt np r a1).2.2.2 := by
  unfold fGo
  split
  · exact h
  · rename_i h1
    obtain ⟨a, ha, ha1, rfl⟩ := le1_k (by decide) (bI_ne0 h1)
    split
    · exact h
    · rename_i h2
      rw [jI_nat (by omega)]
      obtain ⟨d, hd, ed⟩ := h.2.2.2.1
      refine (h.days ed a ?_).1
      rw [ed, jI_add] at h2
      rcases Nat.lt_or_ge 99999 (d + a) with g | g
      · exact absurd ((jI_lt (by omega) (by omega)).mpr g) h2
      · exact g
theorem Gd.pf {p f : Nat} {v : Int32} (h : Gd nt np r) (hp : p < np) (hf : f < 7) (h0 : f = 0 → Le 6 v) (h1 : f = 1 ∨ f = 2 → Le 15 v) (h3 : 3 ≤ f → Le 9 v) : Gd nt np (put1 r (62 + 7 * p + f) v) := by
  obtain ⟨g1, g2, ⟨v1, v2, v3, v4⟩, ⟨w1, w2, w3, w4⟩⟩ := h
  refine ⟨(put1_o (by omega)).trans g1, (put1_o (by omega)).trans g2, ⟨v1, v2, fun t ht => ?_, fun q hq => ?_⟩, ⟨?_, fun z hz => ?_, fun t ht => ?_, fun q hq => ?_⟩⟩
  · rw [put1_o (by omega), put1_o (by omega), put1_o (by omega)]; exact v3 t ht
  · by_cases e : q = p ∧ f = 0
    · obtain ⟨rfl, rfl⟩ := e
      rw [put1_s]; exact h0 rfl
    · rw [put1_o (by omega)]; exact v4 q hq
  · rw [put1_o (by omega)]; exact w1
  · rw [put1_o (by omega)]; exact w2 z hz
  · rw [put1_o (by omega), put1_o (by omega), put1_o (by omega)]; exact w3 t ht
  · obtain ⟨k1, k2, k3⟩ := w4 q hq
    refine ⟨?_, ?_, fun z hz => ?_⟩
    · by_cases e : q = p ∧ f = 1
      · obtain ⟨rfl, rfl⟩ := e
        rw [put1_s]; exact h1 (Or.inl rfl)
      · rw [put1_o (by omega)]; exact k1
    · by_cases e : q = p ∧ f = 2
      · obtain ⟨rfl, rfl⟩ := e
        rw [put1_s]; exact h1 (Or.inr rfl)
      · rw [put1_o (by omega)]; exact k2
    · by_cases e : q = p ∧ f = 3 + z
      · obtain ⟨rfl, rfl⟩ := e
        rw [put1_s]; exact h3 (by omega)
      · rw [put1_o (by omega)]; exact k3 z hz
theorem Gd.change {a1 a2 a3 : Int32} (h : Gd nt np r) : Gd (fChange nt np r a1 a2 a3).2.1 (fChange nt np r a1 a2 a3).2.2.1 (fChange nt np r a1 a2 a3).2.2.2 := by
  unfold fChange
  split
  · exact h
  · rename_i h1
    have hp8 := h.2.2.1.2.1
    obtain ⟨p, hp, rfl⟩ := in_k rfl (by omega) (bI_ne0 h1)
    split
    · exact h
    · rename_i h2
      have hm := bI_ne0 h2
      obtain ⟨f, hf, rfl⟩ := mayC_f hm
      rw [jI_nat (by omega), jI_nat (by omega)]
      refine h.pf hp hf (fun e => ?_) (fun e => ?_) (fun e => ?_)
      · subst e
        exact le_k (by decide) ((mayC_0 rfl).mpr hm)
      · have : nI f = nI 1 ∨ nI f = nI 2 := e.imp (fun e => by rw [e]) (fun e => by rw [e])
        exact le_k (by decide) ((mayC_12 this).mpr hm)
      · have n0 : ¬ nI f = 0 := fun q => by have := jI_inj (b := 0) (by omega) (by decide) q; omega
        have n1 : ¬ nI f = nI 1 := fun q => by have := jI_inj (by omega) (by decide) q; omega
        have n2 : ¬ nI f = nI 2 := fun q => by have := jI_inj (by omega) (by decide) q; omega
        exact le_k (by decide) ((mayC_e n0 n1 n2).mp hm).2
theorem j_change {a1 a2 a3 : Int32} (hJ : J M) : JJ X 26 161 [.ref 0, .int a1, .int a2, .int a3] [.ref 66, .int a1, .int a2, .int a3] M Eq := by
  obtain ⟨nt, np, hR, h1, h2, hV, hr, -⟩ := hJ.2.2.1
  exact J.join hJ (t26 hJ.1.1) (g26 hR hV.1 hV.2.1) (fun M1 i => t161 i) (fun M1 _ k => g161 (k 67 (by decide)) (by rw [k 67 (by decide)]; exact h1) hV.1 (by rw [k 67 (by decide)]; exact h2) hV.2.1) (Gd.change ⟨h1, h2, hV, hr⟩)
theorem j_go {a1 : Int32} (hJ : J M) : JJ X 29 163 [.ref 0, .int a1] [.ref 66, .int a1] M Eq := by
  obtain ⟨nt, np, hR, h1, h2, hV, hr, hc⟩ := hJ.2.2.1
  exact J.join hJ (t29 hJ.1.1) (g29 hR hV.1 hV.2.1 hV hc) (fun M1 i => t163 i) (fun M1 i k => g163 (k 67 (by decide)) (by rw [k 67 (by decide)]; exact h1) hV.1 (by rw [k 67 (by decide)]; exact h2) hV.2.1 i.1 (by rw [k 66 (by decide)]; exact hJ.2.2.2.2.2.2)) (Gd.go ⟨h1, h2, hV, hr⟩)
end EK
