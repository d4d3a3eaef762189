/-! ===== rows stay good; both sides together ===== -/
def Gd (nt np : Nat) (r : Nat → Int32) : Prop := r 1 = nI nt ∧ r 2 = nI np ∧ Vs nt np r ∧ Vr nt np r
section GD
variable {nt np : Nat} {r : Nat → Int32}
theorem addR_o {n j : Nat} {s p th pa ow on : Int32} (h1 : ¬ j = 1) (h2 : j < 14 + 6 * n ∨ 14 + 6 * n + 5 < j) : addR r n s p th pa ow on j = r j := by
  unfold addR
  rw [put1_o (by omega), put1_o (by omega), put1_o (by omega), put1_o (by omega), put1_o (by omega), put1_o (by omega), put1_o (by omega)]
theorem addR_at {n : Nat} {s p th pa ow on : Int32} : addR r n s p th pa ow on (14 + 6 * n + 0) = s ∧ addR r n s p th pa ow on (14 + 6 * n + 1) = p ∧ addR r n s p th pa ow on (14 + 6 * n + 2) = th ∧ addR r n s p th pa ow on (14 + 6 * n + 3) = pa ∧ addR r n s p th pa ow on (14 + 6 * n + 4) = ow ∧ addR r n s p th pa ow on (14 + 6 * n + 5) = on ∧ addR r n s p th pa ow on 1 = nI (n + 1) := by
  unfold addR
  refine ⟨?_, ?_, ?_, ?_, ?_, ?_, put1_s⟩
  · rw [put1_o (by omega), put1_o (by omega), put1_o (by omega), put1_o (by omega), put1_o (by omega), put1_o (by omega), put1_s]
  · rw [put1_o (by omega), put1_o (by omega), put1_o (by omega), put1_o (by omega), put1_o (by omega), put1_s]
  · rw [put1_o (by omega), put1_o (by omega), put1_o (by omega), put1_o (by omega), put1_s]
  · rw [put1_o (by omega), put1_o (by omega), put1_o (by omega), put1_s]
  · rw [put1_o (by omega), put1_o (by omega), put1_s]
  · rw [put1_o (by omega), put1_s]
theorem joinR_o {n j : Nat} {k p w l0 l1 l2 l3 : Int32} (h1 : ¬ j = 2) (h2 : j < 62 + 7 * n ∨ 62 + 7 * n + 6 < j) : joinR r n k p w l0 l1 l2 l3 j = r j := by
  unfold joinR
  rw [put1_o (by omega), put1_o (by omega), put1_o (by omega), put1_o (by omega), put1_o (by omega), put1_o (by omega), put1_o (by omega), put1_o (by omega)]
theorem joinR_at {n : Nat} {k p w l0 l1 l2 l3 : Int32} : joinR r n k p w l0 l1 l2 l3 (62 + 7 * n + 0) = k ∧ joinR r n k p w l0 l1 l2 l3 (62 + 7 * n + 1) = p ∧ joinR r n k p w l0 l1 l2 l3 (62 + 7 * n + 2) = w ∧ joinR r n k p w l0 l1 l2 l3 (62 + 7 * n + (3 + 0)) = l0 ∧ joinR r n k p w l0 l1 l2 l3 (62 + 7 * n + (3 + 1)) = l1 ∧ joinR r n k p w l0 l1 l2 l3 (62 + 7 * n + (3 + 2)) = l2 ∧ joinR r n k p w l0 l1 l2 l3 (62 + 7 * n + (3 + 3)) = l3 ∧ joinR r n k p w l0 l1 l2 l3 2 = nI (n + 1) := by
  unfold joinR
  refine ⟨?_, ?_, ?_, ?_, ?_, ?_, ?_, put1_s⟩
  · rw [put1_o (by omega), put1_o (by omega), put1_o (by omega), put1_o (by omega), put1_o (by omega), put1_o (by omega), put1_o (by omega), put1_s]
  · rw [put1_o (by omega), put1_o (by omega), put1_o (by omega), put1_o (by omega), put1_o (by omega), put1_o (by omega), put1_s]
  · rw [put1_o (by omega), put1_o (by omega), put1_o (by omega), put1_o (by omega), put1_o (by omega), put1_s]
  · rw [put1_o (by omega), put1_o (by omega), put1_o (by omega), put1_o (by omega), put1_s]
  · rw [put1_o (by omega), put1_o (by omega), put1_o (by omega), put1_s]
  · rw [put1_o (by omega), put1_o (by omega), put1_s]
  · rw [put1_o (by omega), put1_s]
def Le (n : Nat) (v : Int32) : Prop := ∃ k, k ≤ n ∧ v = nI k
def Lo (n : Nat) (v : Int32) : Prop := v = -1 ∨ ∃ k, k < n ∧ v = nI k
theorem Lo.up {n m : Nat} {v : Int32} (h : Lo n v) (hm : n ≤ m) : Lo m v := h.imp id fun ⟨k, a, b⟩ => ⟨k, by omega, b⟩
theorem Gd.add {s p th pa ow on : Int32} (h : Gd nt np r) (h8 : nt < 8) (hs : Le 3 s) (hp : Le 15 p) (hth : Le 999 th) (hpa : Le 9 pa) (how : Lo np ow) (hon : Lo nt on) : Gd (nt + 1) np (addR r nt s p th pa ow on) := by
  obtain ⟨h1, h2, ⟨v1, v2, v3, v4⟩, ⟨w1, w2, w3, w4⟩⟩ := h
  obtain ⟨a0, a1, a2, a3, a4, a5, a6⟩ := addR_at (r := r) (n := nt) (s := s) (p := p) (th := th) (pa := pa) (ow := ow) (on := on)
  refine ⟨a6, (addR_o (by decide) (by omega)).trans h2, ⟨by omega, v2, fun t ht => ?_, fun q hq => ?_⟩, ⟨?_, fun z hz => ?_, fun t ht => ?_, fun q hq => ?_⟩⟩
  · by_cases e : t = nt
    · subst e
      exact ⟨by rw [a0]; exact hs, by rw [a4]; exact how, by rw [a5]; exact hon.up (by omega)⟩
    · obtain ⟨g1, g2, g3⟩ := v3 t (by omega)
      refine ⟨by rw [addR_o (by omega) (by omega)]; exact g1, by rw [addR_o (by omega) (by omega)]; exact g2, by rw [addR_o (by omega) (by omega)]; exact Lo.up g3 (by omega)⟩
  · rw [addR_o (by omega) (by omega)]
    exact v4 q hq
  · rw [addR_o (by omega) (by omega)]
    exact w1
  · rw [addR_o (by omega) (by omega)]
    exact w2 z hz
  · by_cases e : t = nt
    · subst e
      exact ⟨by rw [a1]; exact hp, by rw [a2]; exact hth, by rw [a3]; exact hpa⟩
    · obtain ⟨g1, g2, g3⟩ := w3 t (by omega)
      exact ⟨by rw [addR_o (by omega) (by omega)]; exact g1, by rw [addR_o (by omega) (by omega)]; exact g2, by rw [addR_o (by omega) (by omega)]; exact g3⟩
  · obtain ⟨g1, g2, g3⟩ := w4 q hq
    exact ⟨by rw [addR_o (by omega) (by omega)]; exact g1, by rw [addR_o (by omega) (by omega)]; exact g2, fun z hz => by rw [addR_o (by omega) (by omega)]; exact g3 z hz⟩
theorem Gd.join {k p w l0 l1 l2 l3 : Int32} (h : Gd nt np r) (h8 : np < 8) (hk : Le 6 k) (hp : Le 15 p) (hw : Le 15 w) (g0 : Le 9 l0) (g1 : Le 9 l1) (g2 : Le 9 l2) (g3 : Le 9 l3) : Gd nt (np + 1) (joinR r np k p w l0 l1 l2 l3) := by
  obtain ⟨h1, h2, ⟨v1, v2, v3, v4⟩, ⟨w1, w2, w3, w4⟩⟩ := h
  obtain ⟨a0, a1, a2, a3, a4, a5, a6, a7⟩ := joinR_at (r := r) (n := np) (k := k) (p := p) (w := w) (l0 := l0) (l1 := l1) (l2 := l2) (l3 := l3)
  refine ⟨(joinR_o (by decide) (by omega)).trans h1, a7, ⟨v1, by omega, fun t ht => ?_, fun q hq => ?_⟩, ⟨?_, fun z hz => ?_, fun t ht => ?_, fun q hq => ?_⟩⟩
  · obtain ⟨g1, g2, g3⟩ := v3 t (by omega)
    exact ⟨by rw [joinR_o (by omega) (by omega)]; exact g1, by rw [joinR_o (by omega) (by omega)]; exact Lo.up g2 (by omega), by rw [joinR_o (by omega) (by omega)]; exact g3⟩
  · by_cases e : q = np
    · subst e
      rw [a0]
      exact hk
    · rw [joinR_o (by omega) (by omega)]
      exact v4 q (by omega)
  · rw [joinR_o (by omega) (by omega)]
    exact w1
  · rw [joinR_o (by omega) (by omega)]
    exact Lo.up (w2 z hz) (by omega)
  · obtain ⟨g1, g2, g3⟩ := w3 t (by omega)
    exact ⟨by rw [joinR_o (by omega) (by omega)]; exact g1, by rw [joinR_o (by omega) (by omega)]; exact g2, by rw [joinR_o (by omega) (by omega)]; exact g3⟩
  · by_cases e : q = np
    · subst e
      refine ⟨by rw [a1]; exact hp, by rw [a2]; exact hw, fun z hz => ?_⟩
      rcases (by omega : z = 0 ∨ z = 1 ∨ z = 2 ∨ z = 3) with rfl | rfl | rfl | rfl
      · rw [a3]; exact g0
      · rw [a4]; exact g1
      · rw [a5]; exact g2
      · rw [a6]; exact g3
    · obtain ⟨g1, g2, g3⟩ := w4 q (by omega)
      exact ⟨by rw [joinR_o (by omega) (by omega)]; exact g1, by rw [joinR_o (by omega) (by omega)]; exact g2, fun z hz => by rw [joinR_o (by omega) (by omega)]; exact g3 z hz⟩
theorem Gd.z {v : Int32} (h : Gd nt np r) : Gd nt np (put1 r 3 v) := by
  obtain ⟨h1, h2, ⟨v1, v2, v3, v4⟩, ⟨w1, w2, w3, w4⟩⟩ := h
  refine ⟨(put1_o (by decide)).trans h1, (put1_o (by decide)).trans h2, ⟨v1, v2, fun t ht => ?_, fun q hq => ?_⟩, ⟨?_, fun z hz => ?_, fun t ht => ?_, fun q hq => ?_⟩⟩
  · rw [put1_o (by omega), put1_o (by omega), put1_o (by omega)]; exact v3 t ht
  · rw [put1_o (by omega)]; exact v4 q hq
  · rw [put1_o (by omega)]; exact w1
  · rw [put1_o (by omega)]; exact w2 z hz
  · rw [put1_o (by omega), put1_o (by omega), put1_o (by omega)]; exact w3 t ht
  · obtain ⟨g1, g2, g3⟩ := w4 q hq
    rw [put1_o (by omega), put1_o (by omega)]
    exact ⟨g1, g2, fun z hz => by rw [put1_o (by omega)]; exact g3 z hz⟩
theorem Gd.s {s : Nat} {v : Int32} (h : Gd nt np r) (hs : s < 10) (hv : Lo np v) : Gd nt np (put1 r (4 + s) v) := by
  obtain ⟨h1, h2, ⟨v1, v2, v3, v4⟩, ⟨w1, w2, w3, w4⟩⟩ := h
  refine ⟨(put1_o (by omega)).trans h1, (put1_o (by omega)).trans h2, ⟨v1, v2, fun t ht => ?_, fun q hq => ?_⟩, ⟨?_, fun z hz => ?_, fun t ht => ?_, fun q hq => ?_⟩⟩
  · rw [put1_o (by omega), put1_o (by omega), put1_o (by omega)]; exact v3 t ht
  · rw [put1_o (by omega)]; exact v4 q hq
  · rw [put1_o (by omega)]; exact w1
  · by_cases e : z = s
    · subst e
      rw [put1_s]; exact hv
    · rw [put1_o (by omega)]; exact w2 z hz
  · rw [put1_o (by omega), put1_o (by omega), put1_o (by omega)]; exact w3 t ht
  · obtain ⟨g1, g2, g3⟩ := w4 q hq
    rw [put1_o (by omega), put1_o (by omega)]
    exact ⟨g1, g2, fun z hz => by rw [put1_o (by omega)]; exact g3 z hz⟩
theorem Gd.thing {a1 a2 : Int32} (h : Gd nt np r) : Gd (fThing nt np r a1 a2).2.1 (fThing nt np r a1 a2).2.2.1 (fThing nt np r a1 a2).2.2.2 := by
  unfold fThing
  split
  · exact h
  · rename_i h1
    split
    · exact h
    · rename_i h2
      split
      · exact h
      · rename_i h3
        exact h.add (Nat.lt_of_le_of_ne h.2.2.1.1 h3) (le_k (by decide) (bI_ne0 h1)) (le_k (by decide) (bI_ne0 h2)) ⟨100, by decide, rfl⟩ ⟨0, by decide, rfl⟩ (Or.inl rfl) (Or.inl rfl)
theorem Gd.person {a1 a2 : Int32} (h : Gd nt np r) : Gd (fPerson nt np r a1 a2).2.1 (fPerson nt np r a1 a2).2.2.1 (fPerson nt np r a1 a2).2.2.2 := by
  unfold fPerson
  have h1' : Le 9 (nI 1) := ⟨1, by decide, rfl⟩
  split
  · exact h
  · rename_i h1
    split
    · exact h
    · rename_i h2
      split
      · exact h
      · rename_i h3
        exact h.join (Nat.lt_of_le_of_ne h.2.2.1.2.1 h3) (le_k (by decide) (bI_ne0 h1)) (le_k (by decide) (bI_ne0 h2)) ⟨1, by decide, rfl⟩ h1' h1' h1' h1'
theorem Gd.seed {a1 : Int32} (h : Gd nt np r) : Gd (fSeed nt np r a1).2.1 (fSeed nt np r a1).2.2.1 (fSeed nt np r a1).2.2.2 := h.z
theorem Gd.hold {a1 a2 : Int32} (h : Gd nt np r) : Gd (fHold nt np r a1 a2).2.1 (fHold nt np r a1 a2).2.2.1 (fHold nt np r a1 a2).2.2.2 := by
  unfold fHold
  split
  · exact h
  · rename_i h1
    obtain ⟨k, hk, rfl⟩ := le_k (by decide) (bI_ne0 h1)
    rw [jI_nat (by omega)]
    split
    · rename_i h2
      exact h.s (by omega) (Or.inl h2)
    · split
      · exact h
      · rename_i h3
        have hp := h.2.2.1.2.1
        exact h.s (by omega) (Or.inr (in_k rfl (by omega) (bI_ne0 h3)))
end GD
section JO
variable {X : mSc} {M : mM}
theorem Rel.fr {b nt np : Nat} {N : mM} {r : Nat → Int32} (h : Rel b nt np M r) (hb : ∀ c, b ≤ c → c ≤ b + 16 → N c = M c) : Rel b nt np N r := by
  have hB := hb b (Nat.le_refl _) (by omega)
  obtain ⟨g1, g2, g3, g4, g5, g6, g7⟩ := h
  exact ⟨by rw [hB]; exact g1, by rw [hB]; exact g2, by rw [hB]; exact g3, by rw [hB]; exact g4, fun s hs => by rw [hb _ (by omega) (by omega)]; exact g5 s hs, fun f t hf ht => by rw [hb _ (by omega) (by omega)]; exact g6 f t hf ht, fun f p hf hp => by rw [hb _ (by omega) (by omega)]; exact g7 f p hf hp⟩
theorem Tq.cn {q : Sq4} {v : Int32} {N : mM} (hM : cnm M = M) (h : Tq q v M N) : Tq q v M (cnm N) := ⟨h.1, h.2.1.cn (Or.inl rfl), h.2.2.1, fun a ha => cn_fr hM (h.2.2.2 a ha)⟩
theorem Uq.cn {q : Sq4} {v : Int32} {N : mM} (hM : cnm M = M) (h : Uq q v M N) : Uq q v M (cnm N) := ⟨h.1, h.2.1, fun a h1 h2 h3 h4 => cn_fr hM (h.2.2 a h1 h2 h3 h4)⟩
theorem J.town {M1 M2 : mM} {nt np : Nat} {r : Nat → Int32} (h : J M) (c : Ck M M1) (t : Tm nt np r M M1) (i : Inv M2) (n : cnm M2 = M2) (u : Rm r M1 M2) (g : Gd nt np r) : J M2 := by
  obtain ⟨h1, h2, ⟨nt0, np0, -, -, -, -, -, hc⟩, h4, h5, h6, h7⟩ := h
  obtain ⟨t1, t2, t3⟩ := t
  have k : ∀ a, 66 ≤ a → a ≠ 67 → a ≠ 69 → a ≠ 70 → a ≠ 71 → M2 a = M a := fun a ha b1 b2 b3 b4 => (u.2 a b1 b2 b3 b4).trans (c.2 a ha)
  have l : ∀ a, (a < 1 ∨ (17 < a ∧ a < 35) ∨ (51 < a ∧ a < 66 ∧ a ≠ 55 ∧ a ≠ 56 ∧ a ≠ 57)) → M2 a = M a := fun a ha => (u.2 a (by omega) (by omega) (by omega) (by omega)).trans (t3 a (by omega))
  have e66 := k 66 (by decide) (by decide) (by decide) (by decide) (by decide)
  refine ⟨i, n, ⟨nt, np, ?_, by rw [u.1]; exact g.1, by rw [u.1]; exact g.2.1, by rw [u.1]; exact g.2.2.1, by rw [u.1]; exact g.2.2.2, ?_⟩, h4.of (by rw [l 0 (by omega)]) (by rw [e66]) (fun x _ _ => l x (by omega)) (k 68 (by decide) (by decide) (by decide) (by decide) (by decide)),
    h5.of (by rw [l 52 (by omega)]) (by rw [e66]) (k 73 (by decide) (by decide) (by decide) (by decide) (by decide)) (l 53 (by omega)), h6.of (fun x _ _ => l x (by omega)) (k 76 (by decide) (by decide) (by decide) (by decide) (by decide)) (k 77 (by decide) (by decide) (by decide) (by decide) (by decide)) (k 78 (by decide) (by decide) (by decide) (by decide) (by decide)), by rw [e66]; exact h7⟩
  · rw [u.1]
    exact t1.fr fun x _ _ => u.2 x (by omega) (by omega) (by omega) (by omega)
  · rw [u.2 1 (by decide) (by decide) (by decide) (by decide), t2]
    exact hc
theorem J.join {q : Sq4} {cmd rmd : Nat} {as bs : List Value} (hJ : J M) (hc : ∃ v M1, mT X cmd as (con M) (some (.int v)) (con M1) ∧ Ck M M1) (he : ∃ v M1, mT X cmd as (con M) (some (.int v)) (con M1) ∧ Tq q v M M1)
    (hr : ∀ M1, Inv M1 → ∃ v M', mT X rmd bs (con M1) (some (.int v)) (con M') ∧ Inv M') (hu : ∀ M1, Inv M1 → (∀ a, 66 ≤ a → M1 a = M a) → ∃ v M', mT X rmd bs (con M1) (some (.int v)) (con M') ∧ Uq q v M1 M') (hg : Gd q.2.1 q.2.2.1 q.2.2.2) :
    ∃ v M1 w M2, mT X cmd as (con M) (some (.int v)) (con M1) ∧ mT X rmd bs (con M1) (some (.int w)) (con M2) ∧ J M2 ∧ v = w := by
  obtain ⟨v, M1, a1, a2, a3, a4⟩ := mT.both hc he (fun _ _ h => h.cn hJ.2.1) (fun _ _ h => h.cn hJ.2.1)
  have i1 := a3.inv hJ.1
  obtain ⟨w, M2, b1, b2, b3, b4⟩ := mT.both (hr M1 i1) (hu M1 i1 a3.2) (fun _ _ h => h.cn) (fun _ _ h => h.cn a2)
  exact ⟨v, M1, w, M2, a1, b1, hJ.town a3 a4.2 b3 b2 b4.2 hg, a4.1.trans b4.1.symm⟩
/-- both sides of a call, and where they leave the world -/
def JJ (X : mSc) (cmd rmd : Nat) (as bs : List Value) (M : mM) (P : Int32 → Int32 → Prop) : Prop := ∃ v M1 w M2, mT X cmd as (con M) (some (.int v)) (con M1) ∧ mT X rmd bs (con M1) (some (.int w)) (con M2) ∧ J M2 ∧ P v w
theorem j_thing {a1 a2 : Int32} (hJ : J M) : JJ X 5 132 [.ref 0, .int a1, .int a2] [.ref 66, .int a1, .int a2] M Eq := by
  obtain ⟨nt, np, hR, h1, h2, hV, hr, -⟩ := hJ.2.2.1
  exact J.join hJ (t5 hJ.1.1) (g5 hR hV.1 hV.2.1) (fun M1 i => t132 i) (fun M1 _ k => g132 (k 67 (by decide)) (by rw [k 67 (by decide)]; exact h1) hV.1 (by rw [k 67 (by decide)]; exact h2) hV.2.1) (Gd.thing ⟨h1, h2, hV, hr⟩)
theorem j_person {a1 a2 : Int32} (hJ : J M) : JJ X 22 156 [.ref 0, .int a1, .int a2] [.ref 66, .int a1, .int a2] M Eq := by
  obtain ⟨nt, np, hR, h1, h2, hV, hr, -⟩ := hJ.2.2.1
  exact J.join hJ (t22 hJ.1.1) (g22 hR hV.1 hV.2.1) (fun M1 i => t156 i) (fun M1 _ k => g156 (k 67 (by decide)) (by rw [k 67 (by decide)]; exact h1) hV.1 (by rw [k 67 (by decide)]; exact h2) hV.2.1) (Gd.person ⟨h1, h2, hV, hr⟩)
theorem j_seed {a1 : Int32} (hJ : J M) : JJ X 86 217 [.ref 0, .int a1] [.ref 66, .int a1] M Eq := by
  obtain ⟨nt, np, hR, h1, h2, hV, hr, -⟩ := hJ.2.2.1
  exact J.join hJ (t86 hJ.1.1) (g86 hR hV.1 hV.2.1) (fun M1 i => t217 i) (fun M1 _ k => g217 (k 67 (by decide)) (by rw [k 67 (by decide)]; exact h1) hV.1 (by rw [k 67 (by decide)]; exact h2) hV.2.1) (Gd.seed ⟨h1, h2, hV, hr⟩)
theorem j_hold {a1 a2 : Int32} (hJ : J M) : JJ X 114 231 [.ref 0, .int a1, .int a2] [.ref 66, .int a1, .int a2] M Eq := by
  obtain ⟨nt, np, hR, h1, h2, hV, hr, -⟩ := hJ.2.2.1
  exact J.join hJ (t114 hJ.1.1) (g114 hR hV.1 hV.2.1) (fun M1 i => t231 i) (fun M1 _ k => g231 (k 67 (by decide)) (by rw [k 67 (by decide)]; exact h1) hV.1 (by rw [k 67 (by decide)]; exact h2) hV.2.1) (Gd.hold ⟨h1, h2, hV, hr⟩)
/-- what only asks -/
theorem J.ask {cmd rmd : Nat} {as bs : List Value} (hJ : J M) (hc : ∃ v M1, mT X cmd as (con M) (some (.int v)) (con M1) ∧ Cq M M1) (hr : ∀ M1, J M1 → ∃ v M', mT X rmd bs (con M1) (some (.int v)) (con M') ∧ Rq M1 M') : JJ X cmd rmd as bs M (fun _ _ => True) := by
  obtain ⟨v, M1, a1, a2, a3⟩ := mT.one hc (fun _ _ h => h.cn hJ.2.1)
  have j1 := hJ.qc a2 a3
  obtain ⟨w, M2, b1, b2, b3⟩ := mT.one (hr M1 j1) (fun _ _ h => h.cn a2)
  exact ⟨v, M1, w, M2, a1, b1, j1.qr b2 b3, trivial⟩
/-- what only asks, with both answers known -/
theorem J.asv {cmd rmd : Nat} {as bs : List Value} {F G : Int32} (hJ : J M) (hc : ∃ v M1, mT X cmd as (con M) (some (.int v)) (con M1) ∧ Cq M M1) (he : ∃ v M1, mT X cmd as (con M) (some (.int v)) (con M1) ∧ v = F) (hr : ∀ M1, J M1 → ∃ v M', mT X rmd bs (con M1) (some (.int v)) (con M') ∧ Rq M1 M')
    (hu : ∀ M1, J M1 → (∀ a, 66 ≤ a → M1 a = M a) → ∃ v M', mT X rmd bs (con M1) (some (.int v)) (con M') ∧ v = G) (hFG : F = G) : JJ X cmd rmd as bs M Eq := by
  obtain ⟨v, M1, a1, a2, a3, a4⟩ := mT.both hc he (fun _ _ h => h.cn hJ.2.1) (fun _ _ h => h)
  have j1 := hJ.qc a2 a3
  obtain ⟨w, M2, b1, b2, b3, b4⟩ := mT.both (hr M1 j1) (hu M1 j1 (fun a ha => a3.2 a (Or.inl ha))) (fun _ _ h => h.cn a2) (fun _ _ h => h)
  exact ⟨v, M1, w, M2, a1, b1, j1.qr b2 b3, a4.trans (hFG.trans b4.symm)⟩
end JO
