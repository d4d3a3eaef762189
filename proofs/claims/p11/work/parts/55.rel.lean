/-! ===== a town of the class against a row of the reference ===== -/
def Rel (b nt np : Nat) (M : mM) (r : Nat → Int32) : Prop :=
  M b 3 = nI nt ∧ M b 4 = nI np ∧ M b 5 = r 0 ∧ M b 6 = r 3 ∧ (∀ s, s < 10 → M (b + 16) s = r (4 + s)) ∧ (∀ f t, f < 6 → t < nt → M (b + 2 + f) t = r (14 + 6 * t + f)) ∧ (∀ f p, f < 7 → p < np → M (b + 9 + f) p = r (62 + 7 * p + f))
/-- the row is sound, as far as reading it goes -/
def Vs (nt np : Nat) (r : Nat → Int32) : Prop := nt ≤ 8 ∧ np ≤ 8 ∧ (∀ t, t < nt → (∃ k, k ≤ 3 ∧ r (14 + 6 * t + 0) = nI k) ∧ (r (14 + 6 * t + 4) = -1 ∨ ∃ k, k < np ∧ r (14 + 6 * t + 4) = nI k) ∧ (r (14 + 6 * t + 5) = -1 ∨ ∃ k, k < nt ∧ r (14 + 6 * t + 5) = nI k)) ∧ (∀ p, p < np → ∃ k, k ≤ 6 ∧ r (62 + 7 * p + 0) = nI k)
section RV
variable {b nt np : Nat} {M : mM} {r : Nat → Int32} {t p : Nat}
theorem Rel.sort (h : Rel b nt np M r) (ht : t < nt) : M (b + 2) t = r (14 + 6 * t + 0) := h.2.2.2.2.2.1 0 t (by decide) ht
theorem Rel.at_ (h : Rel b nt np M r) (ht : t < nt) : M (b + 3) t = r (14 + 6 * t + 1) := h.2.2.2.2.2.1 1 t (by decide) ht
theorem Rel.thick (h : Rel b nt np M r) (ht : t < nt) : M (b + 4) t = r (14 + 6 * t + 2) := h.2.2.2.2.2.1 2 t (by decide) ht
theorem Rel.paint (h : Rel b nt np M r) (ht : t < nt) : M (b + 5) t = r (14 + 6 * t + 3) := h.2.2.2.2.2.1 3 t (by decide) ht
theorem Rel.own (h : Rel b nt np M r) (ht : t < nt) : M (b + 6) t = r (14 + 6 * t + 4) := h.2.2.2.2.2.1 4 t (by decide) ht
theorem Rel.on (h : Rel b nt np M r) (ht : t < nt) : M (b + 7) t = r (14 + 6 * t + 5) := h.2.2.2.2.2.1 5 t (by decide) ht
theorem Rel.kind (h : Rel b nt np M r) (hp : p < np) : M (b + 9) p = r (62 + 7 * p + 0) := h.2.2.2.2.2.2 0 p (by decide) hp
theorem Rel.pat (h : Rel b nt np M r) (hp : p < np) : M (b + 10) p = r (62 + 7 * p + 1) := h.2.2.2.2.2.2 1 p (by decide) hp
theorem Rel.walk (h : Rel b nt np M r) (hp : p < np) : M (b + 11) p = r (62 + 7 * p + 2) := h.2.2.2.2.2.2 2 p (by decide) hp
theorem Rel.folk (h : Rel b nt np M r) {f : Nat} (hf : f < 7) (hp : p < np) : M (b + 9 + f) p = r (62 + 7 * p + f) := h.2.2.2.2.2.2 f p hf hp
theorem Rel.iron (h : Rel b nt np M r) {f : Nat} (hf : f < 6) (ht : t < nt) : M (b + 2 + f) t = r (14 + 6 * t + f) := h.2.2.2.2.2.1 f t hf ht
theorem Vs.t8 (h : Vs nt np r) (ht : t < nt) : t < 8 := Nat.lt_of_lt_of_le ht h.1
theorem Vs.p8 (h : Vs nt np r) (hp : p < np) : p < 8 := Nat.lt_of_lt_of_le hp h.2.1
theorem Vs.sort (h : Vs nt np r) (ht : t < nt) : ∃ k, k ≤ 3 ∧ r (14 + 6 * t + 0) = nI k := (h.2.2.1 t ht).1
theorem Vs.own (h : Vs nt np r) (ht : t < nt) : r (14 + 6 * t + 4) = -1 ∨ ∃ k, k < np ∧ r (14 + 6 * t + 4) = nI k := (h.2.2.1 t ht).2.1
theorem Vs.on (h : Vs nt np r) (ht : t < nt) : r (14 + 6 * t + 5) = -1 ∨ ∃ k, k < nt ∧ r (14 + 6 * t + 5) = nI k := (h.2.2.1 t ht).2.2
theorem Vs.kind (h : Vs nt np r) (hp : p < np) : ∃ k, k ≤ 6 ∧ r (62 + 7 * p + 0) = nI k := h.2.2.2 p hp
theorem Vs.of {q : Nat → Int32} (h : Vs nt np r) (h1 : ∀ t f, t < nt → (f = 0 ∨ f = 4 ∨ f = 5) → q (14 + 6 * t + f) = r (14 + 6 * t + f)) (h2 : ∀ p, p < np → q (62 + 7 * p + 0) = r (62 + 7 * p + 0)) : Vs nt np q := by
  refine ⟨h.1, h.2.1, fun t ht => ?_, fun p hp => ?_⟩
  · rw [h1 t 0 ht (Or.inl rfl), h1 t 4 ht (Or.inr (Or.inl rfl)), h1 t 5 ht (Or.inr (Or.inr rfl))]
    exact h.2.2.1 t ht
  · rw [h2 p hp]
    exact h.2.2.2 p hp
theorem put1_s {i : Nat} {v : Int32} : put1 r i v i = v := if_pos rfl
theorem put1_o {i j : Nat} {v : Int32} (h : j ≠ i) : put1 r i v j = r j := if_neg h
theorem Rel.pi {f : Nat} {v : Int32} (h : Rel b nt np M r) (h8 : nt ≤ 8) (hf : f < 6) (ht : t < nt) : Rel b nt np (mput M (b + 2 + f) t v) (put1 r (14 + 6 * t + f) v) := by
  obtain ⟨h1, h2, h3, h4, h5, h6, h7⟩ := h
  refine ⟨(mpn (by omega)).trans h1, (mpn (by omega)).trans h2, ?_, ?_, fun s hs => ?_, fun g u hg hu => ?_, fun g p hg hp => ?_⟩
  · rw [mpn (by omega), put1_o (by omega)]; exact h3
  · rw [mpn (by omega), put1_o (by omega)]; exact h4
  · rw [mpn (by omega), put1_o (by omega)]; exact h5 s hs
  · by_cases e : g = f ∧ u = t
    · obtain ⟨rfl, rfl⟩ := e
      rw [put1_s]
      exact mp0
    · rw [mpn (by omega), put1_o (by omega)]
      exact h6 g u hg hu
  · rw [mpn (by omega), put1_o (by omega)]
    exact h7 g p hg hp
theorem Rel.pf {f : Nat} {v : Int32} (h : Rel b nt np M r) (h8 : nt ≤ 8) (hf : f < 7) (hp : p < np) : Rel b nt np (mput M (b + 9 + f) p v) (put1 r (62 + 7 * p + f) v) := by
  obtain ⟨h1, h2, h3, h4, h5, h6, h7⟩ := h
  refine ⟨(mpn (by omega)).trans h1, (mpn (by omega)).trans h2, ?_, ?_, fun s hs => ?_, fun g u hg hu => ?_, fun g u hg hu => ?_⟩
  · rw [mpn (by omega), put1_o (by omega)]; exact h3
  · rw [mpn (by omega), put1_o (by omega)]; exact h4
  · rw [mpn (by omega), put1_o (by omega)]; exact h5 s hs
  · rw [mpn (by omega), put1_o (by omega)]
    exact h6 g u hg hu
  · by_cases e : g = f ∧ u = p
    · obtain ⟨rfl, rfl⟩ := e
      rw [put1_s]
      exact mp0
    · rw [mpn (by omega), put1_o (by omega)]
      exact h7 g u hg hu
theorem Rel.pd {v : Int32} (h : Rel b nt np M r) : Rel b nt np (mput M b 5 v) (put1 r 0 v) := by
  obtain ⟨h1, h2, h3, h4, h5, h6, h7⟩ := h
  refine ⟨(mpn (by omega)).trans h1, (mpn (by omega)).trans h2, mp0.trans put1_s.symm, ?_, fun s hs => ?_, fun g u hg hu => ?_, fun g u hg hu => ?_⟩
  · rw [mpn (by omega), put1_o (by omega)]; exact h4
  · rw [mpn (by omega), put1_o (by omega)]; exact h5 s hs
  · rw [mpn (by omega), put1_o (by omega)]; exact h6 g u hg hu
  · rw [mpn (by omega), put1_o (by omega)]; exact h7 g u hg hu
theorem Rel.pz {v : Int32} (h : Rel b nt np M r) : Rel b nt np (mput M b 6 v) (put1 r 3 v) := by
  obtain ⟨h1, h2, h3, h4, h5, h6, h7⟩ := h
  refine ⟨(mpn (by omega)).trans h1, (mpn (by omega)).trans h2, ?_, mp0.trans put1_s.symm, fun s hs => ?_, fun g u hg hu => ?_, fun g u hg hu => ?_⟩
  · rw [mpn (by omega), put1_o (by omega)]; exact h3
  · rw [mpn (by omega), put1_o (by omega)]; exact h5 s hs
  · rw [mpn (by omega), put1_o (by omega)]; exact h6 g u hg hu
  · rw [mpn (by omega), put1_o (by omega)]; exact h7 g u hg hu
/-- the town b became so; nothing else changed -/
def Tc (b nt np : Nat) (r : Nat → Int32) (M M' : mM) : Prop := Rel b nt np M' r ∧ M' b 7 = M b 7 ∧ ∀ a, (a < b ∨ b + 16 < a) → M' a = M a
theorem Tc.to {M1 M2 : mM} {q : Nat → Int32} (h : Tc b nt np r M M1) (g : Tc b nt np q M1 M2) : Tc b nt np q M M2 := ⟨g.1, g.2.1.trans h.2.1, fun a ha => (g.2.2 a ha).trans (h.2.2 a ha)⟩
theorem Tc.pi {M1 : mM} {f : Nat} {v : Int32} (h : Tc b nt np r M M1) (h8 : nt ≤ 8) (hf : f < 6) (ht : t < nt) : Tc b nt np (put1 r (14 + 6 * t + f) v) M (mput M1 (b + 2 + f) t v) := ⟨h.1.pi h8 hf ht, (mpn (by omega)).trans h.2.1, fun a ha => (mpo (by omega)).trans (h.2.2 a ha)⟩
theorem Tc.pf {M1 : mM} {f : Nat} {v : Int32} (h : Tc b nt np r M M1) (h8 : nt ≤ 8) (hf : f < 7) (hp : p < np) : Tc b nt np (put1 r (62 + 7 * p + f) v) M (mput M1 (b + 9 + f) p v) := ⟨h.1.pf h8 hf hp, (mpn (by omega)).trans h.2.1, fun a ha => (mpo (by omega)).trans (h.2.2 a ha)⟩
theorem Tc.pd {M1 : mM} {v : Int32} (h : Tc b nt np r M M1) : Tc b nt np (put1 r 0 v) M (mput M1 b 5 v) := ⟨h.1.pd, (mpn (by omega)).trans h.2.1, fun a ha => (mpo (by omega)).trans (h.2.2 a ha)⟩
theorem Tc.pz {M1 : mM} {v : Int32} (h : Tc b nt np r M M1) : Tc b nt np (put1 r 3 v) M (mput M1 b 6 v) := ⟨h.1.pz, (mpn (by omega)).trans h.2.1, fun a ha => (mpo (by omega)).trans (h.2.2 a ha)⟩
theorem Rel.tc (h : Rel b nt np M r) : Tc b nt np r M M := ⟨h, rfl, fun _ _ => rfl⟩
theorem addz {v : Int32} : v = v + nI 0 := (Int32.add_zero v).symm
theorem orz {v : Int32} : v = v ||| nI 0 := (Int32.or_zero (a := v)).symm
end RV
