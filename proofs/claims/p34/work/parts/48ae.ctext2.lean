section CU
variable {X : mSc} {Q : Option Value → mHp → Prop} {M : mM}
theorem w92 {c nt np : Nat} {M0 : mM} (h : Cp c nt np M0 M) : ∃ M', mT X 92 [.ref 52] (con M) none (con M') ∧ Cp c nt np M0 M' := by
  obtain ⟨s, e, hx⟩ := h.2.1
  obtain ⟨M1, h1, h2, h3⟩ := t92 (X := X) hx
  exact ⟨M1, h1, h.lc h2 h3⟩
theorem w112 {c nt np : Nat} {M0 : mM} (h : Cp c nt np M0 M) : ∃ M', mT X 112 [.ref 52] (con M) none (con M') ∧ Cp c nt np M0 M' := by
  obtain ⟨s, e, hx⟩ := h.2.1
  obtain ⟨M1, h1, h2, h3, -⟩ := t112 (X := X) hx
  exact ⟨M1, h1, h.lc h2 ⟨s, e, h3⟩⟩
def Nv (m v : Int32) : Prop := ∃ x, v = nI x ∧ (x = 0 ∨ (nI x ≤ m ∧ x ≤ 1000))
theorem w111 {c nt np : Nat} {M0 : mM} {m : Int32} (h : Cp c nt np M0 M) : ∃ v M', mT X 111 [.ref 52, .int m] (con M) (some (.int v)) (con M') ∧ Cp c nt np M0 M' ∧ Nv m v := by
  obtain ⟨s, e, hx⟩ := h.2.1
  obtain ⟨v, M1, h1, h2, h3⟩ := t111 (X := X) (m := m) hx
  exact ⟨v, M1, h1, h.lc h2.1 h2.2, h3⟩
theorem w110 {c nt np t : Nat} {M0 : mM} {m w : Int32} (ht : t < 15) (h : Cp c nt np M0 M) : ∃ v M', mT X 110 [.ref 52, .ref (1000000 + t), .int m, .int w] (con M) (some (.int v)) (con M') ∧ Cp c nt np M0 M' ∧ (v = w ∨ Nv m v) := by
  obtain ⟨s, e, hx⟩ := h.2.1
  obtain ⟨v, M1, h1, h2, h3⟩ := t110 (X := X) (m := m) (w := w) hx ht
  exact ⟨v, M1, h1, h.lc h2.1 h2.2, h3⟩
theorem w97 {c nt np t : Nat} {M0 : mM} (ht : t < 15) (h : Cp c nt np M0 M) : ∃ v, mT X 97 [.ref 52, .ref (1000000 + t)] (con M) (some (.int v)) (con M) ∧ (v = nI 0 ∨ v = nI 1) := by
  obtain ⟨s, e, hx⟩ := h.2.1
  exact t97 hx ht
theorem w95 {c nt np : Nat} {M0 : mM} (h : Cp c nt np M0 M) : ∃ v, mT X 95 [.ref 52] (con M) (some (.int v)) (con M) ∧ (v = -1 ∨ ∃ k, k < 7 ∧ v = nI k) := by
  obtain ⟨s, e, hx⟩ := h.2.1
  exact t95 hx
theorem nv3 {v : Int32} (h : Nv (nI 3) v) : okx 3 v := by
  obtain ⟨x, rfl, hx⟩ := h
  rcases hx with rfl | ⟨h1, h2⟩
  · exact okI3 (by decide)
  · exact okI3 ((jI_le (by omega) (by decide)).mp h1)
theorem nvn {v : Int32} {n : Nat} (hn : n ≤ 8) (h : v = -1 ∨ Nv (nI n - nI 1) v) : okx 2 v := by
  rcases h with rfl | ⟨x, rfl, hx⟩
  · exact okM1
  · rcases hx with rfl | ⟨h1, h2⟩
    · exact okI2 (by decide)
    · obtain ⟨u, hu, e⟩ := in_k (n := n) rfl (by omega) ⟨(jI_le (by decide) (by omega)).mpr (Nat.zero_le x), h1⟩
      rw [e]
      exact okI2 (by omega)
end CU
