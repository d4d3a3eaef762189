section CU
variable {X : mSc} {Q : Option Value → mHp → Prop} {M : mM}
def Cp (c nt np : Nat) (M0 M : mM) : Prop := Bq 1 M0 M ∧ (∃ s e, Cx s e c M) ∧ M 1 3 = nI nt ∧ M 1 4 = nI np
theorem Cp.lc {c nt np : Nat} {M0 M1 : mM} (h : Cp c nt np M0 M) (hL : Lc M M1) (hx : ∃ s e, Cx s e c M1) : Cp c nt np M0 M1 := ⟨h.1.trans hL.bq, hx, (hL 1 3 (by omega)).trans h.2.2.1, (hL 1 4 (by omega)).trans h.2.2.2⟩
theorem Cx.of {s e c : Nat} {M1 : mM} (h : Cx s e c M) (e2 : M1 52 = M 52) : Cx s e c M1 := by
  unfold Cx at h ⊢
  rw [e2]
  exact h
theorem Cp.row {c nt np j x : Nat} {v : Int32} {M0 : mM} (h : Cp c nt np M0 M) (h1 : 1 ≤ j) (h2 : j ≤ 16) (hv : okx (if j = 2 then 3 else if j = 6 ∨ j = 7 ∨ j = 16 then 2 else 0) v) : Cp c nt np M0 (mput M (1 + j) x v) := by
  obtain ⟨g1, ⟨s, e, g2⟩, g3, g4⟩ := h
  have t := Tw.row (M := M) (x := x) (v := v) (Or.inl rfl : (1 : Nat) = 1 ∨ (1 : Nat) = 18 ∨ (1 : Nat) = 35) h1 h2 hv
  exact ⟨g1.trans t.bq, ⟨s, e, g2.of (mpo (by omega))⟩, (t.2.2 1 (Or.inl rfl)).1.trans g3, (t.2.2 1 (Or.inl rfl)).2.trans g4⟩
theorem Cp.fld {c nt np x : Nat} {v : Int32} {M0 : mM} (h : Cp c nt np M0 M) (hv : okx (if x = 3 ∨ x = 4 then 1 else 0) v) : Bq 1 M0 (mput M 1 x v) := h.1.trans (Bq.fld (Or.inl rfl) hv)
theorem Cp.n3 {c nt np : Nat} {M0 : mM} (h : Cp c nt np M0 M) (h8 : nt < 8) : Cp c (nt + 1) np M0 (mput M 1 3 (nI (nt + 1))) := by
  obtain ⟨s, e, g2⟩ := h.2.1
  exact ⟨h.fld (okI1 (by omega)), ⟨s, e, g2.of (mpo (by decide))⟩, mp0, (mpf (by decide)).trans h.2.2.2⟩
theorem Cp.n4 {c nt np : Nat} {M0 : mM} (h : Cp c nt np M0 M) (h8 : np < 8) : Cp c nt (np + 1) M0 (mput M 1 4 (nI (np + 1))) := by
  obtain ⟨s, e, g2⟩ := h.2.1
  exact ⟨h.fld (okI1 (by omega)), ⟨s, e, g2.of (mpo (by decide))⟩, (mpf (by decide)).trans h.2.2.1, mp0⟩
theorem Cp.addC {c nt np : Nat} {M0 : mM} {s p : Int32} (h : Cp c nt np M0 M) (h8 : nt < 8) (hs : okx 3 s) : Cp c (nt + 1) np M0 (addC M nt s p) :=
  (((((((h.n3 h8).row (j := 2) (by decide) (by decide) hs).row (j := 3) (by decide) (by decide) trivial).row (j := 4) (by decide) (by decide) trivial).row (j := 5) (by decide) (by decide) trivial).row (j := 6) (by decide) (by decide) okM1).row (j := 7) (by decide) (by decide) okM1)
theorem Cp.lkc {c nt np n : Nat} {M0 : mM} (h : Cp c nt np M0 M) : ∀ i, i ≤ 4 → Cp c nt np M0 (lkc M n i) := by
  intro i
  induction i with
  | zero => intro _; exact h
  | succ i ih =>
    intro hi
    have := (ih (by omega)).row (j := 9 + (3 + i)) (x := n) (v := nI 1) (by omega) (by omega) (by rw [if_neg (by omega), if_neg (by omega)]; trivial)
    rw [← Nat.add_assoc] at this
    exact this
theorem Cp.joinC {c nt np : Nat} {M0 : mM} {k p : Int32} (h : Cp c nt np M0 M) (h8 : np < 8) : Cp c nt (np + 1) M0 (joinC M np k p) :=
  Cp.lkc ((((h.n4 h8).row (j := 9) (by decide) (by decide) trivial).row (j := 10) (by decide) (by decide) trivial).row (j := 11) (by decide) (by decide) trivial) 4 (by decide)
end CU
