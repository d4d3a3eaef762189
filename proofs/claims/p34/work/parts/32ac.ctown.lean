section CA
variable {X : mSc} {Q : Option Value → mHp → Prop} {M : mM} {b : Nat}
theorem Wf.csort (hW : Wf M) (hb : b = 1 ∨ b = 18 ∨ b = 35) (t : Nat) : ∃ k, k ≤ 3 ∧ M (b + 2) t = nI k := by
  have := hW (b + 2) t
  rw [kdT hb (by decide) (by decide)] at this
  exact ok3 this
theorem Wf.cown (hW : Wf M) (hb : b = 1 ∨ b = 18 ∨ b = 35) (t : Nat) : okx 2 (M (b + 6) t) := by
  have := hW (b + 6) t
  rw [kdT hb (by decide) (by decide)] at this
  exact this
theorem Wf.chang (hW : Wf M) (hb : b = 1 ∨ b = 18 ∨ b = 35) (t : Nat) : okx 2 (M (b + 7) t) := by
  have := hW (b + 7) t
  rw [kdT hb (by decide) (by decide)] at this
  exact this
/-- counts of the towns, and all of the reference, stay -/
def Tw (b : Nat) (M M' : mM) : Prop := (Wf M → Wf M') ∧ (∀ a, (66 ≤ a ∨ (b = 35 ∧ a ≠ 55 ∧ a ≠ 56 ∧ a ≠ 57 ∧ (a < 35 ∨ 51 < a))) → M' a = M a) ∧ (∀ c, (c = 1 ∨ c = 18 ∨ c = 35) → M' c 3 = M c 3 ∧ M' c 4 = M c 4)
theorem Tw.rf : Tw b M M := ⟨fun h => h, fun _ _ => rfl, fun _ _ => ⟨rfl, rfl⟩⟩
theorem Tw.trans {M1 M2 : mM} (h : Tw b M M1) (g : Tw b M1 M2) : Tw b M M2 := ⟨fun w => g.1 (h.1 w), fun a ha => (g.2.1 a ha).trans (h.2.1 a ha), fun c hc => ⟨(g.2.2 c hc).1.trans (h.2.2 c hc).1, (g.2.2 c hc).2.trans (h.2.2 c hc).2⟩⟩
theorem Tw.put {a c : Nat} {v : Int32} (hv : okx (kd a c) v) (ha : a < 66) (hx : b = 35 → 35 ≤ a ∧ a ≤ 51) (hc : (a = 1 ∨ a = 18 ∨ a = 35) → c ≠ 3 ∧ c ≠ 4) : Tw b M (mput M a c v) := by
  refine ⟨fun h => h.put hv, fun i hi => mpo (by omega), fun d hd => ?_⟩
  unfold mput
  constructor
  · rw [if_neg]
    rintro ⟨e1, e2⟩
    subst e1
    exact (hc hd).1 e2.symm
  · rw [if_neg]
    rintro ⟨e1, e2⟩
    subst e1
    exact (hc hd).2 e2.symm
end CA
