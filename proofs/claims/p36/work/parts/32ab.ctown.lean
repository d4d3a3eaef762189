section CA
variable {X : mSc} {Q : Option Value → mHp → Prop} {M : mM} {b : Nat}
theorem tRow_ck : ∀ j, j < 16 → ((2 ≤ j ∧ j ≤ 7) ∨ (9 ≤ j ∧ j ≤ 15)) → mSp[1 + j]? = some (0, 8, []) ∧ mSp[18 + j]? = some (0, 8, []) ∧ mSp[35 + j]? = some (0, 8, []) := by
  intro j _ hj
  rcases (by omega : j = 2 ∨ j = 3 ∨ j = 4 ∨ j = 5 ∨ j = 6 ∨ j = 7 ∨ j = 9 ∨ j = 10 ∨ j = 11 ∨ j = 12 ∨ j = 13 ∨ j = 14 ∨ j = 15) with rfl | rfl | rfl | rfl | rfl | rfl | rfl | rfl | rfl | rfl | rfl | rfl | rfl <;> exact ⟨rfl, rfl, rfl⟩
end CA
