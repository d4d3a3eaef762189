/-! ===== the class: its towns, what only reads ===== -/
section CA
variable {X : mSc} {Q : Option Value → mHp → Prop} {M : mM} {b : Nat}
theorem tO (hb : b = 1 ∨ b = 18 ∨ b = 35) : mSp[b]? = some (5, 2, [b + 2, b + 9, b + 17, 0, 0, 0, 0, 0]) := by
  rcases hb with rfl | rfl | rfl <;> rfl
theorem tI (hb : b = 1 ∨ b = 18 ∨ b = 35) : mSp[b + 1]? = some (3, 6, [b + 2, b + 3, b + 4, b + 5, b + 6, b + 7]) := by
  rcases hb with rfl | rfl | rfl <;> rfl
theorem tF (hb : b = 1 ∨ b = 18 ∨ b = 35) : mSp[b + 8]? = some (3, 7, [b + 9, b + 10, b + 11, b + 12, b + 13, b + 14, b + 15]) := by
  rcases hb with rfl | rfl | rfl <;> rfl
theorem tSp (hb : b = 1 ∨ b = 18 ∨ b = 35) : mSp[b + 16]? = some (0, 10, []) := by
  rcases hb with rfl | rfl | rfl <;> rfl
end CA
