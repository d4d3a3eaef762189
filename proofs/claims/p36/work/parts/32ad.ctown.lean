section CA
variable {X : mSc} {Q : Option Value → mHp → Prop} {M : mM} {b : Nat}
theorem kdT (hb : b = 1 ∨ b = 18 ∨ b = 35) {j x : Nat} (h1 : 1 ≤ j) (h2 : j ≤ 16) : kd (b + j) x = if j = 2 then 3 else if j = 6 ∨ j = 7 ∨ j = 16 then 2 else 0 := by
  rcases hb with rfl | rfl | rfl <;> (unfold kd; repeat' split) <;> omega
theorem kdO (hb : b = 1 ∨ b = 18 ∨ b = 35) {x : Nat} : kd b x = if x = 3 ∨ x = 4 then 1 else 0 := by
  rcases hb with rfl | rfl | rfl <;> (unfold kd; repeat' split) <;> omega
end CA
