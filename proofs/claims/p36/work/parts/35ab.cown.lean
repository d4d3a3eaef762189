section CD
variable {X : mSc} {Q : Option Value → mHp → Prop} {M : mM} {b : Nat}
theorem kd55 (x : Nat) : kd 55 x = 0 := by simp [kd]
theorem kd56 (x : Nat) : kd 56 x = 0 := by simp [kd]
theorem kd57 (x : Nat) : kd 57 x = 0 := by simp [kd]
end CD
