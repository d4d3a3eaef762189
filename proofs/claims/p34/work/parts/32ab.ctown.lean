section CA
variable {X : mSc} {Q : Option Value → mHp → Prop} {M : mM} {b : Nat}
theorem tRow (hb : b = 1 ∨ b = 18 ∨ b = 35) {j : Nat} (hj : (2 ≤ j ∧ j ≤ 7) ∨ (9 ≤ j ∧ j ≤ 15)) : mSp[b + j]? = some (0, 8, []) := by
  obtain ⟨h1, h2, h3⟩ := tRow_ck j (by omega) hj
  rcases hb with rfl | rfl | rfl
  · exact h1
  · exact h2
  · exact h3
theorem tRowI (hb : b = 1 ∨ b = 18 ∨ b = 35) {k : Nat} (hk : k < 6) : mSp[b + 2 + k]? = some (0, 8, []) := by
  rw [Nat.add_assoc]
  exact tRow hb (by omega)
theorem tRowF (hb : b = 1 ∨ b = 18 ∨ b = 35) {k : Nat} (hk : k < 7) : mSp[b + 9 + k]? = some (0, 8, []) := by
  rw [Nat.add_assoc]
  exact tRow hb (by omega)
theorem tIk {k : Nat} (hk : k < 6) : ([b + 2, b + 3, b + 4, b + 5, b + 6, b + 7] : List Nat)[k]? = some (b + 2 + k) := by
  rcases (by omega : k = 0 ∨ k = 1 ∨ k = 2 ∨ k = 3 ∨ k = 4 ∨ k = 5) with rfl | rfl | rfl | rfl | rfl | rfl <;> rfl
theorem tFk {k : Nat} (hk : k < 7) : ([b + 9, b + 10, b + 11, b + 12, b + 13, b + 14, b + 15] : List Nat)[k]? = some (b + 9 + k) := by
  rcases (by omega : k = 0 ∨ k = 1 ∨ k = 2 ∨ k = 3 ∨ k = 4 ∨ k = 5 ∨ k = 6) with rfl | rfl | rfl | rfl | rfl | rfl | rfl <;> rfl
theorem kdT (hb : b = 1 ∨ b = 18 ∨ b = 35) {j x : Nat} (h1 : 1 ≤ j) (h2 : j ≤ 16) : kd (b + j) x = if j = 2 then 3 else if j = 6 ∨ j = 7 ∨ j = 16 then 2 else 0 := by
  rcases hb with rfl | rfl | rfl <;> (unfold kd; repeat' split) <;> omega
theorem kdO (hb : b = 1 ∨ b = 18 ∨ b = 35) {x : Nat} : kd b x = if x = 3 ∨ x = 4 then 1 else 0 := by
  rcases hb with rfl | rfl | rfl <;> (unfold kd; repeat' split) <;> omega
theorem Wf.ct (hW : Wf M) (hb : b = 1 ∨ b = 18 ∨ b = 35) : ∃ n, n ≤ 8 ∧ M b 3 = nI n := by
  have := hW b 3
  rw [kdO hb] at this
  exact ok1 this
theorem Wf.cpn (hW : Wf M) (hb : b = 1 ∨ b = 18 ∨ b = 35) : ∃ n, n ≤ 8 ∧ M b 4 = nI n := by
  have := hW b 4
  rw [kdO hb] at this
  exact ok1 this
end CA
