section CD
variable {X : mSc} {Q : Option Value → mHp → Prop} {M : mM} {b : Nat}
theorem FD_k0 {v : Int32} (h : FD v) : ∃ k, k ≤ 6 ∧ (-1000001 : Int32) - v = nI k := by
  rcases h with rfl | rfl | rfl | rfl | rfl | rfl | rfl
  · exact ⟨0, by omega, by decide +kernel⟩
  · exact ⟨1, by omega, by decide +kernel⟩
  · exact ⟨2, by omega, by decide +kernel⟩
  · exact ⟨3, by omega, by decide +kernel⟩
  · exact ⟨4, by omega, by decide +kernel⟩
  · exact ⟨5, by omega, by decide +kernel⟩
  · exact ⟨6, by omega, by decide +kernel⟩
end CD
