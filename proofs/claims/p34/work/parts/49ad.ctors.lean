section CV
variable {X : mSc} {Q : Option Value → mHp → Prop} {mid pc : Nat} {L : mLoc} {st : List Value} {D D0 l l2 : mHp} {row : mRow} {ex : Nat × Nat × Nat × Nat × Nat × Int} {i k a b d n : Nat}
def nwF (k : Nat) : Nat → Int32 := fun j => if j = 3 then 1 else if 4 ≤ j ∧ j < 4 + k then -1 else 0
theorem nwF_0 : upd (fun _ => 0) 3 (nI 1) = nwF 0 := by
  funext j
  unfold upd nwF
  by_cases h : j = 3
  · rw [if_pos h, if_pos h]; rfl
  · rw [if_neg h, if_neg h, if_neg (by omega)]
theorem nwF_s (k : Nat) : upd (nwF k) (4 + k) (-1) = nwF (k + 1) := by
  funext j
  unfold upd nwF
  by_cases h : j = 4 + k
  · rw [if_pos h, if_neg (by omega), if_pos (by omega)]
  · rw [if_neg h]
    by_cases h3 : j = 3
    · rw [if_pos h3, if_pos h3]
    · rw [if_neg h3, if_neg h3]
      by_cases h2 : 4 ≤ j ∧ j < 4 + k
      · rw [if_pos h2, if_pos (by omega)]
      · rw [if_neg h2, if_neg (by omega)]
end CV
