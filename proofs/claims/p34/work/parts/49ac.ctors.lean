section CV
variable {X : mSc} {Q : Option Value → mHp → Prop} {mid pc : Nat} {L : mLoc} {st : List Value} {D D0 l l2 : mHp} {row : mRow} {ex : Nat × Nat × Nat × Nat × Nat × Int} {i k a b d n : Nat}
theorem a_get {v : Value} (hi : D0.length = i) (h : mGet l k a b = some v) : mGet (D0 ++ l) (i + k) a b = some v := by
  unfold mGet at h ⊢
  rw [app_at hi]
  exact h
theorem app_sn {x : mHp} (h : l ++ x = l2) : (D0 ++ l) ++ x = D0 ++ l2 := by rw [List.append_assoc, h]
theorem a_len (hi : D0.length = i) (h : l.length = k) : (D0 ++ l).length = i + k := by rw [List.length_append, hi, h]
def spF (k : Nat) : Nat → Int32 := fun j => if j < k then -1 else 0
theorem spF_0 : (fun _ => 0 : Nat → Int32) = spF 0 := by
  funext j
  exact (if_neg (Nat.not_lt_zero j)).symm
theorem spF_s (k : Nat) : upd (spF k) k (-1) = spF (k + 1) := by
  funext j
  unfold upd spF
  by_cases h : j = k
  · rw [if_pos h, if_pos (by omega)]
  · rw [if_neg h]
    by_cases h2 : j < k
    · rw [if_pos h2, if_pos (by omega)]
    · rw [if_neg h2, if_neg (by omega)]
end CV
