section CV
variable {X : mSc} {Q : Option Value → mHp → Prop} {mid pc : Nat} {L : mLoc} {st : List Value} {D D0 l l2 : mHp} {row : mRow} {ex : Nat × Nat × Nat × Nat × Nat × Int} {i k a b d n : Nat}
theorem put_hd {o o2 : va_E} {r : mHp} {kd : Nat} {v : Value} (h : mPut row kd [o] 0 a b v = some [o2]) : mPut row kd (o :: r) 0 a b v = some (o2 :: r) := by
  unfold mPut at h ⊢
  cases o with
  | inl q => cases h
  | inr o =>
    obtain ⟨c, fs⟩ := o
    have h2 : cond _ (some ([_] : mHp)) none = some [o2] := h
    obtain ⟨hB, hl⟩ := mCond_eq h2
    have e := (List.cons.inj (Option.some.inj hl)).1
    show cond _ (some (_ :: r)) none = _
    rw [hB, ← e]
    rfl
theorem get_hd {o : va_E} {r : mHp} {v : Value} (h : mGet [o] 0 a b = some v) : mGet (o :: r) 0 a b = some v := h
noncomputable def R1 : mHp := townL 1
end CV
