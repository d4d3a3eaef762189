section CV
variable {X : mSc} {Q : Option Value → mHp → Prop} {mid pc : Nat} {L : mLoc} {st : List Value} {D D0 l l2 : mHp} {row : mRow} {ex : Nat × Nat × Nat × Nat × Nat × Int} {i k a b d n : Nat}
theorem con_ext {M : mM} {l : mHp} (hl : l.length = 80) (h : ∀ k q, mSp[k]? = some q → l[k]? = some (mCellv M k q)) : l = con M := by
  refine List.ext_getElem? fun k => ?_
  have hs : mSp.length = 80 := rfl
  by_cases hk : k < 80
  · have e : mSp[k]? = some mSp[k] := List.getElem?_eq_getElem (by omega)
    rw [h k _ e, con_get e]
  · rw [con_none (by omega), List.getElem?_eq_none (by omega)]
end CV
