section CV
variable {X : mSc} {Q : Option Value → mHp → Prop} {mid pc : Nat} {L : mLoc} {st : List Value} {D D0 l l2 : mHp} {row : mRow} {ex : Nat × Nat × Nat × Nat × Nat × Int} {i k a b d n : Nat}
theorem x_aast {v : Nat} {D1 : mHp} {j : Int32} (hm : mMet mid = some row) (hf : mFetch mid pc = some (.aastore, ex)) (hv : mStQ D i j v = some D1) (k : mEv X Q mid (pc + 1) L st D1) : mEv X Q mid pc L (.ref v :: .int j :: .ref i :: st) D := ev_inl hm hf (q := (pc + 1, L, st, D1)) (by unfold mStep; dsimp only; rw [hv]; rfl) k
theorem app_at (hi : D0.length = i) : (D0 ++ l)[i + k]? = l[k]? := by
  rw [List.getElem?_append_right (by omega)]
  congr 1
  omega
theorem app_set (hi : D0.length = i) {c : va_E} : (D0 ++ l).set (i + k) c = D0 ++ l.set k c := by
  rw [List.set_append_right _ _ (by omega)]
  congr 2
  omega
theorem a_put {kd : Nat} {v : Value} (hi : D0.length = i) (h : mPut row kd l k a b v = some l2) : mPut row kd (D0 ++ l) (i + k) a b v = some (D0 ++ l2) := by
  unfold mPut at h ⊢
  rw [app_at hi]
  cases h0 : l[k]? with
  | none => rw [h0] at h; cases h
  | some c =>
    rw [h0] at h
    cases c with
    | inl q => cases h
    | inr o =>
      obtain ⟨c, fs⟩ := o
      dsimp only at h ⊢
      obtain ⟨hB, hl⟩ := mCond_eq h
      rw [hB, app_set hi, Option.some.inj hl]
      rfl
end CV
