section CV
variable {X : mSc} {Q : Option Value → mHp → Prop} {mid pc : Nat} {L : mLoc} {st : List Value} {D D0 l l2 : mHp} {row : mRow} {ex : Nat × Nat × Nat × Nat × Nat × Int} {i k a b d n : Nat}
theorem hd_sn {o : va_E} {r x : mHp} (h : l ++ x = l2) : (o :: (r ++ l)) ++ x = o :: (r ++ l2) := by
  show o :: ((r ++ l) ++ x) = _
  rw [List.append_assoc, h]
theorem nw_at {c : va_E} (h : D.length = i) : (D ++ [c])[i]? = some c := by
  rw [List.getElem?_append_right (by omega), h, Nat.sub_self]
  rfl
theorem mCallN {ins : Instr} {len j kd a n pc c : Nat} {z : Int} {st as r : List Value} {rw2 : mRow} {fs : List Value} (hk : kd = 14 ∨ kd = 15) (h1 : (st.take n).reverse = .ref b :: as) (h2 : st.drop n = r) (h3 : (Nat.ble n st.length && mC1 (st.take n) && Nat.ble (mWt (st.drop n)) 8) = true) (h4 : mMet a = some rw2) (h5 : rw2.1 = c) (hD : D[b]? = some (.inr (c, fs))) :
    mCall (ins, len, j, kd, a, n, z) true pc L st D = some (.inr (.inr (a, .ref b :: as, r))) := by
  have hr : mRcv D (st.take n).reverse a = true := by
    unfold mRcv
    rw [h1]
    dsimp only
    rw [hD, h4]
    dsimp only
    rw [h5]
    exact Nat.beq_refl c
  have key : cond (Nat.ble n st.length && mC1 (st.take n) && Nat.ble (mWt (st.drop n)) 8 && (!true || mRcv D (st.take n).reverse a)) (some ((.inr (.inr (a, (st.take n).reverse, st.drop n))) : mRes)) none = some (.inr (.inr (a, .ref b :: as, r))) := by
    rw [h3, hr, h1, h2]
    rfl
  rcases hk with rfl | rfl <;> exact key
end CV
