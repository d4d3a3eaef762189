section CA
variable {X : mSc} {Q : Option Value → mHp → Prop} {M : mM} {b : Nat}
theorem mCallT {ins : Instr} {len j kd a n pc : Nat} {z : Int} {L : mLoc} {st as r : List Value} {rw2 : mRow} (hb : b = 1 ∨ b = 18 ∨ b = 35) (hk : kd = 10 ∨ kd = 11) (h1 : (st.take n).reverse = .ref b :: as) (h2 : st.drop n = r) (h3 : (Nat.ble n st.length && mC1 (st.take n) && Nat.ble (mWt (st.drop n)) 8) = true) (h4 : mMet a = some rw2) (h5 : rw2.1 = 2) :
    mCall (ins, len, j, kd, a, n, z) true pc L st (con M) = some (.inr (.inr (a, .ref b :: as, r))) := by
  have hr : mRcv (con M) (st.take n).reverse a = true := by
    have hD := con_obj (M := M) (tO hb)
    unfold mRcv
    rw [h1]
    dsimp only
    rw [hD, h4]
    dsimp only
    rw [h5]
    rfl
  have key : cond (Nat.ble n st.length && mC1 (st.take n) && Nat.ble (mWt (st.drop n)) 8 && (!true || mRcv (con M) (st.take n).reverse a)) (some ((.inr (.inr (a, (st.take n).reverse, st.drop n))) : mRes)) none = some (.inr (.inr (a, .ref b :: as, r))) := by
    rw [h3, hr, h1, h2]
    rfl
  rcases hk with rfl | rfl <;> exact key
theorem tRow (hb : b = 1 ∨ b = 18 ∨ b = 35) {j : Nat} (hj : (2 ≤ j ∧ j ≤ 7) ∨ (9 ≤ j ∧ j ≤ 15)) : mSp[b + j]? = some (0, 8, []) := by
  obtain ⟨h1, h2, h3⟩ := tRow_ck j (by omega) hj
  rcases hb with rfl | rfl | rfl
  · exact h1
  · exact h2
  · exact h3
theorem tRowI (hb : b = 1 ∨ b = 18 ∨ b = 35) {k : Nat} (hk : k < 6) : mSp[b + 2 + k]? = some (0, 8, []) := by
  rw [Nat.add_assoc]
  exact tRow hb (by omega)
theorem tRowF (hb : b = 1 ∨ b = 18 ∨ b = 35) {k : Nat} (hk : k < 7) : mSp[b + 9 + k]? = some (0, 8, []) := by
  rw [Nat.add_assoc]
  exact tRow hb (by omega)
theorem tIk {k : Nat} (hk : k < 6) : ([b + 2, b + 3, b + 4, b + 5, b + 6, b + 7] : List Nat)[k]? = some (b + 2 + k) := by
  rcases (by omega : k = 0 ∨ k = 1 ∨ k = 2 ∨ k = 3 ∨ k = 4 ∨ k = 5) with rfl | rfl | rfl | rfl | rfl | rfl <;> rfl
theorem tFk {k : Nat} (hk : k < 7) : ([b + 9, b + 10, b + 11, b + 12, b + 13, b + 14, b + 15] : List Nat)[k]? = some (b + 9 + k) := by
  rcases (by omega : k = 0 ∨ k = 1 ∨ k = 2 ∨ k = 3 ∨ k = 4 ∨ k = 5 ∨ k = 6) with rfl | rfl | rfl | rfl | rfl | rfl | rfl <;> rfl
end CA
