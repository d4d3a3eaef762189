/-! ===== the class: its towns, what only reads ===== -/
section CA
variable {X : mSc} {Q : Option Value → mHp → Prop} {M : mM} {b : Nat}
theorem tO (hb : b = 1 ∨ b = 18 ∨ b = 35) : mSp[b]? = some (5, 2, [b + 2, b + 9, b + 17, 0, 0, 0, 0, 0]) := by
  rcases hb with rfl | rfl | rfl <;> rfl
theorem tI (hb : b = 1 ∨ b = 18 ∨ b = 35) : mSp[b + 1]? = some (3, 6, [b + 2, b + 3, b + 4, b + 5, b + 6, b + 7]) := by
  rcases hb with rfl | rfl | rfl <;> rfl
theorem tF (hb : b = 1 ∨ b = 18 ∨ b = 35) : mSp[b + 8]? = some (3, 7, [b + 9, b + 10, b + 11, b + 12, b + 13, b + 14, b + 15]) := by
  rcases hb with rfl | rfl | rfl <;> rfl
theorem tSp (hb : b = 1 ∨ b = 18 ∨ b = 35) : mSp[b + 16]? = some (0, 10, []) := by
  rcases hb with rfl | rfl | rfl <;> rfl
theorem tRow_ck : ∀ j, j < 16 → ((2 ≤ j ∧ j ≤ 7) ∨ (9 ≤ j ∧ j ≤ 15)) → mSp[1 + j]? = some (0, 8, []) ∧ mSp[18 + j]? = some (0, 8, []) ∧ mSp[35 + j]? = some (0, 8, []) := by
  intro j _ hj
  rcases (by omega : j = 2 ∨ j = 3 ∨ j = 4 ∨ j = 5 ∨ j = 6 ∨ j = 7 ∨ j = 9 ∨ j = 10 ∨ j = 11 ∨ j = 12 ∨ j = 13 ∨ j = 14 ∨ j = 15) with rfl | rfl | rfl | rfl | rfl | rfl | rfl | rfl | rfl | rfl | rfl | rfl | rfl <;> exact ⟨rfl, rfl, rfl⟩
theorem mCallT {ins : Instr} {len j kd a n pc : Nat} {z : Int} {L : mLoc} {st as r : List Value} {rw2 : mRow} (hb : b = 1 ∨ b = 18 ∨ b = 35) (hk : kd = 10 ∨ kd = 11) (h1 : (st.take n).reverse = .ref b :: as) (h2 : st.drop n = r) (h3 : (Nat.ble n st.length && mC1 (st.take n) && Nat.ble (mWt (st.drop n)) 8) = true) (h4 : mMet a = some rw2) (h5 : rw2.1 = 2) :
    mCall (ins, len, j, kd, a, n, z) true pc L st (con M) = some (.inr (.inr (a, .ref b :: as, r))) := by
  have hr : mRcv (con M) (st.take n).reverse a = true := by
    have hD := con_obj (M := M) (tO hb)
    unfold mRcv
    rw [h1]
    dsimp only
    rw [hD, h4]
    dsimp only
    rw [h5]
    rfl
  have key : cond (Nat.ble n st.length && mC1 (st.take n) && Nat.ble (mWt (st.drop n)) 8 && (!true || mRcv (con M) (st.take n).reverse a)) (some ((.inr (.inr (a, (st.take n).reverse, st.drop n))) : mRes)) none = some (.inr (.inr (a, .ref b :: as, r))) := by
    rw [h3, hr, h1, h2]
    rfl
  rcases hk with rfl | rfl <;> exact key
end CA
