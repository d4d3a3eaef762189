section CV
variable {X : mSc} {Q : Option Value → mHp → Prop} {mid pc : Nat} {L : mLoc} {st : List Value} {D D0 l l2 : mHp} {row : mRow} {ex : Nat × Nat × Nat × Nat × Nat × Int} {i k a b d n : Nat}
theorem a_stq {v n m : Nat} {f : Nat → Option Nat} (hi : D0.length = i) (h : l[k]? = some (.inl (4, m, .inr (.inr (.inr (.inr f)))))) (hl : l.set k (.inl (4, m, .inr (.inr (.inr (.inr (va_up f n (some v))))))) = l2) (hn : n < m) (hm : m ≤ 1000) (h1 : 1000000 ≤ v) (h2 : v < 1000015) : mStQ (D0 ++ l) (i + k) (nI n) v = some (D0 ++ l2) := by
  unfold mStQ
  rw [app_at hi, h]
  dsimp only
  have e : mAk (D0 ++ l) 4 v = true := by
    show (Nat.ble 1000000 v && Nat.blt v 1000015) = true
    rw [Nat.ble_eq_true_of_le h1, Nat.blt_eq.mpr h2]
    rfl
  rw [e, jI_out hn hm, jI_nat (by omega), app_set hi, hl]
  rfl
theorem a_sti {n m : Nat} {f : Nat → Int32} {v : Int32} (hi : D0.length = i) (h : l[k]? = some (.inl (0, m, .inl f))) (hn : n < m) (hm : m ≤ 1000) : mStI 0 (D0 ++ l) (i + k) (nI n) v = some (D0 ++ l.set k (.inl (0, m, .inl (upd f n v)))) := by
  unfold mStI
  rw [app_at hi, h]
  dsimp only
  rw [jI_out hn hm, jI_nat (by omega), app_set hi]
  rfl
end CV
