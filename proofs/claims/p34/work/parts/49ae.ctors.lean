section CV
variable {X : mSc} {Q : Option Value → mHp → Prop} {mid pc : Nat} {L : mLoc} {st : List Value} {D D0 l l2 : mHp} {row : mRow} {ex : Nat × Nat × Nat × Nat × Nat × Int} {i k a b d n : Nat}
theorem st_set {f : Nat → Int32} {m : Nat} {v : Int32} (ha : a < D.length) (hk : k < m) (hm : m ≤ 1000) : mStI 0 (D.set a (.inl (0, m, .inl f))) a (nI k) v = some (D.set a (.inl (0, m, .inl (upd f k v)))) := by
  unfold mStI
  rw [List.getElem?_set_self ha]
  dsimp only
  rw [jI_out hk hm, jI_nat (by omega), List.set_set]
  rfl
def mrL (l : List Nat) : Nat → Option Nat := fun j => l[j]?
theorem mr6 {d : Nat} : (fun i => if i < 6 then some (d + 1 + i) else none) = mrL [d + 1, d + 2, d + 3, d + 4, d + 5, d + 6] := by
  funext j
  unfold mrL
  match j with
  | 0 | 1 | 2 | 3 | 4 | 5 => rfl
  | n + 6 => rw [if_neg (by omega)]; rfl
theorem mr7 {d : Nat} : (fun i => if i < 7 then some (d + 1 + i) else none) = mrL [d + 1, d + 2, d + 3, d + 4, d + 5, d + 6, d + 7] := by
  funext j
  unfold mrL
  match j with
  | 0 | 1 | 2 | 3 | 4 | 5 | 6 => rfl
  | n + 7 => rw [if_neg (by omega)]; rfl
end CV
