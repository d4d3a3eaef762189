section CV
variable {X : mSc} {Q : Option Value → mHp → Prop} {mid pc : Nat} {L : mLoc} {st : List Value} {D D0 l l2 : mHp} {row : mRow} {ex : Nat × Nat × Nat × Nat × Nat × Int} {i k a b d n : Nat}
theorem E66_l : E66.length = 66 := hd_la R4_l rfl
theorem D_eq : E66 ++ modL 66 (nwF 10) = DL := by
  unfold E66
  rw [show va_up (va_up (va_up (va_up (fun _ => none : Nat → Option Nat) 0 (some 58)) 1 (some 60)) 2 (some 62)) 3 (some 64) = mrL [58, 60, 62, 64] from sh4]
  rfl
theorem DL_con : DL = con M0 := by
  refine con_ext rfl fun k q hk => ?_
  match k, hk with
  | 0, rfl => rfl
  | 1, rfl => rfl
  | 2, rfl => rfl
  | 3, rfl => rfl
  | 4, rfl => rfl
  | 5, rfl => rfl
  | 6, rfl => rfl
  | 7, rfl => rfl
  | 8, rfl => rfl
  | 9, rfl => rfl
  | 10, rfl => rfl
  | 11, rfl => rfl
  | 12, rfl => rfl
  | 13, rfl => rfl
  | 14, rfl => rfl
  | 15, rfl => rfl
  | 16, rfl => rfl
  | 17, rfl => rfl
  | 18, rfl => rfl
  | 19, rfl => rfl
  | 20, rfl => rfl
  | 21, rfl => rfl
  | 22, rfl => rfl
  | 23, rfl => rfl
  | 24, rfl => rfl
  | 25, rfl => rfl
  | 26, rfl => rfl
  | 27, rfl => rfl
  | 28, rfl => rfl
  | 29, rfl => rfl
  | 30, rfl => rfl
  | 31, rfl => rfl
  | 32, rfl => rfl
  | 33, rfl => rfl
  | 34, rfl => rfl
  | 35, rfl => rfl
  | 36, rfl => rfl
  | 37, rfl => rfl
  | 38, rfl => rfl
  | 39, rfl => rfl
  | 40, rfl => rfl
  | 41, rfl => rfl
  | 42, rfl => rfl
  | 43, rfl => rfl
  | 44, rfl => rfl
  | 45, rfl => rfl
  | 46, rfl => rfl
  | 47, rfl => rfl
  | 48, rfl => rfl
  | 49, rfl => rfl
  | 50, rfl => rfl
  | 51, rfl => rfl
  | 52, rfl => rfl
  | 53, rfl => rfl
  | 54, rfl => rfl
  | 55, rfl => rfl
  | 56, rfl => rfl
  | 57, rfl => rfl
  | 58, rfl => rfl
  | 59, rfl => rfl
  | 60, rfl => rfl
  | 61, rfl => rfl
  | 62, rfl => rfl
  | 63, rfl => rfl
  | 64, rfl => rfl
  | 65, rfl => rfl
  | 66, rfl => rfl
  | 67, rfl => rfl
  | 68, rfl => rfl
  | 69, rfl => rfl
  | 70, rfl => rfl
  | 71, rfl => rfl
  | 72, rfl => rfl
  | 73, rfl => rfl
  | 74, rfl => rfl
  | 75, rfl => rfl
  | 76, rfl => rfl
  | 77, rfl => rfl
  | 78, rfl => rfl
  | 79, rfl => rfl
  | n + 80, hk => exact absurd hk (by simp [mSp])
end CV
