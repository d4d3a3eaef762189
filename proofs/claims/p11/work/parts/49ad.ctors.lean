section CV
variable {X : mSc} {Q : Option Value → mHp → Prop} {mid pc : Nat} {L : mLoc} {st : List Value} {D D0 l l2 : mHp} {row : mRow} {ex : Nat × Nat × Nat × Nat × Nat × Int} {i k a b d n : Nat}
def M0 (a b : Nat) : Int32 := if a = 1 ∨ a = 18 ∨ a = 35 then (if b = 6 then 1 else if b = 7 then -1 else 0) else if a = 17 ∨ a = 34 ∨ a = 51 then (if b < 10 then -1 else 0) else if a = 52 ∨ a = 66 then (if b = 6 then -1 else 0) else if a = 67 then (if b = 3 then 1 else if 4 ≤ b ∧ b < 14 then -1 else 0) else 0

noncomputable def DL : mHp := [.inr (3, [.ref 1, .ref 18, .ref 35, .ref 52, .ref 54, .ref 55, .int 0, .ref 56, .ref 57]),
  .inr (2, [.ref 2, .ref 9, .ref 17, .int 0, .int 0, .int 0, .int 1, .int (-1)]),
  .inl (3, 6, .inr (.inr (.inr (.inr (mrL [3, 4, 5, 6, 7, 8]))))),
  .inl (0, 8, .inl (fun _ => 0)),
  .inl (0, 8, .inl (fun _ => 0)),
  .inl (0, 8, .inl (fun _ => 0)),
  .inl (0, 8, .inl (fun _ => 0)),
  .inl (0, 8, .inl (fun _ => 0)),
  .inl (0, 8, .inl (fun _ => 0)),
  .inl (3, 7, .inr (.inr (.inr (.inr (mrL [10, 11, 12, 13, 14, 15, 16]))))),
  .inl (0, 8, .inl (fun _ => 0)),
  .inl (0, 8, .inl (fun _ => 0)),
  .inl (0, 8, .inl (fun _ => 0)),
  .inl (0, 8, .inl (fun _ => 0)),
  .inl (0, 8, .inl (fun _ => 0)),
  .inl (0, 8, .inl (fun _ => 0)),
  .inl (0, 8, .inl (fun _ => 0)),
  .inl (0, 10, .inl (spF 10)),
  .inr (2, [.ref 19, .ref 26, .ref 34, .int 0, .int 0, .int 0, .int 1, .int (-1)]),
  .inl (3, 6, .inr (.inr (.inr (.inr (mrL [20, 21, 22, 23, 24, 25]))))),
  .inl (0, 8, .inl (fun _ => 0)),
  .inl (0, 8, .inl (fun _ => 0)),
  .inl (0, 8, .inl (fun _ => 0)),
  .inl (0, 8, .inl (fun _ => 0)),
  .inl (0, 8, .inl (fun _ => 0)),
  .inl (0, 8, .inl (fun _ => 0)),
  .inl (3, 7, .inr (.inr (.inr (.inr (mrL [27, 28, 29, 30, 31, 32, 33]))))),
  .inl (0, 8, .inl (fun _ => 0)),
  .inl (0, 8, .inl (fun _ => 0)),
  .inl (0, 8, .inl (fun _ => 0)),
  .inl (0, 8, .inl (fun _ => 0)),
  .inl (0, 8, .inl (fun _ => 0)),
  .inl (0, 8, .inl (fun _ => 0)),
  .inl (0, 8, .inl (fun _ => 0)),
  .inl (0, 10, .inl (spF 10)),
  .inr (2, [.ref 36, .ref 43, .ref 51, .int 0, .int 0, .int 0, .int 1, .int (-1)]),
  .inl (3, 6, .inr (.inr (.inr (.inr (mrL [37, 38, 39, 40, 41, 42]))))),
  .inl (0, 8, .inl (fun _ => 0)),
  .inl (0, 8, .inl (fun _ => 0)),
  .inl (0, 8, .inl (fun _ => 0)),
  .inl (0, 8, .inl (fun _ => 0)),
  .inl (0, 8, .inl (fun _ => 0)),
  .inl (0, 8, .inl (fun _ => 0)),
  .inl (3, 7, .inr (.inr (.inr (.inr (mrL [44, 45, 46, 47, 48, 49, 50]))))),
  .inl (0, 8, .inl (fun _ => 0)),
  .inl (0, 8, .inl (fun _ => 0)),
  .inl (0, 8, .inl (fun _ => 0)),
  .inl (0, 8, .inl (fun _ => 0)),
  .inl (0, 8, .inl (fun _ => 0)),
  .inl (0, 8, .inl (fun _ => 0)),
  .inl (0, 8, .inl (fun _ => 0)),
  .inl (0, 10, .inl (spF 10)),
  .inr (1, [.ref 53, .int 0, .int 0, .int 0, .int 0, .int 0, .int (-1)]),
  .inl (1, 120, .inl (fun _ => 0)),
  .inl (2, 4, .inr (.inr (.inr (.inr (mrL [58, 60, 62, 64]))))),
  .inl (0, 7, .inl (fun _ => 0)),
  .inl (0, 8, .inl (fun _ => 0)),
  .inl (0, 8, .inl (fun _ => 0)),
  .inr (0, [.ref 59, .int 0, .int 0]),
  .inl (0, 40, .inl (fun _ => 0)),
  .inr (0, [.ref 61, .int 0, .int 0]),
  .inl (0, 40, .inl (fun _ => 0)),
  .inr (0, [.ref 63, .int 0, .int 0]),
  .inl (0, 40, .inl (fun _ => 0)),
  .inr (0, [.ref 65, .int 0, .int 0]),
  .inl (0, 40, .inl (fun _ => 0)),
  .inr (4, [.ref 67, .ref 68, .ref 69, .int 0, .ref 70, .ref 71, .int (-1), .ref 72, .ref 73, .int 0, .int 0, .int 0, .int 0, .int 0, .int 0, .ref 74, .ref 75, .int 0, .int 0, .int 0, .ref 76, .ref 77, .ref 78, .ref 79]),
  .inl (0, 118, .inl (nwF 10)),
  .inl (0, 118, .inl (fun _ => 0)),
  .inl (0, 118, .inl (fun _ => 0)),
  .inl (0, 8, .inl (fun _ => 0)),
  .inl (0, 8, .inl (fun _ => 0)),
  .inl (0, 8, .inl (fun _ => 0)),
  .inl (0, 120, .inl (fun _ => 0)),
  .inl (4, 7, .inr (.inr (.inr (.inr (mrL [1000007, 1000001, 1000002, 1000003, 1000004, 1000005, 1000006]))))),
  .inl (0, 840, .inl (fun _ => 0)),
  .inl (0, 4, .inl (fun _ => 0)),
  .inl (0, 4, .inl (fun _ => 0)),
  .inl (0, 160, .inl (fun _ => 0)),
  .inl (0, 40, .inl (fun _ => 0))]
theorem con_ext {M : mM} {l : mHp} (hl : l.length = 80) (h : ∀ k q, mSp[k]? = some q → l[k]? = some (mCellv M k q)) : l = con M := by
  refine List.ext_getElem? fun k => ?_
  have hs : mSp.length = 80 := rfl
  by_cases hk : k < 80
  · have e : mSp[k]? = some mSp[k] := List.getElem?_eq_getElem (by omega)
    rw [h k _ e, con_get e]
  · rw [con_none (by omega), List.getElem?_eq_none (by omega)]
theorem E66_l : E66.length = 66 := hd_la R4_l rfl
theorem D_eq : E66 ++ modL 66 (nwF 10) = DL := by
  unfold E66
  rw [show va_up (va_up (va_up (va_up (fun _ => none : Nat → Option Nat) 0 (some 58)) 1 (some 60)) 2 (some 62)) 3 (some 64) = mrL [58, 60, 62, 64] from sh4]
  rfl
theorem DL_con : DL = con M0 := by
  refine con_ext rfl fun k q hk => ?_
  match k, hk with
  | 0, rfl => rfl
  | 1, rfl => rfl
  | 2, rfl => rfl
  | 3, rfl => rfl
  | 4, rfl => rfl
  | 5, rfl => rfl
  | 6, rfl => rfl
  | 7, rfl => rfl
  | 8, rfl => rfl
  | 9, rfl => rfl
  | 10, rfl => rfl
  | 11, rfl => rfl
  | 12, rfl => rfl
  | 13, rfl => rfl
  | 14, rfl => rfl
  | 15, rfl => rfl
  | 16, rfl => rfl
  | 17, rfl => rfl
  | 18, rfl => rfl
  | 19, rfl => rfl
  | 20, rfl => rfl
  | 21, rfl => rfl
  | 22, rfl => rfl
  | 23, rfl => rfl
  | 24, rfl => rfl
  | 25, rfl => rfl
  | 26, rfl => rfl
  | 27, rfl => rfl
  | 28, rfl => rfl
  | 29, rfl => rfl
  | 30, rfl => rfl
  | 31, rfl => rfl
  | 32, rfl => rfl
  | 33, rfl => rfl
  | 34, rfl => rfl
  | 35, rfl => rfl
  | 36, rfl => rfl
  | 37, rfl => rfl
  | 38, rfl => rfl
  | 39, rfl => rfl
  | 40, rfl => rfl
  | 41, rfl => rfl
  | 42, rfl => rfl
  | 43, rfl => rfl
  | 44, rfl => rfl
  | 45, rfl => rfl
  | 46, rfl => rfl
  | 47, rfl => rfl
  | 48, rfl => rfl
  | 49, rfl => rfl
  | 50, rfl => rfl
  | 51, rfl => rfl
  | 52, rfl => rfl
  | 53, rfl => rfl
  | 54, rfl => rfl
  | 55, rfl => rfl
  | 56, rfl => rfl
  | 57, rfl => rfl
  | 58, rfl => rfl
  | 59, rfl => rfl
  | 60, rfl => rfl
  | 61, rfl => rfl
  | 62, rfl => rfl
  | 63, rfl => rfl
  | 64, rfl => rfl
  | 65, rfl => rfl
  | 66, rfl => rfl
  | 67, rfl => rfl
  | 68, rfl => rfl
  | 69, rfl => rfl
  | 70, rfl => rfl
  | 71, rfl => rfl
  | 72, rfl => rfl
  | 73, rfl => rfl
  | 74, rfl => rfl
  | 75, rfl => rfl
  | 76, rfl => rfl
  | 77, rfl => rfl
  | 78, rfl => rfl
  | 79, rfl => rfl
  | n + 80, hk => exact absurd hk (by simp [mSp])
end CV
