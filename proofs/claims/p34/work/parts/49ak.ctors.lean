section CV
variable {X : mSc} {Q : Option Value → mHp → Prop} {mid pc : Nat} {L : mLoc} {st : List Value} {D D0 l l2 : mHp} {row : mRow} {ex : Nat × Nat × Nat × Nat × Nat × Int} {i k a b d n : Nat}
theorem kn7 : va_up (va_up (va_up (va_up (va_up (va_up (va_up (fun _ => none : Nat → Option Nat) 0 (some 1000007)) 1 (some 1000001)) 2 (some 1000002)) 3 (some 1000003)) 4 (some 1000004)) 5 (some 1000005)) 6 (some 1000006) = mrL [1000007, 1000001, 1000002, 1000003, 1000004, 1000005, 1000006] := by
  funext j
  unfold mrL
  match j with
  | 0 | 1 | 2 | 3 | 4 | 5 | 6 => rfl
  | n + 7 => rfl
def shN : Nat → Option Nat := va_up (va_up (va_up (va_up (fun _ => none) 0 (some 58)) 1 (some 60)) 2 (some 62)) 3 (some 64)
theorem sh4 : shN = mrL [58, 60, 62, 64] := by
  funext j
  unfold mrL shN
  match j with
  | 0 | 1 | 2 | 3 => rfl
  | n + 4 => rfl
noncomputable def modL (i : Nat) (f : Nat → Int32) : mHp := [.inr (4, [.ref (i + 1), .ref (i + 2), .ref (i + 3), .int 0, .ref (i + 4), .ref (i + 5), .int (-1), .ref (i + 6), .ref (i + 7), .int 0, .int 0, .int 0, .int 0, .int 0, .int 0, .ref (i + 8), .ref (i + 9), .int 0, .int 0, .int 0, .ref (i + 10), .ref (i + 11), .ref (i + 12), .ref (i + 13)]),
  .inl (0, 118, .inl f), .inl (0, 118, .inl (fun _ => 0)), .inl (0, 118, .inl (fun _ => 0)), .inl (0, 8, .inl (fun _ => 0)), .inl (0, 8, .inl (fun _ => 0)), .inl (0, 8, .inl (fun _ => 0)), .inl (0, 120, .inl (fun _ => 0)), .inl (4, 7, .inr (.inr (.inr (.inr (mrL [1000007, 1000001, 1000002, 1000003, 1000004, 1000005, 1000006]))))), .inl (0, 840, .inl (fun _ => 0)), .inl (0, 4, .inl (fun _ => 0)), .inl (0, 4, .inl (fun _ => 0)), .inl (0, 160, .inl (fun _ => 0)), .inl (0, 40, .inl (fun _ => 0))]
end CV
