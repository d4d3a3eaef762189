section CV
variable {X : mSc} {Q : Option Value → mHp → Prop} {mid pc : Nat} {L : mLoc} {st : List Value} {D D0 l l2 : mHp} {row : mRow} {ex : Nat × Nat × Nat × Nat × Nat × Int} {i k a b d n : Nat}
noncomputable def R2 : mHp := R1 ++ townL 18
noncomputable def R3 : mHp := R2 ++ townL 35
noncomputable def R4 : mHp := R3 ++ [.inr (1, [.ref 53, .int 0, .int 0, .int 0, .int 0, .int 0, .int (-1)]), .inl (1, 120, .inl (fun _ => 0))]
theorem R1_l : R1.length = 17 := rfl
theorem R2_l : R2.length = 34 := by unfold R2; rw [List.length_append, R1_l]; rfl
theorem R3_l : R3.length = 51 := by unfold R3; rw [List.length_append, R2_l]; rfl
theorem R4_l : R4.length = 53 := by unfold R4; rw [List.length_append, R3_l]; rfl
theorem hd_l {o : va_E} {r : mHp} (h : r.length = n) : (o :: r).length = n + 1 := congrArg (· + 1) h
theorem hd_la {o : va_E} {r : mHp} (h : r.length = n) (g : l.length = k) : (o :: (r ++ l)).length = n + k + 1 := by rw [List.length_cons, List.length_append, h, g]
theorem e_stq {o : va_E} {r : mHp} {m : Nat} {f : Nat → Option Nat} {fs : List Value} {v q j : Nat} (hr : r.length = 53) (h : l[0]? = some (.inl (2, m, .inr (.inr (.inr (.inr f)))))) (hv : v = 54 + q) (hq : l[q]? = some (.inr (0, fs))) (hl : l.set 0 (.inl (2, m, .inr (.inr (.inr (.inr (va_up f j (some v))))))) = l2) (hj : j < m) (hm : m ≤ 1000) : mStQ (o :: (r ++ l)) 54 (nI j) v = some (o :: (r ++ l2)) := by
  have hi : (o :: r).length = 54 := by rw [List.length_cons, hr]
  show mStQ ((o :: r) ++ l) (54 + 0) (nI j) v = some ((o :: r) ++ l2)
  unfold mStQ
  rw [app_at hi, h]
  dsimp only
  have e : mAk ((o :: r) ++ l) 2 v = true := by
    show (match ((o :: r) ++ l)[v]? with
      | some (.inr (c, _)) => Nat.beq c 0
      | _ => false) = true
    rw [hv, app_at hi, hq]
    rfl
  rw [e, jI_out hj hm, jI_nat (by omega), app_set hi, hl]
  rfl
end CV
