section CV
variable {X : mSc} {Q : Option Value → mHp → Prop} {mid pc : Nat} {L : mLoc} {st : List Value} {D D0 l l2 : mHp} {row : mRow} {ex : Nat × Nat × Nat × Nat × Nat × Int} {i k a b d n : Nat}
theorem M0_inv : Inv M0 := by
  refine ⟨M0_wf, ?_, ?_⟩ <;>
  · intro n hn e
    have e0 : n = 0 := by
      have h2 := congrArg Int32.toInt e
      rw [jI_int (by omega)] at h2
      have h3 : (0 : Int) = (n : Int) := h2
      omega
    subst e0
    exact ⟨fun _ => 0, fun t u ht => absurd ht (Nat.not_lt_zero _)⟩
theorem Ck.inv {M M1 : mM} (h : Ck M M1) (hI : Inv M) : Inv M1 := ⟨h.1, by rw [h.2 67 (by decide)]; exact hI.2.1, by rw [h.2 68 (by decide)]; exact hI.2.2⟩
end CV
