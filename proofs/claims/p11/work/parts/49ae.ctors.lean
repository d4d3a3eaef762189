section CV
variable {X : mSc} {Q : Option Value → mHp → Prop} {mid pc : Nat} {L : mLoc} {st : List Value} {D D0 l l2 : mHp} {row : mRow} {ex : Nat × Nat × Nat × Nat × Nat × Int} {i k a b d n : Nat}
theorem D_con : E66 ++ modL 66 (nwF 10) = con M0 := D_eq.trans DL_con
theorem M0_wf : Wf M0 := by
  intro a b
  have h0 : ∀ k, okx k 0 := fun k => by
    unfold okx
    split <;> first | trivial | decide
  unfold M0
  by_cases h1 : a = 1 ∨ a = 18 ∨ a = 35
  · rw [if_pos h1, kdO h1]
    by_cases h6 : b = 6
    · subst h6; trivial
    · rw [if_neg h6]
      by_cases h7 : b = 7
      · subst h7; trivial
      · rw [if_neg h7]; exact h0 _
  · rw [if_neg h1]
    by_cases h2 : a = 17 ∨ a = 34 ∨ a = 51
    · rw [if_pos h2]
      split
      · have e : kd a b = 2 := by
          rcases h2 with rfl | rfl | rfl <;> rfl
        rw [e]
        exact okM1
      · exact h0 _
    · rw [if_neg h2]
      by_cases h3 : a = 52 ∨ a = 66
      · rw [if_pos h3]
        split
        · rename_i h6
          subst h6
          have e : kd a 6 = 0 := by
            rcases h3 with rfl | rfl <;> rfl
          rw [e]
          trivial
        · exact h0 _
      · rw [if_neg h3]
        by_cases h4 : a = 67
        · subst h4
          rw [if_pos rfl]
          by_cases h6 : b = 3
          · subst h6; trivial
          · rw [if_neg h6]
            split
            · rename_i h7
              have e : kd 67 b = 2 := by
                unfold kd
                rw [if_pos (by decide), if_neg (by omega), if_pos (by omega)]
              rw [e]
              exact okM1
            · exact h0 _
        · rw [if_neg h4]
          exact h0 _
theorem M0_inv : Inv M0 := by
  refine ⟨M0_wf, ?_, ?_⟩ <;>
  · intro n hn e
    have e0 : n = 0 := by
      have h2 := congrArg Int32.toInt e
      rw [jI_int (by omega)] at h2
      have h3 : (0 : Int) = (n : Int) := h2
      omega
    subst e0
    exact ⟨fun _ => 0, fun t u ht => absurd ht (Nat.not_lt_zero _)⟩
theorem Ck.inv {M M1 : mM} (h : Ck M M1) (hI : Inv M) : Inv M1 := ⟨h.1, by rw [h.2 67 (by decide)]; exact hI.2.1, by rw [h.2 68 (by decide)]; exact hI.2.2⟩
end CV
