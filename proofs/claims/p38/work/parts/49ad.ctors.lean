section CV
variable {X : mSc} {Q : Option Value → mHp → Prop} {mid pc : Nat} {L : mLoc} {st : List Value} {D D0 l l2 : mHp} {row : mRow} {ex : Nat × Nat × Nat × Nat × Nat × Int} {i k a b d n : Nat}
theorem c2l {c : Nat} (hO : ∀ f, mGet (D.set c (.inl (0, 10, .inl f))) i 2 2 = some (.ref c)) (hc : c < D.length) : ∀ (n k : Nat), 10 - k < n → k ≤ 10 → mEv X (fun r D' => r = none ∧ D' = D.set c (.inl (0, 10, .inl (spF 10)))) 2 63 [some (.ref i), some (.int (nI k))] [] (D.set c (.inl (0, 10, .inl (spF k)))) := by
  have hm : mMet 2 = some _ := rfl
  intro n
  induction n with
  | zero =>
    intro k hkn hkb
    omega
  | succ n ih =>
    intro k hkn hkb
    refine x_iload_n hm rfl rfl ?_
    refine x_bipush hm rfl (v := nI 10) (by decide) ?_
    refine x_icmp_ge hm rfl (t := 82) rfl (fun h1 => ?_) (fun h1 => ?_)
    · obtain rfl : k = 10 := Nat.le_antisymm hkb ((jI_le (by decide) (by omega)).mp h1)
      refine x_ret hm rfl rfl ?_
      exact ⟨rfl, rfl⟩
    · have hk : k < 10 := Nat.lt_of_not_le fun h => h1 (nI_le h (by omega))
      refine x_aload_n hm rfl rfl ?_
      refine x_getf hm rfl (hO _) ?_
      refine x_iload_n hm rfl rfl ?_
      refine x_iconst hm rfl (v := (-1 : Int32)) (by decide) ?_
      refine x_iast hm rfl (st_set hc hk (by decide)) ?_
      rw [spF_s]
      refine x_iinc hm rfl rfl (v := nI 1) (by decide) rfl ?_
      rw [jI_add]
      refine x_goto hm rfl (t := 63) rfl ?_
      exact ih (k + 1) (by omega) (by omega)
end CV
