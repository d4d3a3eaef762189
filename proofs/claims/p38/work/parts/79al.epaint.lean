section EP
variable {X : mSc} {Q : Option Value → mHp → Prop} {M : mM}
theorem m168b {a1 : Int32} : ∀ (n k : Nat) (s : Int32), k < n → k < 1024 → ∀ f, k < f → mEv X (fun r D => r = some (.int (sBits f s (nI k))) ∧ D = con M) 168 4 [some (.int a1), some (.int s), some (.int (nI k))] [] (con M) := by
  have hm : mMet 168 = some _ := rfl
  intro n
  induction n with
  | zero =>
    intro k s hkn hk f hf
    omega
  | succ n ih =>
    intro k s hkn hk f hf
    obtain ⟨f, rfl⟩ : ∃ g, f = g + 1 := ⟨f - 1, by omega⟩
    obtain ⟨g1, g2, g3⟩ := bits_le2 k hk
    refine x_iload_n hm rfl rfl ?_
    refine x_if_eq hm rfl (t := 20) rfl (fun h1 => ?_) (fun h1 => ?_)
    · have hq : sBits (f + 1) s (nI k) = s := if_pos h1
      refine x_iload_n hm rfl rfl ?_
      refine x_iret hm rfl rfl (by first | rfl | exact bI_nar | decide) ?_
      exact ⟨by rw [hq], rfl⟩
    · have h0 : ¬ k = 0 := fun e => h1 (by rw [e]; rfl)
      have hq : sBits (f + 1) s (nI k) = sBits f (s + nI 1) (nI k &&& (nI k - nI 1)) := if_neg h1
      refine x_iinc hm rfl rfl (v := nI 1) (by decide) rfl ?_
      refine x_iload_n hm rfl rfl ?_
      refine x_iload_n hm rfl rfl ?_
      refine x_iconst hm rfl (v := nI 1) (by decide) ?_
      refine x_isub hm rfl ?_
      refine x_iand hm rfl ?_
      refine x_istore_n hm rfl rfl ?_
      refine x_goto hm rfl (t := 4) rfl ?_
      rw [hq, ← g2]
      exact ih _ _ (by have := g3 h0; omega) g1 f (by have := g3 h0; omega)
end EP
