section FO
variable {X : mSc} {Q : Option Value → mHp → Prop} {M : mM}
theorem m20a {b nt np t : Nat} {r : Nat → Int32} (hb : b = 1 ∨ b = 18 ∨ b = 35) (hR : Rel b nt np M r) (hV : Vs nt np r) (ht : t < nt) : ∀ (n i : Nat) (s : Nat) (g : Int32) (x5 x6 : Option Value), 8 - i < n → i ≤ 8 → Fs r nt t s → ((g = nI 1 ∧ i + 1 ≤ c8 s) ∨ (g = nI 0 ∧ Fcl r nt nt s)) → mEv X (fun z D => z = some (.int (nI (wS (Rch r t) nt))) ∧ D = con M) 20 9 [some (.ref b), some (.int (nI t)), some (.int (nI s)), some (.int g), some (.int (nI i)), x5, x6] [] (con M) := by
  have hm : mMet 20 = some _ := rfl
  intro n
  induction n with
  | zero =>
    intro i s g x5 x6 hin hi hF hS
    omega
  | succ n ih =>
    intro i s g x5 x6 hin hi hF hS
    refine x_iload hm rfl rfl ?_
    refine x_bipush hm rfl (v := nI 8) (by decide) ?_
    refine x_icmp_ge hm rfl (t := 90) rfl (fun h1 => ?_) (fun h1 => ?_)
    · have h8i := (jI_le (by omega) (by omega)).mp h1
      have hc := hS.resolve_left fun q => by have := c8_le (s := s); omega
      refine x_iload_n hm rfl rfl ?_
      refine x_iret hm rfl rfl (by first | rfl | exact bI_nar | decide) ?_
      rw [hF.done hV hc.2]
      exact ⟨rfl, rfl⟩
    · have hk : i < 8 := Nat.lt_of_not_le fun h => h1 (nI_le h (by omega))
      refine x_iload_n hm rfl rfl ?_
      refine x_if_eq hm rfl (t := 90) rfl (fun h2 => ?_) (fun h2 => ?_)
      · have hc := hS.resolve_left fun q => absurd (q.1.symm.trans h2) (by decide)
        refine x_iload_n hm rfl rfl ?_
        refine x_iret hm rfl rfl (by first | rfl | exact bI_nar | decide) ?_
        rw [hF.done hV hc.2]
        exact ⟨rfl, rfl⟩
      · have hg := hS.resolve_right fun q => h2 q.1
        refine x_iconst hm rfl (v := nI 0) (by decide) ?_
        refine x_istore_n hm rfl rfl ?_
        refine x_iconst hm rfl (v := nI 0) (by decide) ?_
        refine x_istore hm rfl rfl ?_
        exact m20b hb hR hV ht hk (fun s g x5 x6 a c => ih _ _ _ _ _ (by omega) (by omega) a c) _ 0 _ _ _ (Nat.lt_succ_self _) (Nat.zero_le _) hF (Or.inr ⟨rfl, hg.2, fun u hu => absurd hu (Nat.not_lt_zero _)⟩)
end FO
