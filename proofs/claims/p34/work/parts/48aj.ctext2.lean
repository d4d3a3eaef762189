section CU
variable {X : mSc} {Q : Option Value → mHp → Prop} {M : mM}
theorem l91e {c nt np : Nat} {M0 : mM} {v w : Int32} {x4 : Option Value} (hnt : nt ≤ 8) (hnp : np ≤ 8) (hC : Cp c nt np M0 M) : mEv X (QI (fun _ M' => ∃ nt np, nt ≤ 8 ∧ np ≤ 8 ∧ Cp c nt np M0 M')) 91 125 [some (.ref 52), some (.ref 1), some (.int w), some (.int v), x4] [] (con M) := by
  have hm : mMet 91 = some _ := rfl
  refine x_aload_n hm rfl rfl ?_
  refine x_getf hm rfl (gI rfl rfl) ?_
  refine x_if_eq hm rfl (t := 136) rfl (fun h1 => ?_) (fun h1 => ?_)
  · refine x_iload_n hm rfl rfl ?_
    refine x_iret hm rfl rfl (by first | rfl | exact bI_nar | decide) ?_
    first
      | exact ⟨_, _, rfl, rfl, nt, np, hnt, hnp, hC⟩
      | exact ⟨_, _, rfl, rfl, nt, np, hnt, hnp, r1⟩
      | exact ⟨_, _, rfl, rfl, nt, np, hnt, hnp, r2⟩
      | exact ⟨_, _, rfl, rfl, nt, np, hnt, hnp, r3⟩
      | exact ⟨_, _, rfl, rfl, nt, np, hnt, hnp, r4⟩
      | exact ⟨_, _, rfl, rfl, nt, np, hnt, hnp, r5⟩
      | exact ⟨_, _, rfl, rfl, nt, np, hnt, hnp, r6⟩
      | exact ⟨_, _, rfl, rfl, nt, np, hnt, hnp, r7⟩
      | exact ⟨_, _, rfl, rfl, nt, np, hnt, hnp, r8⟩
  · refine x_aload_n hm rfl rfl ?_
    refine x_cVv hm rfl rfl (w112 (by assumption)) (fun M2 r2 => ?_)
    refine x_iload_n hm rfl rfl ?_
    refine x_iret hm rfl rfl (by first | rfl | exact bI_nar | decide) ?_
    first
      | exact ⟨_, _, rfl, rfl, nt, np, hnt, hnp, r2⟩
      | exact ⟨_, _, rfl, rfl, nt, np, hnt, hnp, hC⟩
      | exact ⟨_, _, rfl, rfl, nt, np, hnt, hnp, r1⟩
      | exact ⟨_, _, rfl, rfl, nt, np, hnt, hnp, r3⟩
      | exact ⟨_, _, rfl, rfl, nt, np, hnt, hnp, r4⟩
      | exact ⟨_, _, rfl, rfl, nt, np, hnt, hnp, r5⟩
      | exact ⟨_, _, rfl, rfl, nt, np, hnt, hnp, r6⟩
      | exact ⟨_, _, rfl, rfl, nt, np, hnt, hnp, r7⟩
      | exact ⟨_, _, rfl, rfl, nt, np, hnt, hnp, r8⟩
end CU
