section EP
variable {X : mSc} {Q : Option Value → mHp → Prop} {M : mM}
theorem g191 {s m : Nat} (hs : s < 1024) (hm8 : m < 10) : mT X 191 [.int (nI s), .int (nI m)] (con M) (some (.int (bI (s.testBit m = true)))) (con M) := by
  refine mT.of (row := _) rfl (Nat.le_of_ble_eq_true rfl) ?_
  have hm : mMet 191 = some _ := rfl
  refine x_iload_n hm rfl rfl ?_
  refine x_iload_n hm rfl rfl ?_
  refine x_ishr hm rfl ?_
  refine x_iconst hm rfl (v := nI 1) (by decide) ?_
  refine x_iand hm rfl ?_
  refine x_iconst hm rfl (v := nI 1) (by decide) ?_
  refine x_icmp_ne hm rfl (t := 13) rfl (fun h1 => ?_) (fun h1 => ?_)
  · refine x_iconst hm rfl (v := nI 0) (by decide) ?_
    refine x_iret hm rfl rfl (by first | rfl | exact bI_nar | decide) ?_
    first
      | exact qt (congrArg Value.int (bI_t ((bitR2 s hs m hm8).mp h1)))
      | exact qt (congrArg Value.int (bI_f fun q => h1 ((bitR2 s hs m hm8).mpr q)))
  · refine x_iconst hm rfl (v := nI 1) (by decide) ?_
    refine x_goto hm rfl (t := 14) rfl ?_
    refine x_iret hm rfl rfl (by first | rfl | exact bI_nar | decide) ?_
    first
      | exact qt (congrArg Value.int (bI_t ((bitR2 s hs m hm8).mp h1)))
      | exact qt (congrArg Value.int (bI_f fun q => h1 ((bitR2 s hs m hm8).mpr q)))
end EP
