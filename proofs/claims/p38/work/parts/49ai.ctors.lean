section CV
variable {X : mSc} {Q : Option Value → mHp → Prop} {mid pc : Nat} {L : mLoc} {st : List Value} {D D0 l l2 : mHp} {row : mRow} {ex : Nat × Nat × Nat × Nat × Nat × Int} {i k a b d n : Nat}
theorem c0 : mT X 0 [.ref 0] [.inr (3, mDf 3)] none E66 := by
  refine mT.of (row := _) rfl (Nat.le_of_ble_eq_true rfl) ?_
  have hm : mMet 0 = some _ := rfl
  refine x_aload_n hm rfl rfl ?_
  refine x_libI hm rfl rfl ?_
  dsimp only
  refine x_aload_n hm rfl rfl ?_
  refine x_new hm rfl (d := 1) (rfl) (D2 := [.inr (3, [.null, .null, .null, .null, .null, .null, .int 0, .null, .null])] ++ [.inr (2, mDf 2)]) rfl ?_
  refine x_dup hm rfl rfl ?_
  refine x_callI hm rfl (mCallN (by decide) rfl rfl rfl rfl rfl (nw_at (rfl))) (c2 (D0 := [.inr (3, [.null, .null, .null, .null, .null, .null, .int 0, .null, .null])]) (i := 1) (rfl)) ?_
  refine x_putf hm rfl (D1 := .inr (3, [.ref 1, .null, .null, .null, .null, .null, .int 0, .null, .null]) :: R1) (put_hd rfl) ?_
  refine x_aload_n hm rfl rfl ?_
  refine x_new hm rfl (d := 18) (hd_l R1_l) (D2 := (.inr (3, [.ref 1, .null, .null, .null, .null, .null, .int 0, .null, .null]) :: R1) ++ [.inr (2, mDf 2)]) rfl ?_
  refine x_dup hm rfl rfl ?_
  refine x_callI hm rfl (mCallN (by decide) rfl rfl rfl rfl rfl (nw_at (hd_l R1_l))) (c2 (D0 := (.inr (3, [.ref 1, .null, .null, .null, .null, .null, .int 0, .null, .null]) :: R1)) (i := 18) (hd_l R1_l)) ?_
  refine x_putf hm rfl (D1 := .inr (3, [.ref 1, .ref 18, .null, .null, .null, .null, .int 0, .null, .null]) :: R2) (put_hd rfl) ?_
  refine x_aload_n hm rfl rfl ?_
  refine x_new hm rfl (d := 35) (hd_l R2_l) (D2 := (.inr (3, [.ref 1, .ref 18, .null, .null, .null, .null, .int 0, .null, .null]) :: R2) ++ [.inr (2, mDf 2)]) rfl ?_
  refine x_dup hm rfl rfl ?_
  refine x_callI hm rfl (mCallN (by decide) rfl rfl rfl rfl rfl (nw_at (hd_l R2_l))) (c2 (D0 := (.inr (3, [.ref 1, .ref 18, .null, .null, .null, .null, .int 0, .null, .null]) :: R2)) (i := 35) (hd_l R2_l)) ?_
  refine x_putf hm rfl (D1 := .inr (3, [.ref 1, .ref 18, .ref 35, .null, .null, .null, .int 0, .null, .null]) :: R3) (put_hd rfl) ?_
  refine x_aload_n hm rfl rfl ?_
  refine x_new hm rfl (d := 52) (hd_l R3_l) (D2 := (.inr (3, [.ref 1, .ref 18, .ref 35, .null, .null, .null, .int 0, .null, .null]) :: R3) ++ [.inr (1, mDf 1)]) rfl ?_
  refine x_dup hm rfl rfl ?_
  refine x_callI hm rfl (mCallN (by decide) rfl rfl rfl rfl rfl (nw_at (hd_l R3_l))) (c3 (D0 := (.inr (3, [.ref 1, .ref 18, .ref 35, .null, .null, .null, .int 0, .null, .null]) :: R3)) (i := 52) (hd_l R3_l)) ?_
  refine x_putf hm rfl (D1 := .inr (3, [.ref 1, .ref 18, .ref 35, .ref 52, .null, .null, .int 0, .null, .null]) :: R4) (put_hd rfl) ?_
  refine x_aload_n hm rfl rfl ?_
  refine x_iconst hm rfl (v := nI 4) (by decide) ?_
  refine x_ana hm rfl (by decide) (d := 54) (hd_l R4_l) (D2 := .inr (3, [.ref 1, .ref 18, .ref 35, .ref 52, .null, .null, .int 0, .null, .null]) :: (R4 ++ [.inl (2, 4, .inr (.inr (.inr (.inr (fun _ => none)))))])) rfl ?_
  refine x_putf hm rfl (D1 := .inr (3, [.ref 1, .ref 18, .ref 35, .ref 52, .ref 54, .null, .int 0, .null, .null]) :: (R4 ++ [.inl (2, 4, .inr (.inr (.inr (.inr (fun _ => none)))))])) (put_hd rfl) ?_
  refine x_aload_n hm rfl rfl ?_
  refine x_bipush hm rfl (v := nI 7) (by decide) ?_
  refine x_nai hm rfl (by decide) (d := 55) (hd_la R4_l (k := 1) rfl) (D2 := .inr (3, [.ref 1, .ref 18, .ref 35, .ref 52, .ref 54, .null, .int 0, .null, .null]) :: (R4 ++ [.inl (2, 4, .inr (.inr (.inr (.inr (fun _ => none))))), .inl (0, 7, .inl (fun _ => 0))])) (hd_sn rfl) ?_
  refine x_putf hm rfl (D1 := .inr (3, [.ref 1, .ref 18, .ref 35, .ref 52, .ref 54, .ref 55, .int 0, .null, .null]) :: (R4 ++ [.inl (2, 4, .inr (.inr (.inr (.inr (fun _ => none))))), .inl (0, 7, .inl (fun _ => 0))])) (put_hd rfl) ?_
  refine x_aload_n hm rfl rfl ?_
  refine x_iconst hm rfl (v := nI 0) (by decide) ?_
  refine x_putf hm rfl (D1 := .inr (3, [.ref 1, .ref 18, .ref 35, .ref 52, .ref 54, .ref 55, .int 0, .null, .null]) :: (R4 ++ [.inl (2, 4, .inr (.inr (.inr (.inr (fun _ => none))))), .inl (0, 7, .inl (fun _ => 0))])) (put_hd rfl) ?_
  refine x_aload_n hm rfl rfl ?_
  refine x_bipush hm rfl (v := nI 8) (by decide) ?_
  refine x_nai hm rfl (by decide) (d := 56) (hd_la R4_l (k := 2) rfl) (D2 := .inr (3, [.ref 1, .ref 18, .ref 35, .ref 52, .ref 54, .ref 55, .int 0, .null, .null]) :: (R4 ++ [.inl (2, 4, .inr (.inr (.inr (.inr (fun _ => none))))), .inl (0, 7, .inl (fun _ => 0)), .inl (0, 8, .inl (fun _ => 0))])) (hd_sn rfl) ?_
  refine x_putf hm rfl (D1 := .inr (3, [.ref 1, .ref 18, .ref 35, .ref 52, .ref 54, .ref 55, .int 0, .ref 56, .null]) :: (R4 ++ [.inl (2, 4, .inr (.inr (.inr (.inr (fun _ => none))))), .inl (0, 7, .inl (fun _ => 0)), .inl (0, 8, .inl (fun _ => 0))])) (put_hd rfl) ?_
  refine x_aload_n hm rfl rfl ?_
  refine x_bipush hm rfl (v := nI 8) (by decide) ?_
  refine x_nai hm rfl (by decide) (d := 57) (hd_la R4_l (k := 3) rfl) (D2 := .inr (3, [.ref 1, .ref 18, .ref 35, .ref 52, .ref 54, .ref 55, .int 0, .ref 56, .null]) :: (R4 ++ [.inl (2, 4, .inr (.inr (.inr (.inr (fun _ => none))))), .inl (0, 7, .inl (fun _ => 0)), .inl (0, 8, .inl (fun _ => 0)), .inl (0, 8, .inl (fun _ => 0))])) (hd_sn rfl) ?_
  refine x_putf hm rfl (D1 := .inr (3, [.ref 1, .ref 18, .ref 35, .ref 52, .ref 54, .ref 55, .int 0, .ref 56, .ref 57]) :: (R4 ++ [.inl (2, 4, .inr (.inr (.inr (.inr (fun _ => none))))), .inl (0, 7, .inl (fun _ => 0)), .inl (0, 8, .inl (fun _ => 0)), .inl (0, 8, .inl (fun _ => 0))])) (put_hd rfl) ?_
  refine x_iconst hm rfl (v := nI 0) (by decide) ?_
  refine x_istore_n hm rfl rfl ?_
  refine x_iload_n hm rfl rfl ?_
  refine x_iconst hm rfl (v := nI 4) (by decide) ?_
  refine x_icmp_ge hm rfl (t := 111) rfl (fun h => absurd h (by decide)) (fun _ => ?_)
  refine x_aload_n hm rfl rfl ?_
  refine x_getf hm rfl (get_hd rfl) ?_
  refine x_iload_n hm rfl rfl ?_
  refine x_new hm rfl (d := 58) (hd_la R4_l (k := 4) rfl) (D2 := (.inr (3, [.ref 1, .ref 18, .ref 35, .ref 52, .ref 54, .ref 55, .int 0, .ref 56, .ref 57]) :: (R4 ++ [.inl (2, 4, .inr (.inr (.inr (.inr (fun _ => none))))), .inl (0, 7, .inl (fun _ => 0)), .inl (0, 8, .inl (fun _ => 0)), .inl (0, 8, .inl (fun _ => 0))])) ++ [.inr (0, mDf 0)]) rfl ?_
  refine x_dup hm rfl rfl ?_
  refine x_callI hm rfl (mCallN (by decide) rfl rfl rfl rfl rfl (nw_at (hd_la R4_l (k := 4) rfl))) (c4 (D0 := .inr (3, [.ref 1, .ref 18, .ref 35, .ref 52, .ref 54, .ref 55, .int 0, .ref 56, .ref 57]) :: (R4 ++ [.inl (2, 4, .inr (.inr (.inr (.inr (fun _ => none))))), .inl (0, 7, .inl (fun _ => 0)), .inl (0, 8, .inl (fun _ => 0)), .inl (0, 8, .inl (fun _ => 0))])) (i := 58) (hd_la R4_l (k := 4) rfl)) ?_
  rw [show ∀ z : mHp, (.inr (3, [.ref 1, .ref 18, .ref 35, .ref 52, .ref 54, .ref 55, .int 0, .ref 56, .ref 57]) :: (R4 ++ [.inl (2, 4, .inr (.inr (.inr (.inr (fun _ => none))))), .inl (0, 7, .inl (fun _ => 0)), .inl (0, 8, .inl (fun _ => 0)), .inl (0, 8, .inl (fun _ => 0))])) ++ z = .inr (3, [.ref 1, .ref 18, .ref 35, .ref 52, .ref 54, .ref 55, .int 0, .ref 56, .ref 57]) :: (R4 ++ ([.inl (2, 4, .inr (.inr (.inr (.inr (fun _ => none))))), .inl (0, 7, .inl (fun _ => 0)), .inl (0, 8, .inl (fun _ => 0)), .inl (0, 8, .inl (fun _ => 0))] ++ z)) from fun z => hd_sn rfl]
  refine x_aast hm rfl (D1 := .inr (3, [.ref 1, .ref 18, .ref 35, .ref 52, .ref 54, .ref 55, .int 0, .ref 56, .ref 57]) :: (R4 ++ [.inl (2, 4, .inr (.inr (.inr (.inr (va_up (fun _ => none) 0 (some 58)))))), .inl (0, 7, .inl (fun _ => 0)), .inl (0, 8, .inl (fun _ => 0)), .inl (0, 8, .inl (fun _ => 0)), .inr (0, [.ref 59, .int 0, .int 0]), .inl (0, 40, .inl (fun _ => 0))])) (e_stq (q := 4) R4_l rfl rfl rfl rfl (by decide) (by decide)) ?_
  refine x_iinc hm rfl rfl (v := nI 1) (by decide) rfl ?_
  rw [jI_add]
  refine x_goto hm rfl (t := 87) rfl ?_
  refine x_iload_n hm rfl rfl ?_
  refine x_iconst hm rfl (v := nI 4) (by decide) ?_
  refine x_icmp_ge hm rfl (t := 111) rfl (fun h => absurd h (by decide)) (fun _ => ?_)
  refine x_aload_n hm rfl rfl ?_
  refine x_getf hm rfl (get_hd rfl) ?_
  refine x_iload_n hm rfl rfl ?_
  refine x_new hm rfl (d := 60) (hd_la R4_l (k := 6) rfl) (D2 := (.inr (3, [.ref 1, .ref 18, .ref 35, .ref 52, .ref 54, .ref 55, .int 0, .ref 56, .ref 57]) :: (R4 ++ [.inl (2, 4, .inr (.inr (.inr (.inr (va_up (fun _ => none) 0 (some 58)))))), .inl (0, 7, .inl (fun _ => 0)), .inl (0, 8, .inl (fun _ => 0)), .inl (0, 8, .inl (fun _ => 0)), .inr (0, [.ref 59, .int 0, .int 0]), .inl (0, 40, .inl (fun _ => 0))])) ++ [.inr (0, mDf 0)]) rfl ?_
  refine x_dup hm rfl rfl ?_
  refine x_callI hm rfl (mCallN (by decide) rfl rfl rfl rfl rfl (nw_at (hd_la R4_l (k := 6) rfl))) (c4 (D0 := .inr (3, [.ref 1, .ref 18, .ref 35, .ref 52, .ref 54, .ref 55, .int 0, .ref 56, .ref 57]) :: (R4 ++ [.inl (2, 4, .inr (.inr (.inr (.inr (va_up (fun _ => none) 0 (some 58)))))), .inl (0, 7, .inl (fun _ => 0)), .inl (0, 8, .inl (fun _ => 0)), .inl (0, 8, .inl (fun _ => 0)), .inr (0, [.ref 59, .int 0, .int 0]), .inl (0, 40, .inl (fun _ => 0))])) (i := 60) (hd_la R4_l (k := 6) rfl)) ?_
  rw [show ∀ z : mHp, (.inr (3, [.ref 1, .ref 18, .ref 35, .ref 52, .ref 54, .ref 55, .int 0, .ref 56, .ref 57]) :: (R4 ++ [.inl (2, 4, .inr (.inr (.inr (.inr (va_up (fun _ => none) 0 (some 58)))))), .inl (0, 7, .inl (fun _ => 0)), .inl (0, 8, .inl (fun _ => 0)), .inl (0, 8, .inl (fun _ => 0)), .inr (0, [.ref 59, .int 0, .int 0]), .inl (0, 40, .inl (fun _ => 0))])) ++ z = .inr (3, [.ref 1, .ref 18, .ref 35, .ref 52, .ref 54, .ref 55, .int 0, .ref 56, .ref 57]) :: (R4 ++ ([.inl (2, 4, .inr (.inr (.inr (.inr (va_up (fun _ => none) 0 (some 58)))))), .inl (0, 7, .inl (fun _ => 0)), .inl (0, 8, .inl (fun _ => 0)), .inl (0, 8, .inl (fun _ => 0)), .inr (0, [.ref 59, .int 0, .int 0]), .inl (0, 40, .inl (fun _ => 0))] ++ z)) from fun z => hd_sn rfl]
  refine x_aast hm rfl (D1 := .inr (3, [.ref 1, .ref 18, .ref 35, .ref 52, .ref 54, .ref 55, .int 0, .ref 56, .ref 57]) :: (R4 ++ [.inl (2, 4, .inr (.inr (.inr (.inr (va_up (va_up (fun _ => none) 0 (some 58)) 1 (some 60)))))), .inl (0, 7, .inl (fun _ => 0)), .inl (0, 8, .inl (fun _ => 0)), .inl (0, 8, .inl (fun _ => 0)), .inr (0, [.ref 59, .int 0, .int 0]), .inl (0, 40, .inl (fun _ => 0)), .inr (0, [.ref 61, .int 0, .int 0]), .inl (0, 40, .inl (fun _ => 0))])) (e_stq (q := 6) R4_l rfl rfl rfl rfl (by decide) (by decide)) ?_
  refine x_iinc hm rfl rfl (v := nI 1) (by decide) rfl ?_
  rw [jI_add]
  refine x_goto hm rfl (t := 87) rfl ?_
  refine x_iload_n hm rfl rfl ?_
  refine x_iconst hm rfl (v := nI 4) (by decide) ?_
  refine x_icmp_ge hm rfl (t := 111) rfl (fun h => absurd h (by decide)) (fun _ => ?_)
  refine x_aload_n hm rfl rfl ?_
  refine x_getf hm rfl (get_hd rfl) ?_
  refine x_iload_n hm rfl rfl ?_
  refine x_new hm rfl (d := 62) (hd_la R4_l (k := 8) rfl) (D2 := (.inr (3, [.ref 1, .ref 18, .ref 35, .ref 52, .ref 54, .ref 55, .int 0, .ref 56, .ref 57]) :: (R4 ++ [.inl (2, 4, .inr (.inr (.inr (.inr (va_up (va_up (fun _ => none) 0 (some 58)) 1 (some 60)))))), .inl (0, 7, .inl (fun _ => 0)), .inl (0, 8, .inl (fun _ => 0)), .inl (0, 8, .inl (fun _ => 0)), .inr (0, [.ref 59, .int 0, .int 0]), .inl (0, 40, .inl (fun _ => 0)), .inr (0, [.ref 61, .int 0, .int 0]), .inl (0, 40, .inl (fun _ => 0))])) ++ [.inr (0, mDf 0)]) rfl ?_
  refine x_dup hm rfl rfl ?_
  refine x_callI hm rfl (mCallN (by decide) rfl rfl rfl rfl rfl (nw_at (hd_la R4_l (k := 8) rfl))) (c4 (D0 := .inr (3, [.ref 1, .ref 18, .ref 35, .ref 52, .ref 54, .ref 55, .int 0, .ref 56, .ref 57]) :: (R4 ++ [.inl (2, 4, .inr (.inr (.inr (.inr (va_up (va_up (fun _ => none) 0 (some 58)) 1 (some 60)))))), .inl (0, 7, .inl (fun _ => 0)), .inl (0, 8, .inl (fun _ => 0)), .inl (0, 8, .inl (fun _ => 0)), .inr (0, [.ref 59, .int 0, .int 0]), .inl (0, 40, .inl (fun _ => 0)), .inr (0, [.ref 61, .int 0, .int 0]), .inl (0, 40, .inl (fun _ => 0))])) (i := 62) (hd_la R4_l (k := 8) rfl)) ?_
  rw [show ∀ z : mHp, (.inr (3, [.ref 1, .ref 18, .ref 35, .ref 52, .ref 54, .ref 55, .int 0, .ref 56, .ref 57]) :: (R4 ++ [.inl (2, 4, .inr (.inr (.inr (.inr (va_up (va_up (fun _ => none) 0 (some 58)) 1 (some 60)))))), .inl (0, 7, .inl (fun _ => 0)), .inl (0, 8, .inl (fun _ => 0)), .inl (0, 8, .inl (fun _ => 0)), .inr (0, [.ref 59, .int 0, .int 0]), .inl (0, 40, .inl (fun _ => 0)), .inr (0, [.ref 61, .int 0, .int 0]), .inl (0, 40, .inl (fun _ => 0))])) ++ z = .inr (3, [.ref 1, .ref 18, .ref 35, .ref 52, .ref 54, .ref 55, .int 0, .ref 56, .ref 57]) :: (R4 ++ ([.inl (2, 4, .inr (.inr (.inr (.inr (va_up (va_up (fun _ => none) 0 (some 58)) 1 (some 60)))))), .inl (0, 7, .inl (fun _ => 0)), .inl (0, 8, .inl (fun _ => 0)), .inl (0, 8, .inl (fun _ => 0)), .inr (0, [.ref 59, .int 0, .int 0]), .inl (0, 40, .inl (fun _ => 0)), .inr (0, [.ref 61, .int 0, .int 0]), .inl (0, 40, .inl (fun _ => 0))] ++ z)) from fun z => hd_sn rfl]
  refine x_aast hm rfl (D1 := .inr (3, [.ref 1, .ref 18, .ref 35, .ref 52, .ref 54, .ref 55, .int 0, .ref 56, .ref 57]) :: (R4 ++ [.inl (2, 4, .inr (.inr (.inr (.inr (va_up (va_up (va_up (fun _ => none) 0 (some 58)) 1 (some 60)) 2 (some 62)))))), .inl (0, 7, .inl (fun _ => 0)), .inl (0, 8, .inl (fun _ => 0)), .inl (0, 8, .inl (fun _ => 0)), .inr (0, [.ref 59, .int 0, .int 0]), .inl (0, 40, .inl (fun _ => 0)), .inr (0, [.ref 61, .int 0, .int 0]), .inl (0, 40, .inl (fun _ => 0)), .inr (0, [.ref 63, .int 0, .int 0]), .inl (0, 40, .inl (fun _ => 0))])) (e_stq (q := 8) R4_l rfl rfl rfl rfl (by decide) (by decide)) ?_
  refine x_iinc hm rfl rfl (v := nI 1) (by decide) rfl ?_
  rw [jI_add]
  refine x_goto hm rfl (t := 87) rfl ?_
  refine x_iload_n hm rfl rfl ?_
  refine x_iconst hm rfl (v := nI 4) (by decide) ?_
  refine x_icmp_ge hm rfl (t := 111) rfl (fun h => absurd h (by decide)) (fun _ => ?_)
  refine x_aload_n hm rfl rfl ?_
  refine x_getf hm rfl (get_hd rfl) ?_
  refine x_iload_n hm rfl rfl ?_
  refine x_new hm rfl (d := 64) (hd_la R4_l (k := 10) rfl) (D2 := (.inr (3, [.ref 1, .ref 18, .ref 35, .ref 52, .ref 54, .ref 55, .int 0, .ref 56, .ref 57]) :: (R4 ++ [.inl (2, 4, .inr (.inr (.inr (.inr (va_up (va_up (va_up (fun _ => none) 0 (some 58)) 1 (some 60)) 2 (some 62)))))), .inl (0, 7, .inl (fun _ => 0)), .inl (0, 8, .inl (fun _ => 0)), .inl (0, 8, .inl (fun _ => 0)), .inr (0, [.ref 59, .int 0, .int 0]), .inl (0, 40, .inl (fun _ => 0)), .inr (0, [.ref 61, .int 0, .int 0]), .inl (0, 40, .inl (fun _ => 0)), .inr (0, [.ref 63, .int 0, .int 0]), .inl (0, 40, .inl (fun _ => 0))])) ++ [.inr (0, mDf 0)]) rfl ?_
  refine x_dup hm rfl rfl ?_
  refine x_callI hm rfl (mCallN (by decide) rfl rfl rfl rfl rfl (nw_at (hd_la R4_l (k := 10) rfl))) (c4 (D0 := .inr (3, [.ref 1, .ref 18, .ref 35, .ref 52, .ref 54, .ref 55, .int 0, .ref 56, .ref 57]) :: (R4 ++ [.inl (2, 4, .inr (.inr (.inr (.inr (va_up (va_up (va_up (fun _ => none) 0 (some 58)) 1 (some 60)) 2 (some 62)))))), .inl (0, 7, .inl (fun _ => 0)), .inl (0, 8, .inl (fun _ => 0)), .inl (0, 8, .inl (fun _ => 0)), .inr (0, [.ref 59, .int 0, .int 0]), .inl (0, 40, .inl (fun _ => 0)), .inr (0, [.ref 61, .int 0, .int 0]), .inl (0, 40, .inl (fun _ => 0)), .inr (0, [.ref 63, .int 0, .int 0]), .inl (0, 40, .inl (fun _ => 0))])) (i := 64) (hd_la R4_l (k := 10) rfl)) ?_
  rw [show ∀ z : mHp, (.inr (3, [.ref 1, .ref 18, .ref 35, .ref 52, .ref 54, .ref 55, .int 0, .ref 56, .ref 57]) :: (R4 ++ [.inl (2, 4, .inr (.inr (.inr (.inr (va_up (va_up (va_up (fun _ => none) 0 (some 58)) 1 (some 60)) 2 (some 62)))))), .inl (0, 7, .inl (fun _ => 0)), .inl (0, 8, .inl (fun _ => 0)), .inl (0, 8, .inl (fun _ => 0)), .inr (0, [.ref 59, .int 0, .int 0]), .inl (0, 40, .inl (fun _ => 0)), .inr (0, [.ref 61, .int 0, .int 0]), .inl (0, 40, .inl (fun _ => 0)), .inr (0, [.ref 63, .int 0, .int 0]), .inl (0, 40, .inl (fun _ => 0))])) ++ z = .inr (3, [.ref 1, .ref 18, .ref 35, .ref 52, .ref 54, .ref 55, .int 0, .ref 56, .ref 57]) :: (R4 ++ ([.inl (2, 4, .inr (.inr (.inr (.inr (va_up (va_up (va_up (fun _ => none) 0 (some 58)) 1 (some 60)) 2 (some 62)))))), .inl (0, 7, .inl (fun _ => 0)), .inl (0, 8, .inl (fun _ => 0)), .inl (0, 8, .inl (fun _ => 0)), .inr (0, [.ref 59, .int 0, .int 0]), .inl (0, 40, .inl (fun _ => 0)), .inr (0, [.ref 61, .int 0, .int 0]), .inl (0, 40, .inl (fun _ => 0)), .inr (0, [.ref 63, .int 0, .int 0]), .inl (0, 40, .inl (fun _ => 0))] ++ z)) from fun z => hd_sn rfl]
  refine x_aast hm rfl (D1 := .inr (3, [.ref 1, .ref 18, .ref 35, .ref 52, .ref 54, .ref 55, .int 0, .ref 56, .ref 57]) :: (R4 ++ [.inl (2, 4, .inr (.inr (.inr (.inr (va_up (va_up (va_up (va_up (fun _ => none) 0 (some 58)) 1 (some 60)) 2 (some 62)) 3 (some 64)))))), .inl (0, 7, .inl (fun _ => 0)), .inl (0, 8, .inl (fun _ => 0)), .inl (0, 8, .inl (fun _ => 0)), .inr (0, [.ref 59, .int 0, .int 0]), .inl (0, 40, .inl (fun _ => 0)), .inr (0, [.ref 61, .int 0, .int 0]), .inl (0, 40, .inl (fun _ => 0)), .inr (0, [.ref 63, .int 0, .int 0]), .inl (0, 40, .inl (fun _ => 0)), .inr (0, [.ref 65, .int 0, .int 0]), .inl (0, 40, .inl (fun _ => 0))])) (e_stq (q := 10) R4_l rfl rfl rfl rfl (by decide) (by decide)) ?_
  refine x_iinc hm rfl rfl (v := nI 1) (by decide) rfl ?_
  rw [jI_add]
  refine x_goto hm rfl (t := 87) rfl ?_
  refine x_iload_n hm rfl rfl ?_
  refine x_iconst hm rfl (v := nI 4) (by decide) ?_
  refine x_icmp_ge hm rfl (t := 111) rfl (fun _ => ?_) (fun h => absurd (by decide) h)
  refine x_ret hm rfl rfl ?_
  exact ⟨rfl, rfl⟩
def M0 (a b : Nat) : Int32 := if a = 1 ∨ a = 18 ∨ a = 35 then (if b = 6 then 1 else if b = 7 then -1 else 0) else if a = 17 ∨ a = 34 ∨ a = 51 then (if b < 10 then -1 else 0) else if a = 52 ∨ a = 66 then (if b = 6 then -1 else 0) else if a = 67 then (if b = 3 then 1 else if 4 ≤ b ∧ b < 14 then -1 else 0) else 0

noncomputable def DL : mHp := [.inr (3, [.ref 1, .ref 18, .ref 35, .ref 52, .ref 54, .ref 55, .int 0, .ref 56, .ref 57]),
  .inr (2, [.ref 2, .ref 9, .ref 17, .int 0, .int 0, .int 0, .int 1, .int (-1)]),
  .inl (3, 6, .inr (.inr (.inr (.inr (mrL [3, 4, 5, 6, 7, 8]))))),
  .inl (0, 8, .inl (fun _ => 0)),
  .inl (0, 8, .inl (fun _ => 0)),
  .inl (0, 8, .inl (fun _ => 0)),
  .inl (0, 8, .inl (fun _ => 0)),
  .inl (0, 8, .inl (fun _ => 0)),
  .inl (0, 8, .inl (fun _ => 0)),
  .inl (3, 7, .inr (.inr (.inr (.inr (mrL [10, 11, 12, 13, 14, 15, 16]))))),
  .inl (0, 8, .inl (fun _ => 0)),
  .inl (0, 8, .inl (fun _ => 0)),
  .inl (0, 8, .inl (fun _ => 0)),
  .inl (0, 8, .inl (fun _ => 0)),
  .inl (0, 8, .inl (fun _ => 0)),
  .inl (0, 8, .inl (fun _ => 0)),
  .inl (0, 8, .inl (fun _ => 0)),
  .inl (0, 10, .inl (spF 10)),
  .inr (2, [.ref 19, .ref 26, .ref 34, .int 0, .int 0, .int 0, .int 1, .int (-1)]),
  .inl (3, 6, .inr (.inr (.inr (.inr (mrL [20, 21, 22, 23, 24, 25]))))),
  .inl (0, 8, .inl (fun _ => 0)),
  .inl (0, 8, .inl (fun _ => 0)),
  .inl (0, 8, .inl (fun _ => 0)),
  .inl (0, 8, .inl (fun _ => 0)),
  .inl (0, 8, .inl (fun _ => 0)),
  .inl (0, 8, .inl (fun _ => 0)),
  .inl (3, 7, .inr (.inr (.inr (.inr (mrL [27, 28, 29, 30, 31, 32, 33]))))),
  .inl (0, 8, .inl (fun _ => 0)),
  .inl (0, 8, .inl (fun _ => 0)),
  .inl (0, 8, .inl (fun _ => 0)),
  .inl (0, 8, .inl (fun _ => 0)),
  .inl (0, 8, .inl (fun _ => 0)),
  .inl (0, 8, .inl (fun _ => 0)),
  .inl (0, 8, .inl (fun _ => 0)),
  .inl (0, 10, .inl (spF 10)),
  .inr (2, [.ref 36, .ref 43, .ref 51, .int 0, .int 0, .int 0, .int 1, .int (-1)]),
  .inl (3, 6, .inr (.inr (.inr (.inr (mrL [37, 38, 39, 40, 41, 42]))))),
  .inl (0, 8, .inl (fun _ => 0)),
  .inl (0, 8, .inl (fun _ => 0)),
  .inl (0, 8, .inl (fun _ => 0)),
  .inl (0, 8, .inl (fun _ => 0)),
  .inl (0, 8, .inl (fun _ => 0)),
  .inl (0, 8, .inl (fun _ => 0)),
  .inl (3, 7, .inr (.inr (.inr (.inr (mrL [44, 45, 46, 47, 48, 49, 50]))))),
  .inl (0, 8, .inl (fun _ => 0)),
  .inl (0, 8, .inl (fun _ => 0)),
  .inl (0, 8, .inl (fun _ => 0)),
  .inl (0, 8, .inl (fun _ => 0)),
  .inl (0, 8, .inl (fun _ => 0)),
  .inl (0, 8, .inl (fun _ => 0)),
  .inl (0, 8, .inl (fun _ => 0)),
  .inl (0, 10, .inl (spF 10)),
  .inr (1, [.ref 53, .int 0, .int 0, .int 0, .int 0, .int 0, .int (-1)]),
  .inl (1, 120, .inl (fun _ => 0)),
  .inl (2, 4, .inr (.inr (.inr (.inr (mrL [58, 60, 62, 64]))))),
  .inl (0, 7, .inl (fun _ => 0)),
  .inl (0, 8, .inl (fun _ => 0)),
  .inl (0, 8, .inl (fun _ => 0)),
  .inr (0, [.ref 59, .int 0, .int 0]),
  .inl (0, 40, .inl (fun _ => 0)),
  .inr (0, [.ref 61, .int 0, .int 0]),
  .inl (0, 40, .inl (fun _ => 0)),
  .inr (0, [.ref 63, .int 0, .int 0]),
  .inl (0, 40, .inl (fun _ => 0)),
  .inr (0, [.ref 65, .int 0, .int 0]),
  .inl (0, 40, .inl (fun _ => 0)),
  .inr (4, [.ref 67, .ref 68, .ref 69, .int 0, .ref 70, .ref 71, .int (-1), .ref 72, .ref 73, .int 0, .int 0, .int 0, .int 0, .int 0, .int 0, .ref 74, .ref 75, .int 0, .int 0, .int 0, .ref 76, .ref 77, .ref 78, .ref 79]),
  .inl (0, 118, .inl (nwF 10)),
  .inl (0, 118, .inl (fun _ => 0)),
  .inl (0, 118, .inl (fun _ => 0)),
  .inl (0, 8, .inl (fun _ => 0)),
  .inl (0, 8, .inl (fun _ => 0)),
  .inl (0, 8, .inl (fun _ => 0)),
  .inl (0, 120, .inl (fun _ => 0)),
  .inl (4, 7, .inr (.inr (.inr (.inr (mrL [1000007, 1000001, 1000002, 1000003, 1000004, 1000005, 1000006]))))),
  .inl (0, 840, .inl (fun _ => 0)),
  .inl (0, 4, .inl (fun _ => 0)),
  .inl (0, 4, .inl (fun _ => 0)),
  .inl (0, 160, .inl (fun _ => 0)),
  .inl (0, 40, .inl (fun _ => 0))]
end CV
