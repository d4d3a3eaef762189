section CV
variable {X : mSc} {Q : Option Value → mHp → Prop} {mid pc : Nat} {L : mLoc} {st : List Value} {D D0 l l2 : mHp} {row : mRow} {ex : Nat × Nat × Nat × Nat × Nat × Int} {i k a b d n : Nat}
theorem c131 (hi : D0.length = i) : mT X 131 [.ref i] (D0 ++ [.inr (4, mDf 4)]) none (D0 ++ modL i (nwF 10)) := by
  refine mT.of (row := _) rfl (Nat.le_of_ble_eq_true rfl) ?_
  have hm : mMet 131 = some _ := rfl
  refine x_aload_n hm rfl rfl ?_
  refine x_libI hm rfl rfl ?_
  dsimp only
  refine x_aload_n hm rfl rfl ?_
  refine x_bipush hm rfl (v := nI 118) (by decide) ?_
  refine x_nai hm rfl (by decide) (a_len (k := 1) hi rfl) (D2 := D0 ++ [.inr (4, [.null, .null, .null, .int 0, .null, .null, .int 0, .null, .null, .int 0, .int 0, .int 0, .int 0, .int 0, .int 0, .null, .null, .int 0, .int 0, .int 0, .null, .null, .null, .null]), .inl (0, 118, .inl (fun _ => 0))]) (app_sn rfl) ?_
  refine x_putf hm rfl (a_put (k := 0) (l2 := [.inr (4, [.ref (i + 1), .null, .null, .int 0, .null, .null, .int 0, .null, .null, .int 0, .int 0, .int 0, .int 0, .int 0, .int 0, .null, .null, .int 0, .int 0, .int 0, .null, .null, .null, .null]), .inl (0, 118, .inl (fun _ => 0))]) hi rfl) ?_
  refine x_aload_n hm rfl rfl ?_
  refine x_bipush hm rfl (v := nI 118) (by decide) ?_
  refine x_nai hm rfl (by decide) (a_len (k := 2) hi rfl) (D2 := D0 ++ [.inr (4, [.ref (i + 1), .null, .null, .int 0, .null, .null, .int 0, .null, .null, .int 0, .int 0, .int 0, .int 0, .int 0, .int 0, .null, .null, .int 0, .int 0, .int 0, .null, .null, .null, .null]), .inl (0, 118, .inl (fun _ => 0)), .inl (0, 118, .inl (fun _ => 0))]) (app_sn rfl) ?_
  refine x_putf hm rfl (a_put (k := 0) (l2 := [.inr (4, [.ref (i + 1), .ref (i + 2), .null, .int 0, .null, .null, .int 0, .null, .null, .int 0, .int 0, .int 0, .int 0, .int 0, .int 0, .null, .null, .int 0, .int 0, .int 0, .null, .null, .null, .null]), .inl (0, 118, .inl (fun _ => 0)), .inl (0, 118, .inl (fun _ => 0))]) hi rfl) ?_
  refine x_aload_n hm rfl rfl ?_
  refine x_bipush hm rfl (v := nI 118) (by decide) ?_
  refine x_nai hm rfl (by decide) (a_len (k := 3) hi rfl) (D2 := D0 ++ [.inr (4, [.ref (i + 1), .ref (i + 2), .null, .int 0, .null, .null, .int 0, .null, .null, .int 0, .int 0, .int 0, .int 0, .int 0, .int 0, .null, .null, .int 0, .int 0, .int 0, .null, .null, .null, .null]), .inl (0, 118, .inl (fun _ => 0)), .inl (0, 118, .inl (fun _ => 0)), .inl (0, 118, .inl (fun _ => 0))]) (app_sn rfl) ?_
  refine x_putf hm rfl (a_put (k := 0) (l2 := [.inr (4, [.ref (i + 1), .ref (i + 2), .ref (i + 3), .int 0, .null, .null, .int 0, .null, .null, .int 0, .int 0, .int 0, .int 0, .int 0, .int 0, .null, .null, .int 0, .int 0, .int 0, .null, .null, .null, .null]), .inl (0, 118, .inl (fun _ => 0)), .inl (0, 118, .inl (fun _ => 0)), .inl (0, 118, .inl (fun _ => 0))]) hi rfl) ?_
  refine x_aload_n hm rfl rfl ?_
  refine x_bipush hm rfl (v := nI 8) (by decide) ?_
  refine x_nai hm rfl (by decide) (a_len (k := 4) hi rfl) (D2 := D0 ++ [.inr (4, [.ref (i + 1), .ref (i + 2), .ref (i + 3), .int 0, .null, .null, .int 0, .null, .null, .int 0, .int 0, .int 0, .int 0, .int 0, .int 0, .null, .null, .int 0, .int 0, .int 0, .null, .null, .null, .null]), .inl (0, 118, .inl (fun _ => 0)), .inl (0, 118, .inl (fun _ => 0)), .inl (0, 118, .inl (fun _ => 0)), .inl (0, 8, .inl (fun _ => 0))]) (app_sn rfl) ?_
  refine x_putf hm rfl (a_put (k := 0) (l2 := [.inr (4, [.ref (i + 1), .ref (i + 2), .ref (i + 3), .int 0, .ref (i + 4), .null, .int 0, .null, .null, .int 0, .int 0, .int 0, .int 0, .int 0, .int 0, .null, .null, .int 0, .int 0, .int 0, .null, .null, .null, .null]), .inl (0, 118, .inl (fun _ => 0)), .inl (0, 118, .inl (fun _ => 0)), .inl (0, 118, .inl (fun _ => 0)), .inl (0, 8, .inl (fun _ => 0))]) hi rfl) ?_
  refine x_aload_n hm rfl rfl ?_
  refine x_bipush hm rfl (v := nI 8) (by decide) ?_
  refine x_nai hm rfl (by decide) (a_len (k := 5) hi rfl) (D2 := D0 ++ [.inr (4, [.ref (i + 1), .ref (i + 2), .ref (i + 3), .int 0, .ref (i + 4), .null, .int 0, .null, .null, .int 0, .int 0, .int 0, .int 0, .int 0, .int 0, .null, .null, .int 0, .int 0, .int 0, .null, .null, .null, .null]), .inl (0, 118, .inl (fun _ => 0)), .inl (0, 118, .inl (fun _ => 0)), .inl (0, 118, .inl (fun _ => 0)), .inl (0, 8, .inl (fun _ => 0)), .inl (0, 8, .inl (fun _ => 0))]) (app_sn rfl) ?_
  refine x_putf hm rfl (a_put (k := 0) (l2 := [.inr (4, [.ref (i + 1), .ref (i + 2), .ref (i + 3), .int 0, .ref (i + 4), .ref (i + 5), .int 0, .null, .null, .int 0, .int 0, .int 0, .int 0, .int 0, .int 0, .null, .null, .int 0, .int 0, .int 0, .null, .null, .null, .null]), .inl (0, 118, .inl (fun _ => 0)), .inl (0, 118, .inl (fun _ => 0)), .inl (0, 118, .inl (fun _ => 0)), .inl (0, 8, .inl (fun _ => 0)), .inl (0, 8, .inl (fun _ => 0))]) hi rfl) ?_
  refine x_aload_n hm rfl rfl ?_
  refine x_iconst hm rfl (v := (-1 : Int32)) (by decide) ?_
  refine x_putf hm rfl (a_put (k := 0) (l2 := [.inr (4, [.ref (i + 1), .ref (i + 2), .ref (i + 3), .int 0, .ref (i + 4), .ref (i + 5), .int (-1), .null, .null, .int 0, .int 0, .int 0, .int 0, .int 0, .int 0, .null, .null, .int 0, .int 0, .int 0, .null, .null, .null, .null]), .inl (0, 118, .inl (fun _ => 0)), .inl (0, 118, .inl (fun _ => 0)), .inl (0, 118, .inl (fun _ => 0)), .inl (0, 8, .inl (fun _ => 0)), .inl (0, 8, .inl (fun _ => 0))]) hi rfl) ?_
  refine x_aload_n hm rfl rfl ?_
  refine x_bipush hm rfl (v := nI 8) (by decide) ?_
  refine x_nai hm rfl (by decide) (a_len (k := 6) hi rfl) (D2 := D0 ++ [.inr (4, [.ref (i + 1), .ref (i + 2), .ref (i + 3), .int 0, .ref (i + 4), .ref (i + 5), .int (-1), .null, .null, .int 0, .int 0, .int 0, .int 0, .int 0, .int 0, .null, .null, .int 0, .int 0, .int 0, .null, .null, .null, .null]), .inl (0, 118, .inl (fun _ => 0)), .inl (0, 118, .inl (fun _ => 0)), .inl (0, 118, .inl (fun _ => 0)), .inl (0, 8, .inl (fun _ => 0)), .inl (0, 8, .inl (fun _ => 0)), .inl (0, 8, .inl (fun _ => 0))]) (app_sn rfl) ?_
  refine x_putf hm rfl (a_put (k := 0) (l2 := [.inr (4, [.ref (i + 1), .ref (i + 2), .ref (i + 3), .int 0, .ref (i + 4), .ref (i + 5), .int (-1), .ref (i + 6), .null, .int 0, .int 0, .int 0, .int 0, .int 0, .int 0, .null, .null, .int 0, .int 0, .int 0, .null, .null, .null, .null]), .inl (0, 118, .inl (fun _ => 0)), .inl (0, 118, .inl (fun _ => 0)), .inl (0, 118, .inl (fun _ => 0)), .inl (0, 8, .inl (fun _ => 0)), .inl (0, 8, .inl (fun _ => 0)), .inl (0, 8, .inl (fun _ => 0))]) hi rfl) ?_
  refine x_aload_n hm rfl rfl ?_
  refine x_bipush hm rfl (v := nI 120) (by decide) ?_
  refine x_nai hm rfl (by decide) (a_len (k := 7) hi rfl) (D2 := D0 ++ [.inr (4, [.ref (i + 1), .ref (i + 2), .ref (i + 3), .int 0, .ref (i + 4), .ref (i + 5), .int (-1), .ref (i + 6), .null, .int 0, .int 0, .int 0, .int 0, .int 0, .int 0, .null, .null, .int 0, .int 0, .int 0, .null, .null, .null, .null]), .inl (0, 118, .inl (fun _ => 0)), .inl (0, 118, .inl (fun _ => 0)), .inl (0, 118, .inl (fun _ => 0)), .inl (0, 8, .inl (fun _ => 0)), .inl (0, 8, .inl (fun _ => 0)), .inl (0, 8, .inl (fun _ => 0)), .inl (0, 120, .inl (fun _ => 0))]) (app_sn rfl) ?_
  refine x_putf hm rfl (a_put (k := 0) (l2 := [.inr (4, [.ref (i + 1), .ref (i + 2), .ref (i + 3), .int 0, .ref (i + 4), .ref (i + 5), .int (-1), .ref (i + 6), .ref (i + 7), .int 0, .int 0, .int 0, .int 0, .int 0, .int 0, .null, .null, .int 0, .int 0, .int 0, .null, .null, .null, .null]), .inl (0, 118, .inl (fun _ => 0)), .inl (0, 118, .inl (fun _ => 0)), .inl (0, 118, .inl (fun _ => 0)), .inl (0, 8, .inl (fun _ => 0)), .inl (0, 8, .inl (fun _ => 0)), .inl (0, 8, .inl (fun _ => 0)), .inl (0, 120, .inl (fun _ => 0))]) hi rfl) ?_
  refine x_aload_n hm rfl rfl ?_
  refine x_bipush hm rfl (v := nI 7) (by decide) ?_
  refine x_ana hm rfl (by decide) (a_len (k := 8) hi rfl) (D2 := D0 ++ [.inr (4, [.ref (i + 1), .ref (i + 2), .ref (i + 3), .int 0, .ref (i + 4), .ref (i + 5), .int (-1), .ref (i + 6), .ref (i + 7), .int 0, .int 0, .int 0, .int 0, .int 0, .int 0, .null, .null, .int 0, .int 0, .int 0, .null, .null, .null, .null]), .inl (0, 118, .inl (fun _ => 0)), .inl (0, 118, .inl (fun _ => 0)), .inl (0, 118, .inl (fun _ => 0)), .inl (0, 8, .inl (fun _ => 0)), .inl (0, 8, .inl (fun _ => 0)), .inl (0, 8, .inl (fun _ => 0)), .inl (0, 120, .inl (fun _ => 0)), .inl (4, 7, .inr (.inr (.inr (.inr (fun _ => none)))))]) (app_sn rfl) ?_
  refine x_dup hm rfl rfl ?_
  refine x_iconst hm rfl (v := nI 0) (by decide) ?_
  refine x_ldcS hm rfl ?_
  refine x_aast hm rfl (a_stq (k := 8) (l2 := [.inr (4, [.ref (i + 1), .ref (i + 2), .ref (i + 3), .int 0, .ref (i + 4), .ref (i + 5), .int (-1), .ref (i + 6), .ref (i + 7), .int 0, .int 0, .int 0, .int 0, .int 0, .int 0, .null, .null, .int 0, .int 0, .int 0, .null, .null, .null, .null]), .inl (0, 118, .inl (fun _ => 0)), .inl (0, 118, .inl (fun _ => 0)), .inl (0, 118, .inl (fun _ => 0)), .inl (0, 8, .inl (fun _ => 0)), .inl (0, 8, .inl (fun _ => 0)), .inl (0, 8, .inl (fun _ => 0)), .inl (0, 120, .inl (fun _ => 0)), .inl (4, 7, .inr (.inr (.inr (.inr (va_up (fun _ => none) 0 (some 1000007))))))]) hi rfl rfl (by decide) (by decide) (by decide) (by decide)) ?_
  refine x_dup hm rfl rfl ?_
  refine x_iconst hm rfl (v := nI 1) (by decide) ?_
  refine x_ldcS hm rfl ?_
  refine x_aast hm rfl (a_stq (k := 8) (l2 := [.inr (4, [.ref (i + 1), .ref (i + 2), .ref (i + 3), .int 0, .ref (i + 4), .ref (i + 5), .int (-1), .ref (i + 6), .ref (i + 7), .int 0, .int 0, .int 0, .int 0, .int 0, .int 0, .null, .null, .int 0, .int 0, .int 0, .null, .null, .null, .null]), .inl (0, 118, .inl (fun _ => 0)), .inl (0, 118, .inl (fun _ => 0)), .inl (0, 118, .inl (fun _ => 0)), .inl (0, 8, .inl (fun _ => 0)), .inl (0, 8, .inl (fun _ => 0)), .inl (0, 8, .inl (fun _ => 0)), .inl (0, 120, .inl (fun _ => 0)), .inl (4, 7, .inr (.inr (.inr (.inr (va_up (va_up (fun _ => none) 0 (some 1000007)) 1 (some 1000001))))))]) hi rfl rfl (by decide) (by decide) (by decide) (by decide)) ?_
  refine x_dup hm rfl rfl ?_
  refine x_iconst hm rfl (v := nI 2) (by decide) ?_
  refine x_ldcS hm rfl ?_
  refine x_aast hm rfl (a_stq (k := 8) (l2 := [.inr (4, [.ref (i + 1), .ref (i + 2), .ref (i + 3), .int 0, .ref (i + 4), .ref (i + 5), .int (-1), .ref (i + 6), .ref (i + 7), .int 0, .int 0, .int 0, .int 0, .int 0, .int 0, .null, .null, .int 0, .int 0, .int 0, .null, .null, .null, .null]), .inl (0, 118, .inl (fun _ => 0)), .inl (0, 118, .inl (fun _ => 0)), .inl (0, 118, .inl (fun _ => 0)), .inl (0, 8, .inl (fun _ => 0)), .inl (0, 8, .inl (fun _ => 0)), .inl (0, 8, .inl (fun _ => 0)), .inl (0, 120, .inl (fun _ => 0)), .inl (4, 7, .inr (.inr (.inr (.inr (va_up (va_up (va_up (fun _ => none) 0 (some 1000007)) 1 (some 1000001)) 2 (some 1000002))))))]) hi rfl rfl (by decide) (by decide) (by decide) (by decide)) ?_
  refine x_dup hm rfl rfl ?_
  refine x_iconst hm rfl (v := nI 3) (by decide) ?_
  refine x_ldcS hm rfl ?_
  refine x_aast hm rfl (a_stq (k := 8) (l2 := [.inr (4, [.ref (i + 1), .ref (i + 2), .ref (i + 3), .int 0, .ref (i + 4), .ref (i + 5), .int (-1), .ref (i + 6), .ref (i + 7), .int 0, .int 0, .int 0, .int 0, .int 0, .int 0, .null, .null, .int 0, .int 0, .int 0, .null, .null, .null, .null]), .inl (0, 118, .inl (fun _ => 0)), .inl (0, 118, .inl (fun _ => 0)), .inl (0, 118, .inl (fun _ => 0)), .inl (0, 8, .inl (fun _ => 0)), .inl (0, 8, .inl (fun _ => 0)), .inl (0, 8, .inl (fun _ => 0)), .inl (0, 120, .inl (fun _ => 0)), .inl (4, 7, .inr (.inr (.inr (.inr (va_up (va_up (va_up (va_up (fun _ => none) 0 (some 1000007)) 1 (some 1000001)) 2 (some 1000002)) 3 (some 1000003))))))]) hi rfl rfl (by decide) (by decide) (by decide) (by decide)) ?_
  refine x_dup hm rfl rfl ?_
  refine x_iconst hm rfl (v := nI 4) (by decide) ?_
  refine x_ldcS hm rfl ?_
  refine x_aast hm rfl (a_stq (k := 8) (l2 := [.inr (4, [.ref (i + 1), .ref (i + 2), .ref (i + 3), .int 0, .ref (i + 4), .ref (i + 5), .int (-1), .ref (i + 6), .ref (i + 7), .int 0, .int 0, .int 0, .int 0, .int 0, .int 0, .null, .null, .int 0, .int 0, .int 0, .null, .null, .null, .null]), .inl (0, 118, .inl (fun _ => 0)), .inl (0, 118, .inl (fun _ => 0)), .inl (0, 118, .inl (fun _ => 0)), .inl (0, 8, .inl (fun _ => 0)), .inl (0, 8, .inl (fun _ => 0)), .inl (0, 8, .inl (fun _ => 0)), .inl (0, 120, .inl (fun _ => 0)), .inl (4, 7, .inr (.inr (.inr (.inr (va_up (va_up (va_up (va_up (va_up (fun _ => none) 0 (some 1000007)) 1 (some 1000001)) 2 (some 1000002)) 3 (some 1000003)) 4 (some 1000004))))))]) hi rfl rfl (by decide) (by decide) (by decide) (by decide)) ?_
  refine x_dup hm rfl rfl ?_
  refine x_iconst hm rfl (v := nI 5) (by decide) ?_
  refine x_ldcS hm rfl ?_
  refine x_aast hm rfl (a_stq (k := 8) (l2 := [.inr (4, [.ref (i + 1), .ref (i + 2), .ref (i + 3), .int 0, .ref (i + 4), .ref (i + 5), .int (-1), .ref (i + 6), .ref (i + 7), .int 0, .int 0, .int 0, .int 0, .int 0, .int 0, .null, .null, .int 0, .int 0, .int 0, .null, .null, .null, .null]), .inl (0, 118, .inl (fun _ => 0)), .inl (0, 118, .inl (fun _ => 0)), .inl (0, 118, .inl (fun _ => 0)), .inl (0, 8, .inl (fun _ => 0)), .inl (0, 8, .inl (fun _ => 0)), .inl (0, 8, .inl (fun _ => 0)), .inl (0, 120, .inl (fun _ => 0)), .inl (4, 7, .inr (.inr (.inr (.inr (va_up (va_up (va_up (va_up (va_up (va_up (fun _ => none) 0 (some 1000007)) 1 (some 1000001)) 2 (some 1000002)) 3 (some 1000003)) 4 (some 1000004)) 5 (some 1000005))))))]) hi rfl rfl (by decide) (by decide) (by decide) (by decide)) ?_
  refine x_dup hm rfl rfl ?_
  refine x_bipush hm rfl (v := nI 6) (by decide) ?_
  refine x_ldcS hm rfl ?_
  refine x_aast hm rfl (a_stq (k := 8) (l2 := [.inr (4, [.ref (i + 1), .ref (i + 2), .ref (i + 3), .int 0, .ref (i + 4), .ref (i + 5), .int (-1), .ref (i + 6), .ref (i + 7), .int 0, .int 0, .int 0, .int 0, .int 0, .int 0, .null, .null, .int 0, .int 0, .int 0, .null, .null, .null, .null]), .inl (0, 118, .inl (fun _ => 0)), .inl (0, 118, .inl (fun _ => 0)), .inl (0, 118, .inl (fun _ => 0)), .inl (0, 8, .inl (fun _ => 0)), .inl (0, 8, .inl (fun _ => 0)), .inl (0, 8, .inl (fun _ => 0)), .inl (0, 120, .inl (fun _ => 0)), .inl (4, 7, .inr (.inr (.inr (.inr (va_up (va_up (va_up (va_up (va_up (va_up (va_up (fun _ => none) 0 (some 1000007)) 1 (some 1000001)) 2 (some 1000002)) 3 (some 1000003)) 4 (some 1000004)) 5 (some 1000005)) 6 (some 1000006))))))]) hi rfl rfl (by decide) (by decide) (by decide) (by decide)) ?_
  refine x_putf hm rfl (a_put (k := 0) (l2 := [.inr (4, [.ref (i + 1), .ref (i + 2), .ref (i + 3), .int 0, .ref (i + 4), .ref (i + 5), .int (-1), .ref (i + 6), .ref (i + 7), .int 0, .int 0, .int 0, .int 0, .int 0, .int 0, .ref (i + 8), .null, .int 0, .int 0, .int 0, .null, .null, .null, .null]), .inl (0, 118, .inl (fun _ => 0)), .inl (0, 118, .inl (fun _ => 0)), .inl (0, 118, .inl (fun _ => 0)), .inl (0, 8, .inl (fun _ => 0)), .inl (0, 8, .inl (fun _ => 0)), .inl (0, 8, .inl (fun _ => 0)), .inl (0, 120, .inl (fun _ => 0)), .inl (4, 7, .inr (.inr (.inr (.inr (va_up (va_up (va_up (va_up (va_up (va_up (va_up (fun _ => none) 0 (some 1000007)) 1 (some 1000001)) 2 (some 1000002)) 3 (some 1000003)) 4 (some 1000004)) 5 (some 1000005)) 6 (some 1000006))))))]) hi rfl) ?_
  refine x_aload_n hm rfl rfl ?_
  refine x_sipush hm rfl (v := nI 840) (by decide) ?_
  refine x_nai hm rfl (by decide) (a_len (k := 9) hi rfl) (D2 := D0 ++ [.inr (4, [.ref (i + 1), .ref (i + 2), .ref (i + 3), .int 0, .ref (i + 4), .ref (i + 5), .int (-1), .ref (i + 6), .ref (i + 7), .int 0, .int 0, .int 0, .int 0, .int 0, .int 0, .ref (i + 8), .null, .int 0, .int 0, .int 0, .null, .null, .null, .null]), .inl (0, 118, .inl (fun _ => 0)), .inl (0, 118, .inl (fun _ => 0)), .inl (0, 118, .inl (fun _ => 0)), .inl (0, 8, .inl (fun _ => 0)), .inl (0, 8, .inl (fun _ => 0)), .inl (0, 8, .inl (fun _ => 0)), .inl (0, 120, .inl (fun _ => 0)), .inl (4, 7, .inr (.inr (.inr (.inr (va_up (va_up (va_up (va_up (va_up (va_up (va_up (fun _ => none) 0 (some 1000007)) 1 (some 1000001)) 2 (some 1000002)) 3 (some 1000003)) 4 (some 1000004)) 5 (some 1000005)) 6 (some 1000006)))))), .inl (0, 840, .inl (fun _ => 0))]) (app_sn rfl) ?_
  refine x_putf hm rfl (a_put (k := 0) (l2 := [.inr (4, [.ref (i + 1), .ref (i + 2), .ref (i + 3), .int 0, .ref (i + 4), .ref (i + 5), .int (-1), .ref (i + 6), .ref (i + 7), .int 0, .int 0, .int 0, .int 0, .int 0, .int 0, .ref (i + 8), .ref (i + 9), .int 0, .int 0, .int 0, .null, .null, .null, .null]), .inl (0, 118, .inl (fun _ => 0)), .inl (0, 118, .inl (fun _ => 0)), .inl (0, 118, .inl (fun _ => 0)), .inl (0, 8, .inl (fun _ => 0)), .inl (0, 8, .inl (fun _ => 0)), .inl (0, 8, .inl (fun _ => 0)), .inl (0, 120, .inl (fun _ => 0)), .inl (4, 7, .inr (.inr (.inr (.inr (va_up (va_up (va_up (va_up (va_up (va_up (va_up (fun _ => none) 0 (some 1000007)) 1 (some 1000001)) 2 (some 1000002)) 3 (some 1000003)) 4 (some 1000004)) 5 (some 1000005)) 6 (some 1000006)))))), .inl (0, 840, .inl (fun _ => 0))]) hi rfl) ?_
  refine x_aload_n hm rfl rfl ?_
  refine x_iconst hm rfl (v := nI 4) (by decide) ?_
  refine x_nai hm rfl (by decide) (a_len (k := 10) hi rfl) (D2 := D0 ++ [.inr (4, [.ref (i + 1), .ref (i + 2), .ref (i + 3), .int 0, .ref (i + 4), .ref (i + 5), .int (-1), .ref (i + 6), .ref (i + 7), .int 0, .int 0, .int 0, .int 0, .int 0, .int 0, .ref (i + 8), .ref (i + 9), .int 0, .int 0, .int 0, .null, .null, .null, .null]), .inl (0, 118, .inl (fun _ => 0)), .inl (0, 118, .inl (fun _ => 0)), .inl (0, 118, .inl (fun _ => 0)), .inl (0, 8, .inl (fun _ => 0)), .inl (0, 8, .inl (fun _ => 0)), .inl (0, 8, .inl (fun _ => 0)), .inl (0, 120, .inl (fun _ => 0)), .inl (4, 7, .inr (.inr (.inr (.inr (va_up (va_up (va_up (va_up (va_up (va_up (va_up (fun _ => none) 0 (some 1000007)) 1 (some 1000001)) 2 (some 1000002)) 3 (some 1000003)) 4 (some 1000004)) 5 (some 1000005)) 6 (some 1000006)))))), .inl (0, 840, .inl (fun _ => 0)), .inl (0, 4, .inl (fun _ => 0))]) (app_sn rfl) ?_
  refine x_putf hm rfl (a_put (k := 0) (l2 := [.inr (4, [.ref (i + 1), .ref (i + 2), .ref (i + 3), .int 0, .ref (i + 4), .ref (i + 5), .int (-1), .ref (i + 6), .ref (i + 7), .int 0, .int 0, .int 0, .int 0, .int 0, .int 0, .ref (i + 8), .ref (i + 9), .int 0, .int 0, .int 0, .ref (i + 10), .null, .null, .null]), .inl (0, 118, .inl (fun _ => 0)), .inl (0, 118, .inl (fun _ => 0)), .inl (0, 118, .inl (fun _ => 0)), .inl (0, 8, .inl (fun _ => 0)), .inl (0, 8, .inl (fun _ => 0)), .inl (0, 8, .inl (fun _ => 0)), .inl (0, 120, .inl (fun _ => 0)), .inl (4, 7, .inr (.inr (.inr (.inr (va_up (va_up (va_up (va_up (va_up (va_up (va_up (fun _ => none) 0 (some 1000007)) 1 (some 1000001)) 2 (some 1000002)) 3 (some 1000003)) 4 (some 1000004)) 5 (some 1000005)) 6 (some 1000006)))))), .inl (0, 840, .inl (fun _ => 0)), .inl (0, 4, .inl (fun _ => 0))]) hi rfl) ?_
  refine x_aload_n hm rfl rfl ?_
  refine x_iconst hm rfl (v := nI 4) (by decide) ?_
  refine x_nai hm rfl (by decide) (a_len (k := 11) hi rfl) (D2 := D0 ++ [.inr (4, [.ref (i + 1), .ref (i + 2), .ref (i + 3), .int 0, .ref (i + 4), .ref (i + 5), .int (-1), .ref (i + 6), .ref (i + 7), .int 0, .int 0, .int 0, .int 0, .int 0, .int 0, .ref (i + 8), .ref (i + 9), .int 0, .int 0, .int 0, .ref (i + 10), .null, .null, .null]), .inl (0, 118, .inl (fun _ => 0)), .inl (0, 118, .inl (fun _ => 0)), .inl (0, 118, .inl (fun _ => 0)), .inl (0, 8, .inl (fun _ => 0)), .inl (0, 8, .inl (fun _ => 0)), .inl (0, 8, .inl (fun _ => 0)), .inl (0, 120, .inl (fun _ => 0)), .inl (4, 7, .inr (.inr (.inr (.inr (va_up (va_up (va_up (va_up (va_up (va_up (va_up (fun _ => none) 0 (some 1000007)) 1 (some 1000001)) 2 (some 1000002)) 3 (some 1000003)) 4 (some 1000004)) 5 (some 1000005)) 6 (some 1000006)))))), .inl (0, 840, .inl (fun _ => 0)), .inl (0, 4, .inl (fun _ => 0)), .inl (0, 4, .inl (fun _ => 0))]) (app_sn rfl) ?_
  refine x_putf hm rfl (a_put (k := 0) (l2 := [.inr (4, [.ref (i + 1), .ref (i + 2), .ref (i + 3), .int 0, .ref (i + 4), .ref (i + 5), .int (-1), .ref (i + 6), .ref (i + 7), .int 0, .int 0, .int 0, .int 0, .int 0, .int 0, .ref (i + 8), .ref (i + 9), .int 0, .int 0, .int 0, .ref (i + 10), .ref (i + 11), .null, .null]), .inl (0, 118, .inl (fun _ => 0)), .inl (0, 118, .inl (fun _ => 0)), .inl (0, 118, .inl (fun _ => 0)), .inl (0, 8, .inl (fun _ => 0)), .inl (0, 8, .inl (fun _ => 0)), .inl (0, 8, .inl (fun _ => 0)), .inl (0, 120, .inl (fun _ => 0)), .inl (4, 7, .inr (.inr (.inr (.inr (va_up (va_up (va_up (va_up (va_up (va_up (va_up (fun _ => none) 0 (some 1000007)) 1 (some 1000001)) 2 (some 1000002)) 3 (some 1000003)) 4 (some 1000004)) 5 (some 1000005)) 6 (some 1000006)))))), .inl (0, 840, .inl (fun _ => 0)), .inl (0, 4, .inl (fun _ => 0)), .inl (0, 4, .inl (fun _ => 0))]) hi rfl) ?_
  refine x_aload_n hm rfl rfl ?_
  refine x_sipush hm rfl (v := nI 160) (by decide) ?_
  refine x_nai hm rfl (by decide) (a_len (k := 12) hi rfl) (D2 := D0 ++ [.inr (4, [.ref (i + 1), .ref (i + 2), .ref (i + 3), .int 0, .ref (i + 4), .ref (i + 5), .int (-1), .ref (i + 6), .ref (i + 7), .int 0, .int 0, .int 0, .int 0, .int 0, .int 0, .ref (i + 8), .ref (i + 9), .int 0, .int 0, .int 0, .ref (i + 10), .ref (i + 11), .null, .null]), .inl (0, 118, .inl (fun _ => 0)), .inl (0, 118, .inl (fun _ => 0)), .inl (0, 118, .inl (fun _ => 0)), .inl (0, 8, .inl (fun _ => 0)), .inl (0, 8, .inl (fun _ => 0)), .inl (0, 8, .inl (fun _ => 0)), .inl (0, 120, .inl (fun _ => 0)), .inl (4, 7, .inr (.inr (.inr (.inr (va_up (va_up (va_up (va_up (va_up (va_up (va_up (fun _ => none) 0 (some 1000007)) 1 (some 1000001)) 2 (some 1000002)) 3 (some 1000003)) 4 (some 1000004)) 5 (some 1000005)) 6 (some 1000006)))))), .inl (0, 840, .inl (fun _ => 0)), .inl (0, 4, .inl (fun _ => 0)), .inl (0, 4, .inl (fun _ => 0)), .inl (0, 160, .inl (fun _ => 0))]) (app_sn rfl) ?_
  refine x_putf hm rfl (a_put (k := 0) (l2 := [.inr (4, [.ref (i + 1), .ref (i + 2), .ref (i + 3), .int 0, .ref (i + 4), .ref (i + 5), .int (-1), .ref (i + 6), .ref (i + 7), .int 0, .int 0, .int 0, .int 0, .int 0, .int 0, .ref (i + 8), .ref (i + 9), .int 0, .int 0, .int 0, .ref (i + 10), .ref (i + 11), .ref (i + 12), .null]), .inl (0, 118, .inl (fun _ => 0)), .inl (0, 118, .inl (fun _ => 0)), .inl (0, 118, .inl (fun _ => 0)), .inl (0, 8, .inl (fun _ => 0)), .inl (0, 8, .inl (fun _ => 0)), .inl (0, 8, .inl (fun _ => 0)), .inl (0, 120, .inl (fun _ => 0)), .inl (4, 7, .inr (.inr (.inr (.inr (va_up (va_up (va_up (va_up (va_up (va_up (va_up (fun _ => none) 0 (some 1000007)) 1 (some 1000001)) 2 (some 1000002)) 3 (some 1000003)) 4 (some 1000004)) 5 (some 1000005)) 6 (some 1000006)))))), .inl (0, 840, .inl (fun _ => 0)), .inl (0, 4, .inl (fun _ => 0)), .inl (0, 4, .inl (fun _ => 0)), .inl (0, 160, .inl (fun _ => 0))]) hi rfl) ?_
  refine x_aload_n hm rfl rfl ?_
  refine x_bipush hm rfl (v := nI 40) (by decide) ?_
  refine x_nai hm rfl (by decide) (a_len (k := 13) hi rfl) (D2 := D0 ++ [.inr (4, [.ref (i + 1), .ref (i + 2), .ref (i + 3), .int 0, .ref (i + 4), .ref (i + 5), .int (-1), .ref (i + 6), .ref (i + 7), .int 0, .int 0, .int 0, .int 0, .int 0, .int 0, .ref (i + 8), .ref (i + 9), .int 0, .int 0, .int 0, .ref (i + 10), .ref (i + 11), .ref (i + 12), .null]), .inl (0, 118, .inl (fun _ => 0)), .inl (0, 118, .inl (fun _ => 0)), .inl (0, 118, .inl (fun _ => 0)), .inl (0, 8, .inl (fun _ => 0)), .inl (0, 8, .inl (fun _ => 0)), .inl (0, 8, .inl (fun _ => 0)), .inl (0, 120, .inl (fun _ => 0)), .inl (4, 7, .inr (.inr (.inr (.inr (va_up (va_up (va_up (va_up (va_up (va_up (va_up (fun _ => none) 0 (some 1000007)) 1 (some 1000001)) 2 (some 1000002)) 3 (some 1000003)) 4 (some 1000004)) 5 (some 1000005)) 6 (some 1000006)))))), .inl (0, 840, .inl (fun _ => 0)), .inl (0, 4, .inl (fun _ => 0)), .inl (0, 4, .inl (fun _ => 0)), .inl (0, 160, .inl (fun _ => 0)), .inl (0, 40, .inl (fun _ => 0))]) (app_sn rfl) ?_
  refine x_putf hm rfl (a_put (k := 0) (l2 := [.inr (4, [.ref (i + 1), .ref (i + 2), .ref (i + 3), .int 0, .ref (i + 4), .ref (i + 5), .int (-1), .ref (i + 6), .ref (i + 7), .int 0, .int 0, .int 0, .int 0, .int 0, .int 0, .ref (i + 8), .ref (i + 9), .int 0, .int 0, .int 0, .ref (i + 10), .ref (i + 11), .ref (i + 12), .ref (i + 13)]), .inl (0, 118, .inl (fun _ => 0)), .inl (0, 118, .inl (fun _ => 0)), .inl (0, 118, .inl (fun _ => 0)), .inl (0, 8, .inl (fun _ => 0)), .inl (0, 8, .inl (fun _ => 0)), .inl (0, 8, .inl (fun _ => 0)), .inl (0, 120, .inl (fun _ => 0)), .inl (4, 7, .inr (.inr (.inr (.inr (va_up (va_up (va_up (va_up (va_up (va_up (va_up (fun _ => none) 0 (some 1000007)) 1 (some 1000001)) 2 (some 1000002)) 3 (some 1000003)) 4 (some 1000004)) 5 (some 1000005)) 6 (some 1000006)))))), .inl (0, 840, .inl (fun _ => 0)), .inl (0, 4, .inl (fun _ => 0)), .inl (0, 4, .inl (fun _ => 0)), .inl (0, 160, .inl (fun _ => 0)), .inl (0, 40, .inl (fun _ => 0))]) hi rfl) ?_
  refine x_aload_n hm rfl rfl ?_
  refine x_getf hm rfl (a_get (k := 0) hi rfl) ?_
  refine x_iconst hm rfl (v := nI 3) (by decide) ?_
  refine x_iconst hm rfl (v := nI 1) (by decide) ?_
  refine x_iast hm rfl (a_sti (k := 1) hi rfl (by decide) (by decide)) ?_
  rw [nwF_0]
  refine x_iconst hm rfl (v := nI 0) (by decide) ?_
  refine x_istore_n hm rfl rfl ?_
  have h := c131l (X := X) (D := D0 ++ modL i (nwF 0)) (i := i) (c := i + 1) (fun f => by rw [app_set hi]; exact a_get (k := 0) hi rfl) (by rw [a_len (k := 14) hi rfl]; omega) 11 0 (by decide) (by decide)
  rw [app_set hi, app_set hi] at h
  rw [kn7]
  exact h
theorem put_hd {o o2 : va_E} {r : mHp} {kd : Nat} {v : Value} (h : mPut row kd [o] 0 a b v = some [o2]) : mPut row kd (o :: r) 0 a b v = some (o2 :: r) := by
  unfold mPut at h ⊢
  cases o with
  | inl q => cases h
  | inr o =>
    obtain ⟨c, fs⟩ := o
    have h2 : cond _ (some ([_] : mHp)) none = some [o2] := h
    obtain ⟨hB, hl⟩ := mCond_eq h2
    have e := (List.cons.inj (Option.some.inj hl)).1
    show cond _ (some (_ :: r)) none = _
    rw [hB, ← e]
    rfl
theorem get_hd {o : va_E} {r : mHp} {v : Value} (h : mGet [o] 0 a b = some v) : mGet (o :: r) 0 a b = some v := h
noncomputable def R1 : mHp := townL 1
noncomputable def R2 : mHp := R1 ++ townL 18
noncomputable def R3 : mHp := R2 ++ townL 35
noncomputable def R4 : mHp := R3 ++ [.inr (1, [.ref 53, .int 0, .int 0, .int 0, .int 0, .int 0, .int (-1)]), .inl (1, 120, .inl (fun _ => 0))]
theorem R1_l : R1.length = 17 := rfl
theorem R2_l : R2.length = 34 := by unfold R2; rw [List.length_append, R1_l]; rfl
theorem R3_l : R3.length = 51 := by unfold R3; rw [List.length_append, R2_l]; rfl
theorem R4_l : R4.length = 53 := by unfold R4; rw [List.length_append, R3_l]; rfl
theorem hd_l {o : va_E} {r : mHp} (h : r.length = n) : (o :: r).length = n + 1 := congrArg (· + 1) h
theorem hd_la {o : va_E} {r : mHp} (h : r.length = n) (g : l.length = k) : (o :: (r ++ l)).length = n + k + 1 := by rw [List.length_cons, List.length_append, h, g]
theorem e_stq {o : va_E} {r : mHp} {m : Nat} {f : Nat → Option Nat} {fs : List Value} {v q j : Nat} (hr : r.length = 53) (h : l[0]? = some (.inl (2, m, .inr (.inr (.inr (.inr f)))))) (hv : v = 54 + q) (hq : l[q]? = some (.inr (0, fs))) (hl : l.set 0 (.inl (2, m, .inr (.inr (.inr (.inr (va_up f j (some v))))))) = l2) (hj : j < m) (hm : m ≤ 1000) : mStQ (o :: (r ++ l)) 54 (nI j) v = some (o :: (r ++ l2)) := by
  have hi : (o :: r).length = 54 := by rw [List.length_cons, hr]
  show mStQ ((o :: r) ++ l) (54 + 0) (nI j) v = some ((o :: r) ++ l2)
  unfold mStQ
  rw [app_at hi, h]
  dsimp only
  have e : mAk ((o :: r) ++ l) 2 v = true := by
    show (match ((o :: r) ++ l)[v]? with
      | some (.inr (c, _)) => Nat.beq c 0
      | _ => false) = true
    rw [hv, app_at hi, hq]
    rfl
  rw [e, jI_out hj hm, jI_nat (by omega), app_set hi, hl]
  rfl
theorem hd_sn {o : va_E} {r x : mHp} (h : l ++ x = l2) : (o :: (r ++ l)) ++ x = o :: (r ++ l2) := by
  show o :: ((r ++ l) ++ x) = _
  rw [List.append_assoc, h]
theorem nw_at {c : va_E} (h : D.length = i) : (D ++ [c])[i]? = some c := by
  rw [List.getElem?_append_right (by omega), h, Nat.sub_self]
  rfl
theorem mCallN {ins : Instr} {len j kd a n pc c : Nat} {z : Int} {st as r : List Value} {rw2 : mRow} {fs : List Value} (hk : kd = 14 ∨ kd = 15) (h1 : (st.take n).reverse = .ref b :: as) (h2 : st.drop n = r) (h3 : (Nat.ble n st.length && mC1 (st.take n) && Nat.ble (mWt (st.drop n)) 8) = true) (h4 : mMet a = some rw2) (h5 : rw2.1 = c) (hD : D[b]? = some (.inr (c, fs))) :
    mCall (ins, len, j, kd, a, n, z) true pc L st D = some (.inr (.inr (a, .ref b :: as, r))) := by
  have hr : mRcv D (st.take n).reverse a = true := by
    unfold mRcv
    rw [h1]
    dsimp only
    rw [hD, h4]
    dsimp only
    rw [h5]
    exact Nat.beq_refl c
  have key : cond (Nat.ble n st.length && mC1 (st.take n) && Nat.ble (mWt (st.drop n)) 8 && (!true || mRcv D (st.take n).reverse a)) (some ((.inr (.inr (a, (st.take n).reverse, st.drop n))) : mRes)) none = some (.inr (.inr (a, .ref b :: as, r))) := by
    rw [h3, hr, h1, h2]
    rfl
  rcases hk with rfl | rfl <;> exact key
end CV
