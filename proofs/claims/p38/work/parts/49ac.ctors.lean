section CV
variable {X : mSc} {Q : Option Value → mHp → Prop} {mid pc : Nat} {L : mLoc} {st : List Value} {D D0 l l2 : mHp} {row : mRow} {ex : Nat × Nat × Nat × Nat × Nat × Int} {i k a b d n : Nat}
theorem c3 (hi : D0.length = i) : mT X 3 [.ref i] (D0 ++ [.inr (1, mDf 1)]) none (D0 ++ [.inr (1, [.ref (i + 1), .int 0, .int 0, .int 0, .int 0, .int 0, .int (-1)]), .inl (1, 120, .inl (fun _ => 0))]) := by
  refine mT.of (row := _) rfl (Nat.le_of_ble_eq_true rfl) ?_
  have hm : mMet 3 = some _ := rfl
  refine x_aload_n hm rfl rfl ?_
  refine x_libI hm rfl rfl ?_
  dsimp only
  refine x_aload_n hm rfl rfl ?_
  refine x_bipush hm rfl (v := nI 120) (by decide) ?_
  refine x_nab hm rfl (by decide) (a_len (k := 1) hi rfl) (D2 := D0 ++ [.inr (1, [.null, .int 0, .int 0, .int 0, .int 0, .int 0, .int 0]), .inl (1, 120, .inl (fun _ => 0))]) (app_sn rfl) ?_
  refine x_putf hm rfl (a_put (k := 0) (l2 := [.inr (1, [.ref (i + 1), .int 0, .int 0, .int 0, .int 0, .int 0, .int 0]), .inl (1, 120, .inl (fun _ => 0))]) hi rfl) ?_
  refine x_aload_n hm rfl rfl ?_
  refine x_iconst hm rfl (v := nI 0) (by decide) ?_
  refine x_putf hm rfl (a_put (k := 0) (l2 := [.inr (1, [.ref (i + 1), .int 0, .int 0, .int 0, .int 0, .int 0, .int 0]), .inl (1, 120, .inl (fun _ => 0))]) hi rfl) ?_
  refine x_aload_n hm rfl rfl ?_
  refine x_iconst hm rfl (v := nI 0) (by decide) ?_
  refine x_putf hm rfl (a_put (k := 0) (l2 := [.inr (1, [.ref (i + 1), .int 0, .int 0, .int 0, .int 0, .int 0, .int 0]), .inl (1, 120, .inl (fun _ => 0))]) hi rfl) ?_
  refine x_aload_n hm rfl rfl ?_
  refine x_iconst hm rfl (v := nI 0) (by decide) ?_
  refine x_putf hm rfl (a_put (k := 0) (l2 := [.inr (1, [.ref (i + 1), .int 0, .int 0, .int 0, .int 0, .int 0, .int 0]), .inl (1, 120, .inl (fun _ => 0))]) hi rfl) ?_
  refine x_aload_n hm rfl rfl ?_
  refine x_iconst hm rfl (v := nI 0) (by decide) ?_
  refine x_putf hm rfl (a_put (k := 0) (l2 := [.inr (1, [.ref (i + 1), .int 0, .int 0, .int 0, .int 0, .int 0, .int 0]), .inl (1, 120, .inl (fun _ => 0))]) hi rfl) ?_
  refine x_aload_n hm rfl rfl ?_
  refine x_iconst hm rfl (v := nI 0) (by decide) ?_
  refine x_putf hm rfl (a_put (k := 0) (l2 := [.inr (1, [.ref (i + 1), .int 0, .int 0, .int 0, .int 0, .int 0, .int 0]), .inl (1, 120, .inl (fun _ => 0))]) hi rfl) ?_
  refine x_aload_n hm rfl rfl ?_
  refine x_iconst hm rfl (v := (-1 : Int32)) (by decide) ?_
  refine x_putf hm rfl (a_put (k := 0) (l2 := [.inr (1, [.ref (i + 1), .int 0, .int 0, .int 0, .int 0, .int 0, .int (-1)]), .inl (1, 120, .inl (fun _ => 0))]) hi rfl) ?_
  refine x_ret hm rfl rfl ?_
  exact ⟨rfl, rfl⟩
noncomputable def townL (i : Nat) : mHp := [.inr (2, [.ref (i + 1), .ref (i + 8), .ref (i + 16), .int 0, .int 0, .int 0, .int 1, .int (-1)]), .inl (3, 6, .inr (.inr (.inr (.inr (mrL [i + 2, i + 3, i + 4, i + 5, i + 6, i + 7])))))] ++ List.replicate 6 (.inl (0, 8, .inl (fun _ => 0))) ++ [.inl (3, 7, .inr (.inr (.inr (.inr (mrL [i + 9, i + 10, i + 11, i + 12, i + 13, i + 14, i + 15])))))] ++ List.replicate 7 (.inl (0, 8, .inl (fun _ => 0))) ++ [.inl (0, 10, .inl (spF 10))]
end CV
