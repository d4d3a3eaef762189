section CV
variable {X : mSc} {Q : Option Value → mHp → Prop} {mid pc : Nat} {L : mLoc} {st : List Value} {D D0 l l2 : mHp} {row : mRow} {ex : Nat × Nat × Nat × Nat × Nat × Int} {i k a b d n : Nat}
theorem c4 (hi : D0.length = i) : mT X 4 [.ref i] (D0 ++ [.inr (0, mDf 0)]) none (D0 ++ [.inr (0, [.ref (i + 1), .int 0, .int 0]), .inl (0, 40, .inl (fun _ => 0))]) := by
  refine mT.of (row := _) rfl (Nat.le_of_ble_eq_true rfl) ?_
  have hm : mMet 4 = some _ := rfl
  refine x_aload_n hm rfl rfl ?_
  refine x_libI hm rfl rfl ?_
  dsimp only
  refine x_aload_n hm rfl rfl ?_
  refine x_bipush hm rfl (v := nI 40) (by decide) ?_
  refine x_nai hm rfl (by decide) (a_len (k := 1) hi rfl) (D2 := D0 ++ [.inr (0, [.null, .int 0, .int 0]), .inl (0, 40, .inl (fun _ => 0))]) (app_sn rfl) ?_
  refine x_putf hm rfl (a_put (k := 0) (l2 := [.inr (0, [.ref (i + 1), .int 0, .int 0]), .inl (0, 40, .inl (fun _ => 0))]) hi rfl) ?_
  refine x_aload_n hm rfl rfl ?_
  refine x_iconst hm rfl (v := nI 0) (by decide) ?_
  refine x_putf hm rfl (a_put (k := 0) (l2 := [.inr (0, [.ref (i + 1), .int 0, .int 0]), .inl (0, 40, .inl (fun _ => 0))]) hi rfl) ?_
  refine x_aload_n hm rfl rfl ?_
  refine x_iconst hm rfl (v := nI 0) (by decide) ?_
  refine x_putf hm rfl (a_put (k := 0) (l2 := [.inr (0, [.ref (i + 1), .int 0, .int 0]), .inl (0, 40, .inl (fun _ => 0))]) hi rfl) ?_
  refine x_ret hm rfl rfl ?_
  exact ⟨rfl, rfl⟩
end CV
