section CV
variable {X : mSc} {Q : Option Value → mHp → Prop} {mid pc : Nat} {L : mLoc} {st : List Value} {D D0 l l2 : mHp} {row : mRow} {ex : Nat × Nat × Nat × Nat × Nat × Int} {i k a b d n : Nat}
theorem st_set {f : Nat → Int32} {m : Nat} {v : Int32} (ha : a < D.length) (hk : k < m) (hm : m ≤ 1000) : mStI 0 (D.set a (.inl (0, m, .inl f))) a (nI k) v = some (D.set a (.inl (0, m, .inl (upd f k v)))) := by
  unfold mStI
  rw [List.getElem?_set_self ha]
  dsimp only
  rw [jI_out hk hm, jI_nat (by omega), List.set_set]
  rfl
def mrL (l : List Nat) : Nat → Option Nat := fun j => l[j]?
theorem mr6 {d : Nat} : (fun i => if i < 6 then some (d + 1 + i) else none) = mrL [d + 1, d + 2, d + 3, d + 4, d + 5, d + 6] := by
  funext j
  unfold mrL
  match j with
  | 0 | 1 | 2 | 3 | 4 | 5 => rfl
  | n + 6 => rw [if_neg (by omega)]; rfl
theorem mr7 {d : Nat} : (fun i => if i < 7 then some (d + 1 + i) else none) = mrL [d + 1, d + 2, d + 3, d + 4, d + 5, d + 6, d + 7] := by
  funext j
  unfold mrL
  match j with
  | 0 | 1 | 2 | 3 | 4 | 5 | 6 => rfl
  | n + 7 => rw [if_neg (by omega)]; rfl
theorem c4 (hi : D0.length = i) : mT X 4 [.ref i] (D0 ++ [.inr (0, mDf 0)]) none (D0 ++ [.inr (0, [.ref (i + 1), .int 0, .int 0]), .inl (0, 40, .inl (fun _ => 0))]) := by
  refine mT.of (row := _) rfl (Nat.le_of_ble_eq_true rfl) ?_
  have hm : mMet 4 = some _ := rfl
  refine x_aload_n hm rfl rfl ?_
  refine x_libI hm rfl rfl ?_
  dsimp only
  refine x_aload_n hm rfl rfl ?_
  refine x_bipush hm rfl (v := nI 40) (by decide) ?_
  refine x_nai hm rfl (by decide) (a_len (k := 1) hi rfl) (D2 := D0 ++ [.inr (0, [.null, .int 0, .int 0]), .inl (0, 40, .inl (fun _ => 0))]) (app_sn rfl) ?_
  refine x_putf hm rfl (a_put (k := 0) (l2 := [.inr (0, [.ref (i + 1), .int 0, .int 0]), .inl (0, 40, .inl (fun _ => 0))]) hi rfl) ?_
  refine x_aload_n hm rfl rfl ?_
  refine x_iconst hm rfl (v := nI 0) (by decide) ?_
  refine x_putf hm rfl (a_put (k := 0) (l2 := [.inr (0, [.ref (i + 1), .int 0, .int 0]), .inl (0, 40, .inl (fun _ => 0))]) hi rfl) ?_
  refine x_aload_n hm rfl rfl ?_
  refine x_iconst hm rfl (v := nI 0) (by decide) ?_
  refine x_putf hm rfl (a_put (k := 0) (l2 := [.inr (0, [.ref (i + 1), .int 0, .int 0]), .inl (0, 40, .inl (fun _ => 0))]) hi rfl) ?_
  refine x_ret hm rfl rfl ?_
  exact ⟨rfl, rfl⟩
theorem c3 (hi : D0.length = i) : mT X 3 [.ref i] (D0 ++ [.inr (1, mDf 1)]) none (D0 ++ [.inr (1, [.ref (i + 1), .int 0, .int 0, .int 0, .int 0, .int 0, .int (-1)]), .inl (1, 120, .inl (fun _ => 0))]) := by
  refine mT.of (row := _) rfl (Nat.le_of_ble_eq_true rfl) ?_
  have hm : mMet 3 = some _ := rfl
  refine x_aload_n hm rfl rfl ?_
  refine x_libI hm rfl rfl ?_
  dsimp only
  refine x_aload_n hm rfl rfl ?_
  refine x_bipush hm rfl (v := nI 120) (by decide) ?_
  refine x_nab hm rfl (by decide) (a_len (k := 1) hi rfl) (D2 := D0 ++ [.inr (1, [.null, .int 0, .int 0, .int 0, .int 0, .int 0, .int 0]), .inl (1, 120, .inl (fun _ => 0))]) (app_sn rfl) ?_
  refine x_putf hm rfl (a_put (k := 0) (l2 := [.inr (1, [.ref (i + 1), .int 0, .int 0, .int 0, .int 0, .int 0, .int 0]), .inl (1, 120, .inl (fun _ => 0))]) hi rfl) ?_
  refine x_aload_n hm rfl rfl ?_
  refine x_iconst hm rfl (v := nI 0) (by decide) ?_
  refine x_putf hm rfl (a_put (k := 0) (l2 := [.inr (1, [.ref (i + 1), .int 0, .int 0, .int 0, .int 0, .int 0, .int 0]), .inl (1, 120, .inl (fun _ => 0))]) hi rfl) ?_
  refine x_aload_n hm rfl rfl ?_
  refine x_iconst hm rfl (v := nI 0) (by decide) ?_
  refine x_putf hm rfl (a_put (k := 0) (l2 := [.inr (1, [.ref (i + 1), .int 0, .int 0, .int 0, .int 0, .int 0, .int 0]), .inl (1, 120, .inl (fun _ => 0))]) hi rfl) ?_
  refine x_aload_n hm rfl rfl ?_
  refine x_iconst hm rfl (v := nI 0) (by decide) ?_
  refine x_putf hm rfl (a_put (k := 0) (l2 := [.inr (1, [.ref (i + 1), .int 0, .int 0, .int 0, .int 0, .int 0, .int 0]), .inl (1, 120, .inl (fun _ => 0))]) hi rfl) ?_
  refine x_aload_n hm rfl rfl ?_
  refine x_iconst hm rfl (v := nI 0) (by decide) ?_
  refine x_putf hm rfl (a_put (k := 0) (l2 := [.inr (1, [.ref (i + 1), .int 0, .int 0, .int 0, .int 0, .int 0, .int 0]), .inl (1, 120, .inl (fun _ => 0))]) hi rfl) ?_
  refine x_aload_n hm rfl rfl ?_
  refine x_iconst hm rfl (v := nI 0) (by decide) ?_
  refine x_putf hm rfl (a_put (k := 0) (l2 := [.inr (1, [.ref (i + 1), .int 0, .int 0, .int 0, .int 0, .int 0, .int 0]), .inl (1, 120, .inl (fun _ => 0))]) hi rfl) ?_
  refine x_aload_n hm rfl rfl ?_
  refine x_iconst hm rfl (v := (-1 : Int32)) (by decide) ?_
  refine x_putf hm rfl (a_put (k := 0) (l2 := [.inr (1, [.ref (i + 1), .int 0, .int 0, .int 0, .int 0, .int 0, .int (-1)]), .inl (1, 120, .inl (fun _ => 0))]) hi rfl) ?_
  refine x_ret hm rfl rfl ?_
  exact ⟨rfl, rfl⟩
noncomputable def townL (i : Nat) : mHp := [.inr (2, [.ref (i + 1), .ref (i + 8), .ref (i + 16), .int 0, .int 0, .int 0, .int 1, .int (-1)]), .inl (3, 6, .inr (.inr (.inr (.inr (mrL [i + 2, i + 3, i + 4, i + 5, i + 6, i + 7])))))] ++ List.replicate 6 (.inl (0, 8, .inl (fun _ => 0))) ++ [.inl (3, 7, .inr (.inr (.inr (.inr (mrL [i + 9, i + 10, i + 11, i + 12, i + 13, i + 14, i + 15])))))] ++ List.replicate 7 (.inl (0, 8, .inl (fun _ => 0))) ++ [.inl (0, 10, .inl (spF 10))]
theorem c2l {c : Nat} (hO : ∀ f, mGet (D.set c (.inl (0, 10, .inl f))) i 2 2 = some (.ref c)) (hc : c < D.length) : ∀ (n k : Nat), 10 - k < n → k ≤ 10 → mEv X (fun r D' => r = none ∧ D' = D.set c (.inl (0, 10, .inl (spF 10)))) 2 63 [some (.ref i), some (.int (nI k))] [] (D.set c (.inl (0, 10, .inl (spF k)))) := by
  have hm : mMet 2 = some _ := rfl
  intro n
  induction n with
  | zero =>
    intro k hkn hkb
    omega
  | succ n ih =>
    intro k hkn hkb
    refine x_iload_n hm rfl rfl ?_
    refine x_bipush hm rfl (v := nI 10) (by decide) ?_
    refine x_icmp_ge hm rfl (t := 82) rfl (fun h1 => ?_) (fun h1 => ?_)
    · obtain rfl : k = 10 := Nat.le_antisymm hkb ((jI_le (by decide) (by omega)).mp h1)
      refine x_ret hm rfl rfl ?_
      exact ⟨rfl, rfl⟩
    · have hk : k < 10 := Nat.lt_of_not_le fun h => h1 (nI_le h (by omega))
      refine x_aload_n hm rfl rfl ?_
      refine x_getf hm rfl (hO _) ?_
      refine x_iload_n hm rfl rfl ?_
      refine x_iconst hm rfl (v := (-1 : Int32)) (by decide) ?_
      refine x_iast hm rfl (st_set hc hk (by decide)) ?_
      rw [spF_s]
      refine x_iinc hm rfl rfl (v := nI 1) (by decide) rfl ?_
      rw [jI_add]
      refine x_goto hm rfl (t := 63) rfl ?_
      exact ih (k + 1) (by omega) (by omega)
end CV
