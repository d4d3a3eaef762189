section CV
variable {X : mSc} {Q : Option Value → mHp → Prop} {mid pc : Nat} {L : mLoc} {st : List Value} {D D0 l l2 : mHp} {row : mRow} {ex : Nat × Nat × Nat × Nat × Nat × Int} {i k a b d n : Nat}
theorem c2 (hi : D0.length = i) : mT X 2 [.ref i] (D0 ++ [.inr (2, mDf 2)]) none (D0 ++ townL i) := by
  refine mT.of (row := _) rfl (Nat.le_of_ble_eq_true rfl) ?_
  have hm : mMet 2 = some _ := rfl
  refine x_aload_n hm rfl rfl ?_
  refine x_libI hm rfl rfl ?_
  dsimp only
  refine x_aload_n hm rfl rfl ?_
  refine x_bipush hm rfl (v := nI 6) (by decide) ?_
  refine x_bipush hm rfl (v := nI 8) (by decide) ?_
  refine x_mul hm rfl (by decide) (by decide) (a_len (k := 1) hi rfl) (D2 := D0 ++ [.inr (2, [.null, .null, .null, .int 0, .int 0, .int 0, .int 0, .int 0]), .inl (3, 6, .inr (.inr (.inr (.inr (mrL [i + 1 + 1, i + 1 + 2, i + 1 + 3, i + 1 + 4, i + 1 + 5, i + 1 + 6]))))), .inl (0, 8, .inl (fun _ => 0)), .inl (0, 8, .inl (fun _ => 0)), .inl (0, 8, .inl (fun _ => 0)), .inl (0, 8, .inl (fun _ => 0)), .inl (0, 8, .inl (fun _ => 0)), .inl (0, 8, .inl (fun _ => 0))]) (by rw [mr6]; exact app_sn rfl) ?_
  refine x_putf hm rfl (a_put (k := 0) (l2 := [.inr (2, [.ref (i + 1), .null, .null, .int 0, .int 0, .int 0, .int 0, .int 0]), .inl (3, 6, .inr (.inr (.inr (.inr (mrL [i + 1 + 1, i + 1 + 2, i + 1 + 3, i + 1 + 4, i + 1 + 5, i + 1 + 6]))))), .inl (0, 8, .inl (fun _ => 0)), .inl (0, 8, .inl (fun _ => 0)), .inl (0, 8, .inl (fun _ => 0)), .inl (0, 8, .inl (fun _ => 0)), .inl (0, 8, .inl (fun _ => 0)), .inl (0, 8, .inl (fun _ => 0))]) hi rfl) ?_
  refine x_aload_n hm rfl rfl ?_
  refine x_bipush hm rfl (v := nI 7) (by decide) ?_
  refine x_bipush hm rfl (v := nI 8) (by decide) ?_
  refine x_mul hm rfl (by decide) (by decide) (a_len (k := 8) hi rfl) (D2 := D0 ++ [.inr (2, [.ref (i + 1), .null, .null, .int 0, .int 0, .int 0, .int 0, .int 0]), .inl (3, 6, .inr (.inr (.inr (.inr (mrL [i + 1 + 1, i + 1 + 2, i + 1 + 3, i + 1 + 4, i + 1 + 5, i + 1 + 6]))))), .inl (0, 8, .inl (fun _ => 0)), .inl (0, 8, .inl (fun _ => 0)), .inl (0, 8, .inl (fun _ => 0)), .inl (0, 8, .inl (fun _ => 0)), .inl (0, 8, .inl (fun _ => 0)), .inl (0, 8, .inl (fun _ => 0)), .inl (3, 7, .inr (.inr (.inr (.inr (mrL [i + 8 + 1, i + 8 + 2, i + 8 + 3, i + 8 + 4, i + 8 + 5, i + 8 + 6, i + 8 + 7]))))), .inl (0, 8, .inl (fun _ => 0)), .inl (0, 8, .inl (fun _ => 0)), .inl (0, 8, .inl (fun _ => 0)), .inl (0, 8, .inl (fun _ => 0)), .inl (0, 8, .inl (fun _ => 0)), .inl (0, 8, .inl (fun _ => 0)), .inl (0, 8, .inl (fun _ => 0))]) (by rw [mr7]; exact app_sn rfl) ?_
  refine x_putf hm rfl (a_put (k := 0) (l2 := [.inr (2, [.ref (i + 1), .ref (i + 8), .null, .int 0, .int 0, .int 0, .int 0, .int 0]), .inl (3, 6, .inr (.inr (.inr (.inr (mrL [i + 1 + 1, i + 1 + 2, i + 1 + 3, i + 1 + 4, i + 1 + 5, i + 1 + 6]))))), .inl (0, 8, .inl (fun _ => 0)), .inl (0, 8, .inl (fun _ => 0)), .inl (0, 8, .inl (fun _ => 0)), .inl (0, 8, .inl (fun _ => 0)), .inl (0, 8, .inl (fun _ => 0)), .inl (0, 8, .inl (fun _ => 0)), .inl (3, 7, .inr (.inr (.inr (.inr (mrL [i + 8 + 1, i + 8 + 2, i + 8 + 3, i + 8 + 4, i + 8 + 5, i + 8 + 6, i + 8 + 7]))))), .inl (0, 8, .inl (fun _ => 0)), .inl (0, 8, .inl (fun _ => 0)), .inl (0, 8, .inl (fun _ => 0)), .inl (0, 8, .inl (fun _ => 0)), .inl (0, 8, .inl (fun _ => 0)), .inl (0, 8, .inl (fun _ => 0)), .inl (0, 8, .inl (fun _ => 0))]) hi rfl) ?_
  refine x_aload_n hm rfl rfl ?_
  refine x_bipush hm rfl (v := nI 10) (by decide) ?_
  refine x_nai hm rfl (by decide) (a_len (k := 16) hi rfl) (D2 := D0 ++ [.inr (2, [.ref (i + 1), .ref (i + 8), .null, .int 0, .int 0, .int 0, .int 0, .int 0]), .inl (3, 6, .inr (.inr (.inr (.inr (mrL [i + 1 + 1, i + 1 + 2, i + 1 + 3, i + 1 + 4, i + 1 + 5, i + 1 + 6]))))), .inl (0, 8, .inl (fun _ => 0)), .inl (0, 8, .inl (fun _ => 0)), .inl (0, 8, .inl (fun _ => 0)), .inl (0, 8, .inl (fun _ => 0)), .inl (0, 8, .inl (fun _ => 0)), .inl (0, 8, .inl (fun _ => 0)), .inl (3, 7, .inr (.inr (.inr (.inr (mrL [i + 8 + 1, i + 8 + 2, i + 8 + 3, i + 8 + 4, i + 8 + 5, i + 8 + 6, i + 8 + 7]))))), .inl (0, 8, .inl (fun _ => 0)), .inl (0, 8, .inl (fun _ => 0)), .inl (0, 8, .inl (fun _ => 0)), .inl (0, 8, .inl (fun _ => 0)), .inl (0, 8, .inl (fun _ => 0)), .inl (0, 8, .inl (fun _ => 0)), .inl (0, 8, .inl (fun _ => 0)), .inl (0, 10, .inl (fun _ => 0))]) (app_sn rfl) ?_
  refine x_putf hm rfl (a_put (k := 0) (l2 := [.inr (2, [.ref (i + 1), .ref (i + 8), .ref (i + 16), .int 0, .int 0, .int 0, .int 0, .int 0]), .inl (3, 6, .inr (.inr (.inr (.inr (mrL [i + 1 + 1, i + 1 + 2, i + 1 + 3, i + 1 + 4, i + 1 + 5, i + 1 + 6]))))), .inl (0, 8, .inl (fun _ => 0)), .inl (0, 8, .inl (fun _ => 0)), .inl (0, 8, .inl (fun _ => 0)), .inl (0, 8, .inl (fun _ => 0)), .inl (0, 8, .inl (fun _ => 0)), .inl (0, 8, .inl (fun _ => 0)), .inl (3, 7, .inr (.inr (.inr (.inr (mrL [i + 8 + 1, i + 8 + 2, i + 8 + 3, i + 8 + 4, i + 8 + 5, i + 8 + 6, i + 8 + 7]))))), .inl (0, 8, .inl (fun _ => 0)), .inl (0, 8, .inl (fun _ => 0)), .inl (0, 8, .inl (fun _ => 0)), .inl (0, 8, .inl (fun _ => 0)), .inl (0, 8, .inl (fun _ => 0)), .inl (0, 8, .inl (fun _ => 0)), .inl (0, 8, .inl (fun _ => 0)), .inl (0, 10, .inl (fun _ => 0))]) hi rfl) ?_
  refine x_aload_n hm rfl rfl ?_
  refine x_iconst hm rfl (v := nI 0) (by decide) ?_
  refine x_putf hm rfl (a_put (k := 0) (l2 := [.inr (2, [.ref (i + 1), .ref (i + 8), .ref (i + 16), .int 0, .int 0, .int 0, .int 0, .int 0]), .inl (3, 6, .inr (.inr (.inr (.inr (mrL [i + 1 + 1, i + 1 + 2, i + 1 + 3, i + 1 + 4, i + 1 + 5, i + 1 + 6]))))), .inl (0, 8, .inl (fun _ => 0)), .inl (0, 8, .inl (fun _ => 0)), .inl (0, 8, .inl (fun _ => 0)), .inl (0, 8, .inl (fun _ => 0)), .inl (0, 8, .inl (fun _ => 0)), .inl (0, 8, .inl (fun _ => 0)), .inl (3, 7, .inr (.inr (.inr (.inr (mrL [i + 8 + 1, i + 8 + 2, i + 8 + 3, i + 8 + 4, i + 8 + 5, i + 8 + 6, i + 8 + 7]))))), .inl (0, 8, .inl (fun _ => 0)), .inl (0, 8, .inl (fun _ => 0)), .inl (0, 8, .inl (fun _ => 0)), .inl (0, 8, .inl (fun _ => 0)), .inl (0, 8, .inl (fun _ => 0)), .inl (0, 8, .inl (fun _ => 0)), .inl (0, 8, .inl (fun _ => 0)), .inl (0, 10, .inl (fun _ => 0))]) hi rfl) ?_
  refine x_aload_n hm rfl rfl ?_
  refine x_iconst hm rfl (v := nI 0) (by decide) ?_
  refine x_putf hm rfl (a_put (k := 0) (l2 := [.inr (2, [.ref (i + 1), .ref (i + 8), .ref (i + 16), .int 0, .int 0, .int 0, .int 0, .int 0]), .inl (3, 6, .inr (.inr (.inr (.inr (mrL [i + 1 + 1, i + 1 + 2, i + 1 + 3, i + 1 + 4, i + 1 + 5, i + 1 + 6]))))), .inl (0, 8, .inl (fun _ => 0)), .inl (0, 8, .inl (fun _ => 0)), .inl (0, 8, .inl (fun _ => 0)), .inl (0, 8, .inl (fun _ => 0)), .inl (0, 8, .inl (fun _ => 0)), .inl (0, 8, .inl (fun _ => 0)), .inl (3, 7, .inr (.inr (.inr (.inr (mrL [i + 8 + 1, i + 8 + 2, i + 8 + 3, i + 8 + 4, i + 8 + 5, i + 8 + 6, i + 8 + 7]))))), .inl (0, 8, .inl (fun _ => 0)), .inl (0, 8, .inl (fun _ => 0)), .inl (0, 8, .inl (fun _ => 0)), .inl (0, 8, .inl (fun _ => 0)), .inl (0, 8, .inl (fun _ => 0)), .inl (0, 8, .inl (fun _ => 0)), .inl (0, 8, .inl (fun _ => 0)), .inl (0, 10, .inl (fun _ => 0))]) hi rfl) ?_
  refine x_aload_n hm rfl rfl ?_
  refine x_iconst hm rfl (v := nI 0) (by decide) ?_
  refine x_putf hm rfl (a_put (k := 0) (l2 := [.inr (2, [.ref (i + 1), .ref (i + 8), .ref (i + 16), .int 0, .int 0, .int 0, .int 0, .int 0]), .inl (3, 6, .inr (.inr (.inr (.inr (mrL [i + 1 + 1, i + 1 + 2, i + 1 + 3, i + 1 + 4, i + 1 + 5, i + 1 + 6]))))), .inl (0, 8, .inl (fun _ => 0)), .inl (0, 8, .inl (fun _ => 0)), .inl (0, 8, .inl (fun _ => 0)), .inl (0, 8, .inl (fun _ => 0)), .inl (0, 8, .inl (fun _ => 0)), .inl (0, 8, .inl (fun _ => 0)), .inl (3, 7, .inr (.inr (.inr (.inr (mrL [i + 8 + 1, i + 8 + 2, i + 8 + 3, i + 8 + 4, i + 8 + 5, i + 8 + 6, i + 8 + 7]))))), .inl (0, 8, .inl (fun _ => 0)), .inl (0, 8, .inl (fun _ => 0)), .inl (0, 8, .inl (fun _ => 0)), .inl (0, 8, .inl (fun _ => 0)), .inl (0, 8, .inl (fun _ => 0)), .inl (0, 8, .inl (fun _ => 0)), .inl (0, 8, .inl (fun _ => 0)), .inl (0, 10, .inl (fun _ => 0))]) hi rfl) ?_
  refine x_aload_n hm rfl rfl ?_
  refine x_iconst hm rfl (v := nI 1) (by decide) ?_
  refine x_putf hm rfl (a_put (k := 0) (l2 := [.inr (2, [.ref (i + 1), .ref (i + 8), .ref (i + 16), .int 0, .int 0, .int 0, .int 1, .int 0]), .inl (3, 6, .inr (.inr (.inr (.inr (mrL [i + 1 + 1, i + 1 + 2, i + 1 + 3, i + 1 + 4, i + 1 + 5, i + 1 + 6]))))), .inl (0, 8, .inl (fun _ => 0)), .inl (0, 8, .inl (fun _ => 0)), .inl (0, 8, .inl (fun _ => 0)), .inl (0, 8, .inl (fun _ => 0)), .inl (0, 8, .inl (fun _ => 0)), .inl (0, 8, .inl (fun _ => 0)), .inl (3, 7, .inr (.inr (.inr (.inr (mrL [i + 8 + 1, i + 8 + 2, i + 8 + 3, i + 8 + 4, i + 8 + 5, i + 8 + 6, i + 8 + 7]))))), .inl (0, 8, .inl (fun _ => 0)), .inl (0, 8, .inl (fun _ => 0)), .inl (0, 8, .inl (fun _ => 0)), .inl (0, 8, .inl (fun _ => 0)), .inl (0, 8, .inl (fun _ => 0)), .inl (0, 8, .inl (fun _ => 0)), .inl (0, 8, .inl (fun _ => 0)), .inl (0, 10, .inl (fun _ => 0))]) hi rfl) ?_
  refine x_aload_n hm rfl rfl ?_
  refine x_iconst hm rfl (v := (-1 : Int32)) (by decide) ?_
  refine x_putf hm rfl (a_put (k := 0) (l2 := [.inr (2, [.ref (i + 1), .ref (i + 8), .ref (i + 16), .int 0, .int 0, .int 0, .int 1, .int (-1)]), .inl (3, 6, .inr (.inr (.inr (.inr (mrL [i + 1 + 1, i + 1 + 2, i + 1 + 3, i + 1 + 4, i + 1 + 5, i + 1 + 6]))))), .inl (0, 8, .inl (fun _ => 0)), .inl (0, 8, .inl (fun _ => 0)), .inl (0, 8, .inl (fun _ => 0)), .inl (0, 8, .inl (fun _ => 0)), .inl (0, 8, .inl (fun _ => 0)), .inl (0, 8, .inl (fun _ => 0)), .inl (3, 7, .inr (.inr (.inr (.inr (mrL [i + 8 + 1, i + 8 + 2, i + 8 + 3, i + 8 + 4, i + 8 + 5, i + 8 + 6, i + 8 + 7]))))), .inl (0, 8, .inl (fun _ => 0)), .inl (0, 8, .inl (fun _ => 0)), .inl (0, 8, .inl (fun _ => 0)), .inl (0, 8, .inl (fun _ => 0)), .inl (0, 8, .inl (fun _ => 0)), .inl (0, 8, .inl (fun _ => 0)), .inl (0, 8, .inl (fun _ => 0)), .inl (0, 10, .inl (fun _ => 0))]) hi rfl) ?_
  refine x_iconst hm rfl (v := nI 0) (by decide) ?_
  refine x_istore_n hm rfl rfl ?_
  rw [spF_0]
  have h := c2l (X := X) (D := D0 ++ [.inr (2, [.ref (i + 1), .ref (i + 8), .ref (i + 16), .int 0, .int 0, .int 0, .int 1, .int (-1)]), .inl (3, 6, .inr (.inr (.inr (.inr (mrL [i + 1 + 1, i + 1 + 2, i + 1 + 3, i + 1 + 4, i + 1 + 5, i + 1 + 6]))))), .inl (0, 8, .inl (spF 0)), .inl (0, 8, .inl (spF 0)), .inl (0, 8, .inl (spF 0)), .inl (0, 8, .inl (spF 0)), .inl (0, 8, .inl (spF 0)), .inl (0, 8, .inl (spF 0)), .inl (3, 7, .inr (.inr (.inr (.inr (mrL [i + 8 + 1, i + 8 + 2, i + 8 + 3, i + 8 + 4, i + 8 + 5, i + 8 + 6, i + 8 + 7]))))), .inl (0, 8, .inl (spF 0)), .inl (0, 8, .inl (spF 0)), .inl (0, 8, .inl (spF 0)), .inl (0, 8, .inl (spF 0)), .inl (0, 8, .inl (spF 0)), .inl (0, 8, .inl (spF 0)), .inl (0, 8, .inl (spF 0)), .inl (0, 10, .inl (spF 0))]) (i := i) (c := i + 16) (fun f => by rw [app_set hi]; exact a_get (k := 0) hi rfl) (by rw [a_len (k := 17) hi rfl]; omega) 11 0 (by decide) (by decide)
  rw [app_set hi, app_set hi, ← spF_0] at h
  rw [← spF_0]
  exact h
theorem a_stq {v n m : Nat} {f : Nat → Option Nat} (hi : D0.length = i) (h : l[k]? = some (.inl (4, m, .inr (.inr (.inr (.inr f)))))) (hl : l.set k (.inl (4, m, .inr (.inr (.inr (.inr (va_up f n (some v))))))) = l2) (hn : n < m) (hm : m ≤ 1000) (h1 : 1000000 ≤ v) (h2 : v < 1000015) : mStQ (D0 ++ l) (i + k) (nI n) v = some (D0 ++ l2) := by
  unfold mStQ
  rw [app_at hi, h]
  dsimp only
  have e : mAk (D0 ++ l) 4 v = true := by
    show (Nat.ble 1000000 v && Nat.blt v 1000015) = true
    rw [Nat.ble_eq_true_of_le h1, Nat.blt_eq.mpr h2]
    rfl
  rw [e, jI_out hn hm, jI_nat (by omega), app_set hi, hl]
  rfl
theorem a_sti {n m : Nat} {f : Nat → Int32} {v : Int32} (hi : D0.length = i) (h : l[k]? = some (.inl (0, m, .inl f))) (hn : n < m) (hm : m ≤ 1000) : mStI 0 (D0 ++ l) (i + k) (nI n) v = some (D0 ++ l.set k (.inl (0, m, .inl (upd f n v)))) := by
  unfold mStI
  rw [app_at hi, h]
  dsimp only
  rw [jI_out hn hm, jI_nat (by omega), app_set hi]
  rfl
theorem kn7 : va_up (va_up (va_up (va_up (va_up (va_up (va_up (fun _ => none : Nat → Option Nat) 0 (some 1000007)) 1 (some 1000001)) 2 (some 1000002)) 3 (some 1000003)) 4 (some 1000004)) 5 (some 1000005)) 6 (some 1000006) = mrL [1000007, 1000001, 1000002, 1000003, 1000004, 1000005, 1000006] := by
  funext j
  unfold mrL
  match j with
  | 0 | 1 | 2 | 3 | 4 | 5 | 6 => rfl
  | n + 7 => rfl
def shN : Nat → Option Nat := va_up (va_up (va_up (va_up (fun _ => none) 0 (some 58)) 1 (some 60)) 2 (some 62)) 3 (some 64)
theorem sh4 : shN = mrL [58, 60, 62, 64] := by
  funext j
  unfold mrL shN
  match j with
  | 0 | 1 | 2 | 3 => rfl
  | n + 4 => rfl
noncomputable def modL (i : Nat) (f : Nat → Int32) : mHp := [.inr (4, [.ref (i + 1), .ref (i + 2), .ref (i + 3), .int 0, .ref (i + 4), .ref (i + 5), .int (-1), .ref (i + 6), .ref (i + 7), .int 0, .int 0, .int 0, .int 0, .int 0, .int 0, .ref (i + 8), .ref (i + 9), .int 0, .int 0, .int 0, .ref (i + 10), .ref (i + 11), .ref (i + 12), .ref (i + 13)]),
  .inl (0, 118, .inl f), .inl (0, 118, .inl (fun _ => 0)), .inl (0, 118, .inl (fun _ => 0)), .inl (0, 8, .inl (fun _ => 0)), .inl (0, 8, .inl (fun _ => 0)), .inl (0, 8, .inl (fun _ => 0)), .inl (0, 120, .inl (fun _ => 0)), .inl (4, 7, .inr (.inr (.inr (.inr (mrL [1000007, 1000001, 1000002, 1000003, 1000004, 1000005, 1000006]))))), .inl (0, 840, .inl (fun _ => 0)), .inl (0, 4, .inl (fun _ => 0)), .inl (0, 4, .inl (fun _ => 0)), .inl (0, 160, .inl (fun _ => 0)), .inl (0, 40, .inl (fun _ => 0))]
theorem c131l {c : Nat} (hO : ∀ f, mGet (D.set c (.inl (0, 118, .inl f))) i 4 0 = some (.ref c)) (hc : c < D.length) : ∀ (n k : Nat), 10 - k < n → k ≤ 10 → mEv X (fun r D' => r = none ∧ D' = D.set c (.inl (0, 118, .inl (nwF 10)))) 131 159 [some (.ref i), some (.int (nI k))] [] (D.set c (.inl (0, 118, .inl (nwF k)))) := by
  have hm : mMet 131 = some _ := rfl
  intro n
  induction n with
  | zero =>
    intro k hkn hkb
    omega
  | succ n ih =>
    intro k hkn hkb
    refine x_iload_n hm rfl rfl ?_
    refine x_bipush hm rfl (v := nI 10) (by decide) ?_
    refine x_icmp_ge hm rfl (t := 180) rfl (fun h1 => ?_) (fun h1 => ?_)
    · obtain rfl : k = 10 := Nat.le_antisymm hkb ((jI_le (by decide) (by omega)).mp h1)
      refine x_ret hm rfl rfl ?_
      exact ⟨rfl, rfl⟩
    · have hk : k < 10 := Nat.lt_of_not_le fun h => h1 (nI_le h (by omega))
      refine x_aload_n hm rfl rfl ?_
      refine x_getf hm rfl (hO _) ?_
      refine x_iconst hm rfl (v := nI 4) (by decide) ?_
      refine x_iload_n hm rfl rfl ?_
      refine x_iadd hm rfl ?_
      rw [jI_add]
      refine x_iconst hm rfl (v := (-1 : Int32)) (by decide) ?_
      refine x_iast hm rfl (st_set hc (by omega) (by decide)) ?_
      rw [nwF_s]
      refine x_iinc hm rfl rfl (v := nI 1) (by decide) rfl ?_
      rw [jI_add]
      refine x_goto hm rfl (t := 159) rfl ?_
      exact ih (k + 1) (by omega) (by omega)
theorem c131 (hi : D0.length = i) : mT X 131 [.ref i] (D0 ++ [.inr (4, mDf 4)]) none (D0 ++ modL i (nwF 10)) := by
  refine mT.of (row := _) rfl (Nat.le_of_ble_eq_true rfl) ?_
  have hm : mMet 131 = some _ := rfl
  refine x_aload_n hm rfl rfl ?_
  refine x_libI hm rfl rfl ?_
  dsimp only
  refine x_aload_n hm rfl rfl ?_
  refine x_bipush hm rfl (v := nI 118) (by decide) ?_
  refine x_nai hm rfl (by decide) (a_len (k := 1) hi rfl) (D2 := D0 ++ [.inr (4, [.null, .null, .null, .int 0, .null, .null, .int 0, .null, .null, .int 0, .int 0, .int 0, .int 0, .int 0, .int 0, .null, .null, .int 0, .int 0, .int 0, .null, .null, .null, .null]), .inl (0, 118, .inl (fun _ => 0))]) (app_sn rfl) ?_
  refine x_putf hm rfl (a_put (k := 0) (l2 := [.inr (4, [.ref (i + 1), .null, .null, .int 0, .null, .null, .int 0, .null, .null, .int 0, .int 0, .int 0, .int 0, .int 0, .int 0, .null, .null, .int 0, .int 0, .int 0, .null, .null, .null, .null]), .inl (0, 118, .inl (fun _ => 0))]) hi rfl) ?_
  refine x_aload_n hm rfl rfl ?_
  refine x_bipush hm rfl (v := nI 118) (by decide) ?_
  refine x_nai hm rfl (by decide) (a_len (k := 2) hi rfl) (D2 := D0 ++ [.inr (4, [.ref (i + 1), .null, .null, .int 0, .null, .null, .int 0, .null, .null, .int 0, .int 0, .int 0, .int 0, .int 0, .int 0, .null, .null, .int 0, .int 0, .int 0, .null, .null, .null, .null]), .inl (0, 118, .inl (fun _ => 0)), .inl (0, 118, .inl (fun _ => 0))]) (app_sn rfl) ?_
  refine x_putf hm rfl (a_put (k := 0) (l2 := [.inr (4, [.ref (i + 1), .ref (i + 2), .null, .int 0, .null, .null, .int 0, .null, .null, .int 0, .int 0, .int 0, .int 0, .int 0, .int 0, .null, .null, .int 0, .int 0, .int 0, .null, .null, .null, .null]), .inl (0, 118, .inl (fun _ => 0)), .inl (0, 118, .inl (fun _ => 0))]) hi rfl) ?_
  refine x_aload_n hm rfl rfl ?_
  refine x_bipush hm rfl (v := nI 118) (by decide) ?_
  refine x_nai hm rfl (by decide) (a_len (k := 3) hi rfl) (D2 := D0 ++ [.inr (4, [.ref (i + 1), .ref (i + 2), .null, .int 0, .null, .null, .int 0, .null, .null, .int 0, .int 0, .int 0, .int 0, .int 0, .int 0, .null, .null, .int 0, .int 0, .int 0, .null, .null, .null, .null]), .inl (0, 118, .inl (fun _ => 0)), .inl (0, 118, .inl (fun _ => 0)), .inl (0, 118, .inl (fun _ => 0))]) (app_sn rfl) ?_
  refine x_putf hm rfl (a_put (k := 0) (l2 := [.inr (4, [.ref (i + 1), .ref (i + 2), .ref (i + 3), .int 0, .null, .null, .int 0, .null, .null, .int 0, .int 0, .int 0, .int 0, .int 0, .int 0, .null, .null, .int 0, .int 0, .int 0, .null, .null, .null, .null]), .inl (0, 118, .inl (fun _ => 0)), .inl (0, 118, .inl (fun _ => 0)), .inl (0, 118, .inl (fun _ => 0))]) hi rfl) ?_
  refine x_aload_n hm rfl rfl ?_
  refine x_bipush hm rfl (v := nI 8) (by decide) ?_
  refine x_nai hm rfl (by decide) (a_len (k := 4) hi rfl) (D2 := D0 ++ [.inr (4, [.ref (i + 1), .ref (i + 2), .ref (i + 3), .int 0, .null, .null, .int 0, .null, .null, .int 0, .int 0, .int 0, .int 0, .int 0, .int 0, .null, .null, .int 0, .int 0, .int 0, .null, .null, .null, .null]), .inl (0, 118, .inl (fun _ => 0)), .inl (0, 118, .inl (fun _ => 0)), .inl (0, 118, .inl (fun _ => 0)), .inl (0, 8, .inl (fun _ => 0))]) (app_sn rfl) ?_
  refine x_putf hm rfl (a_put (k := 0) (l2 := [.inr (4, [.ref (i + 1), .ref (i + 2), .ref (i + 3), .int 0, .ref (i + 4), .null, .int 0, .null, .null, .int 0, .int 0, .int 0, .int 0, .int 0, .int 0, .null, .null, .int 0, .int 0, .int 0, .null, .null, .null, .null]), .inl (0, 118, .inl (fun _ => 0)), .inl (0, 118, .inl (fun _ => 0)), .inl (0, 118, .inl (fun _ => 0)), .inl (0, 8, .inl (fun _ => 0))]) hi rfl) ?_
  refine x_aload_n hm rfl rfl ?_
  refine x_bipush hm rfl (v := nI 8) (by decide) ?_
  refine x_nai hm rfl (by decide) (a_len (k := 5) hi rfl) (D2 := D0 ++ [.inr (4, [.ref (i + 1), .ref (i + 2), .ref (i + 3), .int 0, .ref (i + 4), .null, .int 0, .null, .null, .int 0, .int 0, .int 0, .int 0, .int 0, .int 0, .null, .null, .int 0, .int 0, .int 0, .null, .null, .null, .null]), .inl (0, 118, .inl (fun _ => 0)), .inl (0, 118, .inl (fun _ => 0)), .inl (0, 118, .inl (fun _ => 0)), .inl (0, 8, .inl (fun _ => 0)), .inl (0, 8, .inl (fun _ => 0))]) (app_sn rfl) ?_
  refine x_putf hm rfl (a_put (k := 0) (l2 := [.inr (4, [.ref (i + 1), .ref (i + 2), .ref (i + 3), .int 0, .ref (i + 4), .ref (i + 5), .int 0, .null, .null, .int 0, .int 0, .int 0, .int 0, .int 0, .int 0, .null, .null, .int 0, .int 0, .int 0, .null, .null, .null, .null]), .inl (0, 118, .inl (fun _ => 0)), .inl (0, 118, .inl (fun _ => 0)), .inl (0, 118, .inl (fun _ => 0)), .inl (0, 8, .inl (fun _ => 0)), .inl (0, 8, .inl (fun _ => 0))]) hi rfl) ?_
  refine x_aload_n hm rfl rfl ?_
  refine x_iconst hm rfl (v := (-1 : Int32)) (by decide) ?_
  refine x_putf hm rfl (a_put (k := 0) (l2 := [.inr (4, [.ref (i + 1), .ref (i + 2), .ref (i + 3), .int 0, .ref (i + 4), .ref (i + 5), .int (-1), .null, .null, .int 0, .int 0, .int 0, .int 0, .int 0, .int 0, .null, .null, .int 0, .int 0, .int 0, .null, .null, .null, .null]), .inl (0, 118, .inl (fun _ => 0)), .inl (0, 118, .inl (fun _ => 0)), .inl (0, 118, .inl (fun _ => 0)), .inl (0, 8, .inl (fun _ => 0)), .inl (0, 8, .inl (fun _ => 0))]) hi rfl) ?_
  refine x_aload_n hm rfl rfl ?_
  refine x_bipush hm rfl (v := nI 8) (by decide) ?_
  refine x_nai hm rfl (by decide) (a_len (k := 6) hi rfl) (D2 := D0 ++ [.inr (4, [.ref (i + 1), .ref (i + 2), .ref (i + 3), .int 0, .ref (i + 4), .ref (i + 5), .int (-1), .null, .null, .int 0, .int 0, .int 0, .int 0, .int 0, .int 0, .null, .null, .int 0, .int 0, .int 0, .null, .null, .null, .null]), .inl (0, 118, .inl (fun _ => 0)), .inl (0, 118, .inl (fun _ => 0)), .inl (0, 118, .inl (fun _ => 0)), .inl (0, 8, .inl (fun _ => 0)), .inl (0, 8, .inl (fun _ => 0)), .inl (0, 8, .inl (fun _ => 0))]) (app_sn rfl) ?_
  refine x_putf hm rfl (a_put (k := 0) (l2 := [.inr (4, [.ref (i + 1), .ref (i + 2), .ref (i + 3), .int 0, .ref (i + 4), .ref (i + 5), .int (-1), .ref (i + 6), .null, .int 0, .int 0, .int 0, .int 0, .int 0, .int 0, .null, .null, .int 0, .int 0, .int 0, .null, .null, .null, .null]), .inl (0, 118, .inl (fun _ => 0)), .inl (0, 118, .inl (fun _ => 0)), .inl (0, 118, .inl (fun _ => 0)), .inl (0, 8, .inl (fun _ => 0)), .inl (0, 8, .inl (fun _ => 0)), .inl (0, 8, .inl (fun _ => 0))]) hi rfl) ?_
  refine x_aload_n hm rfl rfl ?_
  refine x_bipush hm rfl (v := nI 120) (by decide) ?_
  refine x_nai hm rfl (by decide) (a_len (k := 7) hi rfl) (D2 := D0 ++ [.inr (4, [.ref (i + 1), .ref (i + 2), .ref (i + 3), .int 0, .ref (i + 4), .ref (i + 5), .int (-1), .ref (i + 6), .null, .int 0, .int 0, .int 0, .int 0, .int 0, .int 0, .null, .null, .int 0, .int 0, .int 0, .null, .null, .null, .null]), .inl (0, 118, .inl (fun _ => 0)), .inl (0, 118, .inl (fun _ => 0)), .inl (0, 118, .inl (fun _ => 0)), .inl (0, 8, .inl (fun _ => 0)), .inl (0, 8, .inl (fun _ => 0)), .inl (0, 8, .inl (fun _ => 0)), .inl (0, 120, .inl (fun _ => 0))]) (app_sn rfl) ?_
  refine x_putf hm rfl (a_put (k := 0) (l2 := [.inr (4, [.ref (i + 1), .ref (i + 2), .ref (i + 3), .int 0, .ref (i + 4), .ref (i + 5), .int (-1), .ref (i + 6), .ref (i + 7), .int 0, .int 0, .int 0, .int 0, .int 0, .int 0, .null, .null, .int 0, .int 0, .int 0, .null, .null, .null, .null]), .inl (0, 118, .inl (fun _ => 0)), .inl (0, 118, .inl (fun _ => 0)), .inl (0, 118, .inl (fun _ => 0)), .inl (0, 8, .inl (fun _ => 0)), .inl (0, 8, .inl (fun _ => 0)), .inl (0, 8, .inl (fun _ => 0)), .inl (0, 120, .inl (fun _ => 0))]) hi rfl) ?_
  refine x_aload_n hm rfl rfl ?_
  refine x_bipush hm rfl (v := nI 7) (by decide) ?_
  refine x_ana hm rfl (by decide) (a_len (k := 8) hi rfl) (D2 := D0 ++ [.inr (4, [.ref (i + 1), .ref (i + 2), .ref (i + 3), .int 0, .ref (i + 4), .ref (i + 5), .int (-1), .ref (i + 6), .ref (i + 7), .int 0, .int 0, .int 0, .int 0, .int 0, .int 0, .null, .null, .int 0, .int 0, .int 0, .null, .null, .null, .null]), .inl (0, 118, .inl (fun _ => 0)), .inl (0, 118, .inl (fun _ => 0)), .inl (0, 118, .inl (fun _ => 0)), .inl (0, 8, .inl (fun _ => 0)), .inl (0, 8, .inl (fun _ => 0)), .inl (0, 8, .inl (fun _ => 0)), .inl (0, 120, .inl (fun _ => 0)), .inl (4, 7, .inr (.inr (.inr (.inr (fun _ => none)))))]) (app_sn rfl) ?_
  refine x_dup hm rfl rfl ?_
  refine x_iconst hm rfl (v := nI 0) (by decide) ?_
  refine x_ldcS hm rfl ?_
  refine x_aast hm rfl (a_stq (k := 8) (l2 := [.inr (4, [.ref (i + 1), .ref (i + 2), .ref (i + 3), .int 0, .ref (i + 4), .ref (i + 5), .int (-1), .ref (i + 6), .ref (i + 7), .int 0, .int 0, .int 0, .int 0, .int 0, .int 0, .null, .null, .int 0, .int 0, .int 0, .null, .null, .null, .null]), .inl (0, 118, .inl (fun _ => 0)), .inl (0, 118, .inl (fun _ => 0)), .inl (0, 118, .inl (fun _ => 0)), .inl (0, 8, .inl (fun _ => 0)), .inl (0, 8, .inl (fun _ => 0)), .inl (0, 8, .inl (fun _ => 0)), .inl (0, 120, .inl (fun _ => 0)), .inl (4, 7, .inr (.inr (.inr (.inr (va_up (fun _ => none) 0 (some 1000007))))))]) hi rfl rfl (by decide) (by decide) (by decide) (by decide)) ?_
  refine x_dup hm rfl rfl ?_
  refine x_iconst hm rfl (v := nI 1) (by decide) ?_
  refine x_ldcS hm rfl ?_
  refine x_aast hm rfl (a_stq (k := 8) (l2 := [.inr (4, [.ref (i + 1), .ref (i + 2), .ref (i + 3), .int 0, .ref (i + 4), .ref (i + 5), .int (-1), .ref (i + 6), .ref (i + 7), .int 0, .int 0, .int 0, .int 0, .int 0, .int 0, .null, .null, .int 0, .int 0, .int 0, .null, .null, .null, .null]), .inl (0, 118, .inl (fun _ => 0)), .inl (0, 118, .inl (fun _ => 0)), .inl (0, 118, .inl (fun _ => 0)), .inl (0, 8, .inl (fun _ => 0)), .inl (0, 8, .inl (fun _ => 0)), .inl (0, 8, .inl (fun _ => 0)), .inl (0, 120, .inl (fun _ => 0)), .inl (4, 7, .inr (.inr (.inr (.inr (va_up (va_up (fun _ => none) 0 (some 1000007)) 1 (some 1000001))))))]) hi rfl rfl (by decide) (by decide) (by decide) (by decide)) ?_
  refine x_dup hm rfl rfl ?_
  refine x_iconst hm rfl (v := nI 2) (by decide) ?_
  refine x_ldcS hm rfl ?_
  refine x_aast hm rfl (a_stq (k := 8) (l2 := [.inr (4, [.ref (i + 1), .ref (i + 2), .ref (i + 3), .int 0, .ref (i + 4), .ref (i + 5), .int (-1), .ref (i + 6), .ref (i + 7), .int 0, .int 0, .int 0, .int 0, .int 0, .int 0, .null, .null, .int 0, .int 0, .int 0, .null, .null, .null, .null]), .inl (0, 118, .inl (fun _ => 0)), .inl (0, 118, .inl (fun _ => 0)), .inl (0, 118, .inl (fun _ => 0)), .inl (0, 8, .inl (fun _ => 0)), .inl (0, 8, .inl (fun _ => 0)), .inl (0, 8, .inl (fun _ => 0)), .inl (0, 120, .inl (fun _ => 0)), .inl (4, 7, .inr (.inr (.inr (.inr (va_up (va_up (va_up (fun _ => none) 0 (some 1000007)) 1 (some 1000001)) 2 (some 1000002))))))]) hi rfl rfl (by decide) (by decide) (by decide) (by decide)) ?_
  refine x_dup hm rfl rfl ?_
  refine x_iconst hm rfl (v := nI 3) (by decide) ?_
  refine x_ldcS hm rfl ?_
  refine x_aast hm rfl (a_stq (k := 8) (l2 := [.inr (4, [.ref (i + 1), .ref (i + 2), .ref (i + 3), .int 0, .ref (i + 4), .ref (i + 5), .int (-1), .ref (i + 6), .ref (i + 7), .int 0, .int 0, .int 0, .int 0, .int 0, .int 0, .null, .null, .int 0, .int 0, .int 0, .null, .null, .null, .null]), .inl (0, 118, .inl (fun _ => 0)), .inl (0, 118, .inl (fun _ => 0)), .inl (0, 118, .inl (fun _ => 0)), .inl (0, 8, .inl (fun _ => 0)), .inl (0, 8, .inl (fun _ => 0)), .inl (0, 8, .inl (fun _ => 0)), .inl (0, 120, .inl (fun _ => 0)), .inl (4, 7, .inr (.inr (.inr (.inr (va_up (va_up (va_up (va_up (fun _ => none) 0 (some 1000007)) 1 (some 1000001)) 2 (some 1000002)) 3 (some 1000003))))))]) hi rfl rfl (by decide) (by decide) (by decide) (by decide)) ?_
  refine x_dup hm rfl rfl ?_
  refine x_iconst hm rfl (v := nI 4) (by decide) ?_
  refine x_ldcS hm rfl ?_
  refine x_aast hm rfl (a_stq (k := 8) (l2 := [.inr (4, [.ref (i + 1), .ref (i + 2), .ref (i + 3), .int 0, .ref (i + 4), .ref (i + 5), .int (-1), .ref (i + 6), .ref (i + 7), .int 0, .int 0, .int 0, .int 0, .int 0, .int 0, .null, .null, .int 0, .int 0, .int 0, .null, .null, .null, .null]), .inl (0, 118, .inl (fun _ => 0)), .inl (0, 118, .inl (fun _ => 0)), .inl (0, 118, .inl (fun _ => 0)), .inl (0, 8, .inl (fun _ => 0)), .inl (0, 8, .inl (fun _ => 0)), .inl (0, 8, .inl (fun _ => 0)), .inl (0, 120, .inl (fun _ => 0)), .inl (4, 7, .inr (.inr (.inr (.inr (va_up (va_up (va_up (va_up (va_up (fun _ => none) 0 (some 1000007)) 1 (some 1000001)) 2 (some 1000002)) 3 (some 1000003)) 4 (some 1000004))))))]) hi rfl rfl (by decide) (by decide) (by decide) (by decide)) ?_
  refine x_dup hm rfl rfl ?_
  refine x_iconst hm rfl (v := nI 5) (by decide) ?_
  refine x_ldcS hm rfl ?_
  refine x_aast hm rfl (a_stq (k := 8) (l2 := [.inr (4, [.ref (i + 1), .ref (i + 2), .ref (i + 3), .int 0, .ref (i + 4), .ref (i + 5), .int (-1), .ref (i + 6), .ref (i + 7), .int 0, .int 0, .int 0, .int 0, .int 0, .int 0, .null, .null, .int 0, .int 0, .int 0, .null, .null, .null, .null]), .inl (0, 118, .inl (fun _ => 0)), .inl (0, 118, .inl (fun _ => 0)), .inl (0, 118, .inl (fun _ => 0)), .inl (0, 8, .inl (fun _ => 0)), .inl (0, 8, .inl (fun _ => 0)), .inl (0, 8, .inl (fun _ => 0)), .inl (0, 120, .inl (fun _ => 0)), .inl (4, 7, .inr (.inr (.inr (.inr (va_up (va_up (va_up (va_up (va_up (va_up (fun _ => none) 0 (some 1000007)) 1 (some 1000001)) 2 (some 1000002)) 3 (some 1000003)) 4 (some 1000004)) 5 (some 1000005))))))]) hi rfl rfl (by decide) (by decide) (by decide) (by decide)) ?_
  refine x_dup hm rfl rfl ?_
  refine x_bipush hm rfl (v := nI 6) (by decide) ?_
  refine x_ldcS hm rfl ?_
  refine x_aast hm rfl (a_stq (k := 8) (l2 := [.inr (4, [.ref (i + 1), .ref (i + 2), .ref (i + 3), .int 0, .ref (i + 4), .ref (i + 5), .int (-1), .ref (i + 6), .ref (i + 7), .int 0, .int 0, .int 0, .int 0, .int 0, .int 0, .null, .null, .int 0, .int 0, .int 0, .null, .null, .null, .null]), .inl (0, 118, .inl (fun _ => 0)), .inl (0, 118, .inl (fun _ => 0)), .inl (0, 118, .inl (fun _ => 0)), .inl (0, 8, .inl (fun _ => 0)), .inl (0, 8, .inl (fun _ => 0)), .inl (0, 8, .inl (fun _ => 0)), .inl (0, 120, .inl (fun _ => 0)), .inl (4, 7, .inr (.inr (.inr (.inr (va_up (va_up (va_up (va_up (va_up (va_up (va_up (fun _ => none) 0 (some 1000007)) 1 (some 1000001)) 2 (some 1000002)) 3 (some 1000003)) 4 (some 1000004)) 5 (some 1000005)) 6 (some 1000006))))))]) hi rfl rfl (by decide) (by decide) (by decide) (by decide)) ?_
  refine x_putf hm rfl (a_put (k := 0) (l2 := [.inr (4, [.ref (i + 1), .ref (i + 2), .ref (i + 3), .int 0, .ref (i + 4), .ref (i + 5), .int (-1), .ref (i + 6), .ref (i + 7), .int 0, .int 0, .int 0, .int 0, .int 0, .int 0, .ref (i + 8), .null, .int 0, .int 0, .int 0, .null, .null, .null, .null]), .inl (0, 118, .inl (fun _ => 0)), .inl (0, 118, .inl (fun _ => 0)), .inl (0, 118, .inl (fun _ => 0)), .inl (0, 8, .inl (fun _ => 0)), .inl (0, 8, .inl (fun _ => 0)), .inl (0, 8, .inl (fun _ => 0)), .inl (0, 120, .inl (fun _ => 0)), .inl (4, 7, .inr (.inr (.inr (.inr (va_up (va_up (va_up (va_up (va_up (va_up (va_up (fun _ => none) 0 (some 1000007)) 1 (some 1000001)) 2 (some 1000002)) 3 (some 1000003)) 4 (some 1000004)) 5 (some 1000005)) 6 (some 1000006))))))]) hi rfl) ?_
  refine x_aload_n hm rfl rfl ?_
  refine x_sipush hm rfl (v := nI 840) (by decide) ?_
  refine x_nai hm rfl (by decide) (a_len (k := 9) hi rfl) (D2 := D0 ++ [.inr (4, [.ref (i + 1), .ref (i + 2), .ref (i + 3), .int 0, .ref (i + 4), .ref (i + 5), .int (-1), .ref (i + 6), .ref (i + 7), .int 0, .int 0, .int 0, .int 0, .int 0, .int 0, .ref (i + 8), .null, .int 0, .int 0, .int 0, .null, .null, .null, .null]), .inl (0, 118, .inl (fun _ => 0)), .inl (0, 118, .inl (fun _ => 0)), .inl (0, 118, .inl (fun _ => 0)), .inl (0, 8, .inl (fun _ => 0)), .inl (0, 8, .inl (fun _ => 0)), .inl (0, 8, .inl (fun _ => 0)), .inl (0, 120, .inl (fun _ => 0)), .inl (4, 7, .inr (.inr (.inr (.inr (va_up (va_up (va_up (va_up (va_up (va_up (va_up (fun _ => none) 0 (some 1000007)) 1 (some 1000001)) 2 (some 1000002)) 3 (some 1000003)) 4 (some 1000004)) 5 (some 1000005)) 6 (some 1000006)))))), .inl (0, 840, .inl (fun _ => 0))]) (app_sn rfl) ?_
  refine x_putf hm rfl (a_put (k := 0) (l2 := [.inr (4, [.ref (i + 1), .ref (i + 2), .ref (i + 3), .int 0, .ref (i + 4), .ref (i + 5), .int (-1), .ref (i + 6), .ref (i + 7), .int 0, .int 0, .int 0, .int 0, .int 0, .int 0, .ref (i + 8), .ref (i + 9), .int 0, .int 0, .int 0, .null, .null, .null, .null]), .inl (0, 118, .inl (fun _ => 0)), .inl (0, 118, .inl (fun _ => 0)), .inl (0, 118, .inl (fun _ => 0)), .inl (0, 8, .inl (fun _ => 0)), .inl (0, 8, .inl (fun _ => 0)), .inl (0, 8, .inl (fun _ => 0)), .inl (0, 120, .inl (fun _ => 0)), .inl (4, 7, .inr (.inr (.inr (.inr (va_up (va_up (va_up (va_up (va_up (va_up (va_up (fun _ => none) 0 (some 1000007)) 1 (some 1000001)) 2 (some 1000002)) 3 (some 1000003)) 4 (some 1000004)) 5 (some 1000005)) 6 (some 1000006)))))), .inl (0, 840, .inl (fun _ => 0))]) hi rfl) ?_
  refine x_aload_n hm rfl rfl ?_
  refine x_iconst hm rfl (v := nI 4) (by decide) ?_
  refine x_nai hm rfl (by decide) (a_len (k := 10) hi rfl) (D2 := D0 ++ [.inr (4, [.ref (i + 1), .ref (i + 2), .ref (i + 3), .int 0, .ref (i + 4), .ref (i + 5), .int (-1), .ref (i + 6), .ref (i + 7), .int 0, .int 0, .int 0, .int 0, .int 0, .int 0, .ref (i + 8), .ref (i + 9), .int 0, .int 0, .int 0, .null, .null, .null, .null]), .inl (0, 118, .inl (fun _ => 0)), .inl (0, 118, .inl (fun _ => 0)), .inl (0, 118, .inl (fun _ => 0)), .inl (0, 8, .inl (fun _ => 0)), .inl (0, 8, .inl (fun _ => 0)), .inl (0, 8, .inl (fun _ => 0)), .inl (0, 120, .inl (fun _ => 0)), .inl (4, 7, .inr (.inr (.inr (.inr (va_up (va_up (va_up (va_up (va_up (va_up (va_up (fun _ => none) 0 (some 1000007)) 1 (some 1000001)) 2 (some 1000002)) 3 (some 1000003)) 4 (some 1000004)) 5 (some 1000005)) 6 (some 1000006)))))), .inl (0, 840, .inl (fun _ => 0)), .inl (0, 4, .inl (fun _ => 0))]) (app_sn rfl) ?_
  refine x_putf hm rfl (a_put (k := 0) (l2 := [.inr (4, [.ref (i + 1), .ref (i + 2), .ref (i + 3), .int 0, .ref (i + 4), .ref (i + 5), .int (-1), .ref (i + 6), .ref (i + 7), .int 0, .int 0, .int 0, .int 0, .int 0, .int 0, .ref (i + 8), .ref (i + 9), .int 0, .int 0, .int 0, .ref (i + 10), .null, .null, .null]), .inl (0, 118, .inl (fun _ => 0)), .inl (0, 118, .inl (fun _ => 0)), .inl (0, 118, .inl (fun _ => 0)), .inl (0, 8, .inl (fun _ => 0)), .inl (0, 8, .inl (fun _ => 0)), .inl (0, 8, .inl (fun _ => 0)), .inl (0, 120, .inl (fun _ => 0)), .inl (4, 7, .inr (.inr (.inr (.inr (va_up (va_up (va_up (va_up (va_up (va_up (va_up (fun _ => none) 0 (some 1000007)) 1 (some 1000001)) 2 (some 1000002)) 3 (some 1000003)) 4 (some 1000004)) 5 (some 1000005)) 6 (some 1000006)))))), .inl (0, 840, .inl (fun _ => 0)), .inl (0, 4, .inl (fun _ => 0))]) hi rfl) ?_
  refine x_aload_n hm rfl rfl ?_
  refine x_iconst hm rfl (v := nI 4) (by decide) ?_
  refine x_nai hm rfl (by decide) (a_len (k := 11) hi rfl) (D2 := D0 ++ [.inr (4, [.ref (i + 1), .ref (i + 2), .ref (i + 3), .int 0, .ref (i + 4), .ref (i + 5), .int (-1), .ref (i + 6), .ref (i + 7), .int 0, .int 0, .int 0, .int 0, .int 0, .int 0, .ref (i + 8), .ref (i + 9), .int 0, .int 0, .int 0, .ref (i + 10), .null, .null, .null]), .inl (0, 118, .inl (fun _ => 0)), .inl (0, 118, .inl (fun _ => 0)), .inl (0, 118, .inl (fun _ => 0)), .inl (0, 8, .inl (fun _ => 0)), .inl (0, 8, .inl (fun _ => 0)), .inl (0, 8, .inl (fun _ => 0)), .inl (0, 120, .inl (fun _ => 0)), .inl (4, 7, .inr (.inr (.inr (.inr (va_up (va_up (va_up (va_up (va_up (va_up (va_up (fun _ => none) 0 (some 1000007)) 1 (some 1000001)) 2 (some 1000002)) 3 (some 1000003)) 4 (some 1000004)) 5 (some 1000005)) 6 (some 1000006)))))), .inl (0, 840, .inl (fun _ => 0)), .inl (0, 4, .inl (fun _ => 0)), .inl (0, 4, .inl (fun _ => 0))]) (app_sn rfl) ?_
  refine x_putf hm rfl (a_put (k := 0) (l2 := [.inr (4, [.ref (i + 1), .ref (i + 2), .ref (i + 3), .int 0, .ref (i + 4), .ref (i + 5), .int (-1), .ref (i + 6), .ref (i + 7), .int 0, .int 0, .int 0, .int 0, .int 0, .int 0, .ref (i + 8), .ref (i + 9), .int 0, .int 0, .int 0, .ref (i + 10), .ref (i + 11), .null, .null]), .inl (0, 118, .inl (fun _ => 0)), .inl (0, 118, .inl (fun _ => 0)), .inl (0, 118, .inl (fun _ => 0)), .inl (0, 8, .inl (fun _ => 0)), .inl (0, 8, .inl (fun _ => 0)), .inl (0, 8, .inl (fun _ => 0)), .inl (0, 120, .inl (fun _ => 0)), .inl (4, 7, .inr (.inr (.inr (.inr (va_up (va_up (va_up (va_up (va_up (va_up (va_up (fun _ => none) 0 (some 1000007)) 1 (some 1000001)) 2 (some 1000002)) 3 (some 1000003)) 4 (some 1000004)) 5 (some 1000005)) 6 (some 1000006)))))), .inl (0, 840, .inl (fun _ => 0)), .inl (0, 4, .inl (fun _ => 0)), .inl (0, 4, .inl (fun _ => 0))]) hi rfl) ?_
  refine x_aload_n hm rfl rfl ?_
  refine x_sipush hm rfl (v := nI 160) (by decide) ?_
  refine x_nai hm rfl (by decide) (a_len (k := 12) hi rfl) (D2 := D0 ++ [.inr (4, [.ref (i + 1), .ref (i + 2), .ref (i + 3), .int 0, .ref (i + 4), .ref (i + 5), .int (-1), .ref (i + 6), .ref (i + 7), .int 0, .int 0, .int 0, .int 0, .int 0, .int 0, .ref (i + 8), .ref (i + 9), .int 0, .int 0, .int 0, .ref (i + 10), .ref (i + 11), .null, .null]), .inl (0, 118, .inl (fun _ => 0)), .inl (0, 118, .inl (fun _ => 0)), .inl (0, 118, .inl (fun _ => 0)), .inl (0, 8, .inl (fun _ => 0)), .inl (0, 8, .inl (fun _ => 0)), .inl (0, 8, .inl (fun _ => 0)), .inl (0, 120, .inl (fun _ => 0)), .inl (4, 7, .inr (.inr (.inr (.inr (va_up (va_up (va_up (va_up (va_up (va_up (va_up (fun _ => none) 0 (some 1000007)) 1 (some 1000001)) 2 (some 1000002)) 3 (some 1000003)) 4 (some 1000004)) 5 (some 1000005)) 6 (some 1000006)))))), .inl (0, 840, .inl (fun _ => 0)), .inl (0, 4, .inl (fun _ => 0)), .inl (0, 4, .inl (fun _ => 0)), .inl (0, 160, .inl (fun _ => 0))]) (app_sn rfl) ?_
  refine x_putf hm rfl (a_put (k := 0) (l2 := [.inr (4, [.ref (i + 1), .ref (i + 2), .ref (i + 3), .int 0, .ref (i + 4), .ref (i + 5), .int (-1), .ref (i + 6), .ref (i + 7), .int 0, .int 0, .int 0, .int 0, .int 0, .int 0, .ref (i + 8), .ref (i + 9), .int 0, .int 0, .int 0, .ref (i + 10), .ref (i + 11), .ref (i + 12), .null]), .inl (0, 118, .inl (fun _ => 0)), .inl (0, 118, .inl (fun _ => 0)), .inl (0, 118, .inl (fun _ => 0)), .inl (0, 8, .inl (fun _ => 0)), .inl (0, 8, .inl (fun _ => 0)), .inl (0, 8, .inl (fun _ => 0)), .inl (0, 120, .inl (fun _ => 0)), .inl (4, 7, .inr (.inr (.inr (.inr (va_up (va_up (va_up (va_up (va_up (va_up (va_up (fun _ => none) 0 (some 1000007)) 1 (some 1000001)) 2 (some 1000002)) 3 (some 1000003)) 4 (some 1000004)) 5 (some 1000005)) 6 (some 1000006)))))), .inl (0, 840, .inl (fun _ => 0)), .inl (0, 4, .inl (fun _ => 0)), .inl (0, 4, .inl (fun _ => 0)), .inl (0, 160, .inl (fun _ => 0))]) hi rfl) ?_
  refine x_aload_n hm rfl rfl ?_
  refine x_bipush hm rfl (v := nI 40) (by decide) ?_
  refine x_nai hm rfl (by decide) (a_len (k := 13) hi rfl) (D2 := D0 ++ [.inr (4, [.ref (i + 1), .ref (i + 2), .ref (i + 3), .int 0, .ref (i + 4), .ref (i + 5), .int (-1), .ref (i + 6), .ref (i + 7), .int 0, .int 0, .int 0, .int 0, .int 0, .int 0, .ref (i + 8), .ref (i + 9), .int 0, .int 0, .int 0, .ref (i + 10), .ref (i + 11), .ref (i + 12), .null]), .inl (0, 118, .inl (fun _ => 0)), .inl (0, 118, .inl (fun _ => 0)), .inl (0, 118, .inl (fun _ => 0)), .inl (0, 8, .inl (fun _ => 0)), .inl (0, 8, .inl (fun _ => 0)), .inl (0, 8, .inl (fun _ => 0)), .inl (0, 120, .inl (fun _ => 0)), .inl (4, 7, .inr (.inr (.inr (.inr (va_up (va_up (va_up (va_up (va_up (va_up (va_up (fun _ => none) 0 (some 1000007)) 1 (some 1000001)) 2 (some 1000002)) 3 (some 1000003)) 4 (some 1000004)) 5 (some 1000005)) 6 (some 1000006)))))), .inl (0, 840, .inl (fun _ => 0)), .inl (0, 4, .inl (fun _ => 0)), .inl (0, 4, .inl (fun _ => 0)), .inl (0, 160, .inl (fun _ => 0)), .inl (0, 40, .inl (fun _ => 0))]) (app_sn rfl) ?_
  refine x_putf hm rfl (a_put (k := 0) (l2 := [.inr (4, [.ref (i + 1), .ref (i + 2), .ref (i + 3), .int 0, .ref (i + 4), .ref (i + 5), .int (-1), .ref (i + 6), .ref (i + 7), .int 0, .int 0, .int 0, .int 0, .int 0, .int 0, .ref (i + 8), .ref (i + 9), .int 0, .int 0, .int 0, .ref (i + 10), .ref (i + 11), .ref (i + 12), .ref (i + 13)]), .inl (0, 118, .inl (fun _ => 0)), .inl (0, 118, .inl (fun _ => 0)), .inl (0, 118, .inl (fun _ => 0)), .inl (0, 8, .inl (fun _ => 0)), .inl (0, 8, .inl (fun _ => 0)), .inl (0, 8, .inl (fun _ => 0)), .inl (0, 120, .inl (fun _ => 0)), .inl (4, 7, .inr (.inr (.inr (.inr (va_up (va_up (va_up (va_up (va_up (va_up (va_up (fun _ => none) 0 (some 1000007)) 1 (some 1000001)) 2 (some 1000002)) 3 (some 1000003)) 4 (some 1000004)) 5 (some 1000005)) 6 (some 1000006)))))), .inl (0, 840, .inl (fun _ => 0)), .inl (0, 4, .inl (fun _ => 0)), .inl (0, 4, .inl (fun _ => 0)), .inl (0, 160, .inl (fun _ => 0)), .inl (0, 40, .inl (fun _ => 0))]) hi rfl) ?_
  refine x_aload_n hm rfl rfl ?_
  refine x_getf hm rfl (a_get (k := 0) hi rfl) ?_
  refine x_iconst hm rfl (v := nI 3) (by decide) ?_
  refine x_iconst hm rfl (v := nI 1) (by decide) ?_
  refine x_iast hm rfl (a_sti (k := 1) hi rfl (by decide) (by decide)) ?_
  rw [nwF_0]
  refine x_iconst hm rfl (v := nI 0) (by decide) ?_
  refine x_istore_n hm rfl rfl ?_
  have h := c131l (X := X) (D := D0 ++ modL i (nwF 0)) (i := i) (c := i + 1) (fun f => by rw [app_set hi]; exact a_get (k := 0) hi rfl) (by rw [a_len (k := 14) hi rfl]; omega) 11 0 (by decide) (by decide)
  rw [app_set hi, app_set hi] at h
  rw [kn7]
  exact h
end CV
