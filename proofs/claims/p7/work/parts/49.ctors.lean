/-! ===== the constructors: how the world comes to be ===== -/
section CV
variable {X : mSc} {Q : Option Value → mHp → Prop} {mid pc : Nat} {L : mLoc} {st : List Value} {D D0 l l2 : mHp} {row : mRow} {ex : Nat × Nat × Nat × Nat × Nat × Int} {i k a b d n : Nat}
theorem x_new {idx j kd a b : Nat} {z : Int} (hm : mMet mid = some row) (hf : mFetch mid pc = some (.new idx, 3, j, kd, a, b, z)) (hd : D.length = d) {D2 : mHp} (hD : D ++ [.inr (a, mDf a)] = D2) (k : mEv X Q mid (pc + 3) L (.ref d :: st) D2) : mEv X Q mid pc L st D := ev_inl hm hf (q := (pc + 3, L, .ref d :: st, D2)) (by rw [← hd, ← hD]; rfl) k
theorem jn_ok (hn : n ≤ 1000) : ¬ (nI n < 0 ∨ 1000 < (nI n).toNatClampNeg) := by
  rw [jI_nat (by omega)]
  rintro (h | h)
  · exact jI_nn (by omega) h
  · omega
theorem x_nai (hm : mMet mid = some row) (hf : mFetch mid pc = some (.newarray .int, ex)) (hn : n ≤ 1000) (hd : D.length = d) {D2 : mHp} (hD : D ++ [.inl (0, n, .inl (fun _ => 0))] = D2) (k : mEv X Q mid (pc + 2) L (.ref d :: st) D2) : mEv X Q mid pc L (.int (nI n) :: st) D := ev_inl hm hf (q := (pc + 2, L, .ref d :: st, D2)) (by unfold mStep; dsimp only; rw [if_neg (jn_ok hn), jI_nat (by omega), hd, ← hD]; rfl) k
theorem x_nab (hm : mMet mid = some row) (hf : mFetch mid pc = some (.newarray .byte, ex)) (hn : n ≤ 1000) (hd : D.length = d) {D2 : mHp} (hD : D ++ [.inl (1, n, .inl (fun _ => 0))] = D2) (k : mEv X Q mid (pc + 2) L (.ref d :: st) D2) : mEv X Q mid pc L (.int (nI n) :: st) D := ev_inl hm hf (q := (pc + 2, L, .ref d :: st, D2)) (by unfold mStep; dsimp only; rw [if_neg (jn_ok hn), jI_nat (by omega), hd, ← hD]; rfl) k
theorem x_ana {idx j kd a b : Nat} {z : Int} (hm : mMet mid = some row) (hf : mFetch mid pc = some (.anewarray idx, 3, j, kd, a, b, z)) (hn : n ≤ 1000) (hd : D.length = d) {D2 : mHp} (hD : D ++ [.inl (a, n, .inr (.inr (.inr (.inr (fun _ => none)))))] = D2) (k : mEv X Q mid (pc + 3) L (.ref d :: st) D2) : mEv X Q mid pc L (.int (nI n) :: st) D := ev_inl hm hf (q := (pc + 3, L, .ref d :: st, D2)) (by unfold mStep; dsimp only; rw [if_neg (jn_ok hn), jI_nat (by omega), hd, ← hD]; rfl) k
theorem x_mul {idx m j kd a b : Nat} {z : Int} (hm : mMet mid = some row) (hf : mFetch mid pc = some (.multianewarray idx 2, 4, j, kd, a, b, z)) (hn : n ≤ 1000) (hk : m ≤ 1000) (hd : D.length = d) {D2 : mHp} (hD : D ++ (.inl (3, n, .inr (.inr (.inr (.inr (fun i => if i < n then some (d + 1 + i) else none))))) :: List.replicate n (.inl (0, m, .inl (fun _ => 0)))) = D2) (k : mEv X Q mid (pc + 4) L (.ref d :: st) D2) : mEv X Q mid pc L (.int (nI m) :: .int (nI n) :: st) D := ev_inl hm hf (q := (pc + 4, L, .ref d :: st, D2)) (by
    have h1 := jn_ok hn
    have h2 := jn_ok hk
    have hneg : ¬ (nI n < 0 ∨ nI m < 0 ∨ 1000 < (nI n).toNatClampNeg ∨ 1000 < (nI m).toNatClampNeg) := fun h => h.elim (fun q => h1 (Or.inl q)) fun h => h.elim (fun q => h2 (Or.inl q)) fun h => h.elim (fun q => h1 (Or.inr q)) (fun q => h2 (Or.inr q))
    show (if nI n < 0 ∨ nI m < 0 ∨ 1000 < (nI n).toNatClampNeg ∨ 1000 < (nI m).toNatClampNeg then none else mNx (pc + 4) L (.ref D.length :: st) (D ++ (.inl (3, (nI n).toNatClampNeg, .inr (.inr (.inr (.inr (fun i => if i < (nI n).toNatClampNeg then some (D.length + 1 + i) else none))))) :: List.replicate (nI n).toNatClampNeg (.inl (0, (nI m).toNatClampNeg, .inl (fun _ => 0)))))) = _
    rw [if_neg hneg, jI_nat (k := n) (by omega), jI_nat (k := m) (by omega), hd, hD]
    rfl) k
theorem x_aast {v : Nat} {D1 : mHp} {j : Int32} (hm : mMet mid = some row) (hf : mFetch mid pc = some (.aastore, ex)) (hv : mStQ D i j v = some D1) (k : mEv X Q mid (pc + 1) L st D1) : mEv X Q mid pc L (.ref v :: .int j :: .ref i :: st) D := ev_inl hm hf (q := (pc + 1, L, st, D1)) (by unfold mStep; dsimp only; rw [hv]; rfl) k
theorem app_at (hi : D0.length = i) : (D0 ++ l)[i + k]? = l[k]? := by
  rw [List.getElem?_append_right (by omega)]
  congr 1
  omega
theorem app_set (hi : D0.length = i) {c : va_E} : (D0 ++ l).set (i + k) c = D0 ++ l.set k c := by
  rw [List.set_append_right _ _ (by omega)]
  congr 2
  omega
theorem a_put {kd : Nat} {v : Value} (hi : D0.length = i) (h : mPut row kd l k a b v = some l2) : mPut row kd (D0 ++ l) (i + k) a b v = some (D0 ++ l2) := by
  unfold mPut at h ⊢
  rw [app_at hi]
  cases h0 : l[k]? with
  | none => rw [h0] at h; cases h
  | some c =>
    rw [h0] at h
    cases c with
    | inl q => cases h
    | inr o =>
      obtain ⟨c, fs⟩ := o
      dsimp only at h ⊢
      obtain ⟨hB, hl⟩ := mCond_eq h
      rw [hB, app_set hi, Option.some.inj hl]
      rfl
theorem a_get {v : Value} (hi : D0.length = i) (h : mGet l k a b = some v) : mGet (D0 ++ l) (i + k) a b = some v := by
  unfold mGet at h ⊢
  rw [app_at hi]
  exact h
theorem app_sn {x : mHp} (h : l ++ x = l2) : (D0 ++ l) ++ x = D0 ++ l2 := by rw [List.append_assoc, h]
theorem a_len (hi : D0.length = i) (h : l.length = k) : (D0 ++ l).length = i + k := by rw [List.length_append, hi, h]
def spF (k : Nat) : Nat → Int32 := fun j => if j < k then -1 else 0
theorem spF_0 : (fun _ => 0 : Nat → Int32) = spF 0 := by
  funext j
  exact (if_neg (Nat.not_lt_zero j)).symm
theorem spF_s (k : Nat) : upd (spF k) k (-1) = spF (k + 1) := by
  funext j
  unfold upd spF
  by_cases h : j = k
  · rw [if_pos h, if_pos (by omega)]
  · rw [if_neg h]
    by_cases h2 : j < k
    · rw [if_pos h2, if_pos (by omega)]
    · rw [if_neg h2, if_neg (by omega)]
def nwF (k : Nat) : Nat → Int32 := fun j => if j = 3 then 1 else if 4 ≤ j ∧ j < 4 + k then -1 else 0
theorem nwF_0 : upd (fun _ => 0) 3 (nI 1) = nwF 0 := by
  funext j
  unfold upd nwF
  by_cases h : j = 3
  · rw [if_pos h, if_pos h]; rfl
  · rw [if_neg h, if_neg h, if_neg (by omega)]
theorem nwF_s (k : Nat) : upd (nwF k) (4 + k) (-1) = nwF (k + 1) := by
  funext j
  unfold upd nwF
  by_cases h : j = 4 + k
  · rw [if_pos h, if_neg (by omega), if_pos (by omega)]
  · rw [if_neg h]
    by_cases h3 : j = 3
    · rw [if_pos h3, if_pos h3]
    · rw [if_neg h3, if_neg h3]
      by_cases h2 : 4 ≤ j ∧ j < 4 + k
      · rw [if_pos h2, if_pos (by omega)]
      · rw [if_neg h2, if_neg (by omega)]
theorem st_set {f : Nat → Int32} {m : Nat} {v : Int32} (ha : a < D.length) (hk : k < m) (hm : m ≤ 1000) : mStI 0 (D.set a (.inl (0, m, .inl f))) a (nI k) v = some (D.set a (.inl (0, m, .inl (upd f k v)))) := by
  unfold mStI
  rw [List.getElem?_set_self ha]
  dsimp only
  rw [jI_out hk hm, jI_nat (by omega), List.set_set]
  rfl
def mrL (l : List Nat) : Nat → Option Nat := fun j => l[j]?
theorem mr6 {d : Nat} : (fun i => if i < 6 then some (d + 1 + i) else none) = mrL [d + 1, d + 2, d + 3, d + 4, d + 5, d + 6] := by
  funext j
  unfold mrL
  match j with
  | 0 | 1 | 2 | 3 | 4 | 5 => rfl
  | n + 6 => rw [if_neg (by omega)]; rfl
theorem mr7 {d : Nat} : (fun i => if i < 7 then some (d + 1 + i) else none) = mrL [d + 1, d + 2, d + 3, d + 4, d + 5, d + 6, d + 7] := by
  funext j
  unfold mrL
  match j with
  | 0 | 1 | 2 | 3 | 4 | 5 | 6 => rfl
  | n + 7 => rw [if_neg (by omega)]; rfl
theorem c4 (hi : D0.length = i) : mT X 4 [.ref i] (D0 ++ [.inr (0, mDf 0)]) none (D0 ++ [.inr (0, [.ref (i + 1), .int 0, .int 0]), .inl (0, 40, .inl (fun _ => 0))]) := by
  refine mT.of (row := _) rfl (Nat.le_of_ble_eq_true rfl) ?_
  have hm : mMet 4 = some _ := rfl
  refine x_aload_n hm rfl rfl ?_
  refine x_libI hm rfl rfl ?_
  dsimp only
  refine x_aload_n hm rfl rfl ?_
  refine x_bipush hm rfl (v := nI 40) (by decide) ?_
  refine x_nai hm rfl (by decide) (a_len (k := 1) hi rfl) (D2 := D0 ++ [.inr (0, [.null, .int 0, .int 0]), .inl (0, 40, .inl (fun _ => 0))]) (app_sn rfl) ?_
  refine x_putf hm rfl (a_put (k := 0) (l2 := [.inr (0, [.ref (i + 1), .int 0, .int 0]), .inl (0, 40, .inl (fun _ => 0))]) hi rfl) ?_
  refine x_aload_n hm rfl rfl ?_
  refine x_iconst hm rfl (v := nI 0) (by decide) ?_
  refine x_putf hm rfl (a_put (k := 0) (l2 := [.inr (0, [.ref (i + 1), .int 0, .int 0]), .inl (0, 40, .inl (fun _ => 0))]) hi rfl) ?_
  refine x_aload_n hm rfl rfl ?_
  refine x_iconst hm rfl (v := nI 0) (by decide) ?_
  refine x_putf hm rfl (a_put (k := 0) (l2 := [.inr (0, [.ref (i + 1), .int 0, .int 0]), .inl (0, 40, .inl (fun _ => 0))]) hi rfl) ?_
  refine x_ret hm rfl rfl ?_
  exact ⟨rfl, rfl⟩
theorem c3 (hi : D0.length = i) : mT X 3 [.ref i] (D0 ++ [.inr (1, mDf 1)]) none (D0 ++ [.inr (1, [.ref (i + 1), .int 0, .int 0, .int 0, .int 0, .int 0, .int (-1)]), .inl (1, 120, .inl (fun _ => 0))]) := by
  refine mT.of (row := _) rfl (Nat.le_of_ble_eq_true rfl) ?_
  have hm : mMet 3 = some _ := rfl
  refine x_aload_n hm rfl rfl ?_
  refine x_libI hm rfl rfl ?_
  dsimp only
  refine x_aload_n hm rfl rfl ?_
  refine x_bipush hm rfl (v := nI 120) (by decide) ?_
  refine x_nab hm rfl (by decide) (a_len (k := 1) hi rfl) (D2 := D0 ++ [.inr (1, [.null, .int 0, .int 0, .int 0, .int 0, .int 0, .int 0]), .inl (1, 120, .inl (fun _ => 0))]) (app_sn rfl) ?_
  refine x_putf hm rfl (a_put (k := 0) (l2 := [.inr (1, [.ref (i + 1), .int 0, .int 0, .int 0, .int 0, .int 0, .int 0]), .inl (1, 120, .inl (fun _ => 0))]) hi rfl) ?_
  refine x_aload_n hm rfl rfl ?_
  refine x_iconst hm rfl (v := nI 0) (by decide) ?_
  refine x_putf hm rfl (a_put (k := 0) (l2 := [.inr (1, [.ref (i + 1), .int 0, .int 0, .int 0, .int 0, .int 0, .int 0]), .inl (1, 120, .inl (fun _ => 0))]) hi rfl) ?_
  refine x_aload_n hm rfl rfl ?_
  refine x_iconst hm rfl (v := nI 0) (by decide) ?_
  refine x_putf hm rfl (a_put (k := 0) (l2 := [.inr (1, [.ref (i + 1), .int 0, .int 0, .int 0, .int 0, .int 0, .int 0]), .inl (1, 120, .inl (fun _ => 0))]) hi rfl) ?_
  refine x_aload_n hm rfl rfl ?_
  refine x_iconst hm rfl (v := nI 0) (by decide) ?_
  refine x_putf hm rfl (a_put (k := 0) (l2 := [.inr (1, [.ref (i + 1), .int 0, .int 0, .int 0, .int 0, .int 0, .int 0]), .inl (1, 120, .inl (fun _ => 0))]) hi rfl) ?_
  refine x_aload_n hm rfl rfl ?_
  refine x_iconst hm rfl (v := nI 0) (by decide) ?_
  refine x_putf hm rfl (a_put (k := 0) (l2 := [.inr (1, [.ref (i + 1), .int 0, .int 0, .int 0, .int 0, .int 0, .int 0]), .inl (1, 120, .inl (fun _ => 0))]) hi rfl) ?_
  refine x_aload_n hm rfl rfl ?_
  refine x_iconst hm rfl (v := nI 0) (by decide) ?_
  refine x_putf hm rfl (a_put (k := 0) (l2 := [.inr (1, [.ref (i + 1), .int 0, .int 0, .int 0, .int 0, .int 0, .int 0]), .inl (1, 120, .inl (fun _ => 0))]) hi rfl) ?_
  refine x_aload_n hm rfl rfl ?_
  refine x_iconst hm rfl (v := (-1 : Int32)) (by decide) ?_
  refine x_putf hm rfl (a_put (k := 0) (l2 := [.inr (1, [.ref (i + 1), .int 0, .int 0, .int 0, .int 0, .int 0, .int (-1)]), .inl (1, 120, .inl (fun _ => 0))]) hi rfl) ?_
  refine x_ret hm rfl rfl ?_
  exact ⟨rfl, rfl⟩
noncomputable def townL (i : Nat) : mHp := [.inr (2, [.ref (i + 1), .ref (i + 8), .ref (i + 16), .int 0, .int 0, .int 0, .int 1, .int (-1)]), .inl (3, 6, .inr (.inr (.inr (.inr (mrL [i + 2, i + 3, i + 4, i + 5, i + 6, i + 7])))))] ++ List.replicate 6 (.inl (0, 8, .inl (fun _ => 0))) ++ [.inl (3, 7, .inr (.inr (.inr (.inr (mrL [i + 9, i + 10, i + 11, i + 12, i + 13, i + 14, i + 15])))))] ++ List.replicate 7 (.inl (0, 8, .inl (fun _ => 0))) ++ [.inl (0, 10, .inl (spF 10))]
theorem c2l {c : Nat} (hO : ∀ f, mGet (D.set c (.inl (0, 10, .inl f))) i 2 2 = some (.ref c)) (hc : c < D.length) : ∀ (n k : Nat), 10 - k < n → k ≤ 10 → mEv X (fun r D' => r = none ∧ D' = D.set c (.inl (0, 10, .inl (spF 10)))) 2 63 [some (.ref i), some (.int (nI k))] [] (D.set c (.inl (0, 10, .inl (spF k)))) := by
  have hm : mMet 2 = some _ := rfl
  intro n
  induction n with
  | zero =>
    intro k hkn hkb
    omega
  | succ n ih =>
    intro k hkn hkb
    refine x_iload_n hm rfl rfl ?_
    refine x_bipush hm rfl (v := nI 10) (by decide) ?_
    refine x_icmp_ge hm rfl (t := 82) rfl (fun h1 => ?_) (fun h1 => ?_)
    · obtain rfl : k = 10 := Nat.le_antisymm hkb ((jI_le (by decide) (by omega)).mp h1)
      refine x_ret hm rfl rfl ?_
      exact ⟨rfl, rfl⟩
    · have hk : k < 10 := Nat.lt_of_not_le fun h => h1 (nI_le h (by omega))
      refine x_aload_n hm rfl rfl ?_
      refine x_getf hm rfl (hO _) ?_
      refine x_iload_n hm rfl rfl ?_
      refine x_iconst hm rfl (v := (-1 : Int32)) (by decide) ?_
      refine x_iast hm rfl (st_set hc hk (by decide)) ?_
      rw [spF_s]
      refine x_iinc hm rfl rfl (v := nI 1) (by decide) rfl ?_
      rw [jI_add]
      refine x_goto hm rfl (t := 63) rfl ?_
      exact ih (k + 1) (by omega) (by omega)
theorem c2 (hi : D0.length = i) : mT X 2 [.ref i] (D0 ++ [.inr (2, mDf 2)]) none (D0 ++ townL i) := by
  refine mT.of (row := _) rfl (Nat.le_of_ble_eq_true rfl) ?_
  have hm : mMet 2 = some _ := rfl
  refine x_aload_n hm rfl rfl ?_
  refine x_libI hm rfl rfl ?_
  dsimp only
  refine x_aload_n hm rfl rfl ?_
  refine x_bipush hm rfl (v := nI 6) (by decide) ?_
  refine x_bipush hm rfl (v := nI 8) (by decide) ?_
  refine x_mul hm rfl (by decide) (by decide) (a_len (k := 1) hi rfl) (D2 := D0 ++ [.inr (2, [.null, .null, .null, .int 0, .int 0, .int 0, .int 0, .int 0]), .inl (3, 6, .inr (.inr (.inr (.inr (mrL [i + 1 + 1, i + 1 + 2, i + 1 + 3, i + 1 + 4, i + 1 + 5, i + 1 + 6]))))), .inl (0, 8, .inl (fun _ => 0)), .inl (0, 8, .inl (fun _ => 0)), .inl (0, 8, .inl (fun _ => 0)), .inl (0, 8, .inl (fun _ => 0)), .inl (0, 8, .inl (fun _ => 0)), .inl (0, 8, .inl (fun _ => 0))]) (by rw [mr6]; exact app_sn rfl) ?_
  refine x_putf hm rfl (a_put (k := 0) (l2 := [.inr (2, [.ref (i + 1), .null, .null, .int 0, .int 0, .int 0, .int 0, .int 0]), .inl (3, 6, .inr (.inr (.inr (.inr (mrL [i + 1 + 1, i + 1 + 2, i + 1 + 3, i + 1 + 4, i + 1 + 5, i + 1 + 6]))))), .inl (0, 8, .inl (fun _ => 0)), .inl (0, 8, .inl (fun _ => 0)), .inl (0, 8, .inl (fun _ => 0)), .inl (0, 8, .inl (fun _ => 0)), .inl (0, 8, .inl (fun _ => 0)), .inl (0, 8, .inl (fun _ => 0))]) hi rfl) ?_
  refine x_aload_n hm rfl rfl ?_
  refine x_bipush hm rfl (v := nI 7) (by decide) ?_
  refine x_bipush hm rfl (v := nI 8) (by decide) ?_
  refine x_mul hm rfl (by decide) (by decide) (a_len (k := 8) hi rfl) (D2 := D0 ++ [.inr (2, [.ref (i + 1), .null, .null, .int 0, .int 0, .int 0, .int 0, .int 0]), .inl (3, 6, .inr (.inr (.inr (.inr (mrL [i + 1 + 1, i + 1 + 2, i + 1 + 3, i + 1 + 4, i + 1 + 5, i + 1 + 6]))))), .inl (0, 8, .inl (fun _ => 0)), .inl (0, 8, .inl (fun _ => 0)), .inl (0, 8, .inl (fun _ => 0)), .inl (0, 8, .inl (fun _ => 0)), .inl (0, 8, .inl (fun _ => 0)), .inl (0, 8, .inl (fun _ => 0)), .inl (3, 7, .inr (.inr (.inr (.inr (mrL [i + 8 + 1, i + 8 + 2, i + 8 + 3, i + 8 + 4, i + 8 + 5, i + 8 + 6, i + 8 + 7]))))), .inl (0, 8, .inl (fun _ => 0)), .inl (0, 8, .inl (fun _ => 0)), .inl (0, 8, .inl (fun _ => 0)), .inl (0, 8, .inl (fun _ => 0)), .inl (0, 8, .inl (fun _ => 0)), .inl (0, 8, .inl (fun _ => 0)), .inl (0, 8, .inl (fun _ => 0))]) (by rw [mr7]; exact app_sn rfl) ?_
  refine x_putf hm rfl (a_put (k := 0) (l2 := [.inr (2, [.ref (i + 1), .ref (i + 8), .null, .int 0, .int 0, .int 0, .int 0, .int 0]), .inl (3, 6, .inr (.inr (.inr (.inr (mrL [i + 1 + 1, i + 1 + 2, i + 1 + 3, i + 1 + 4, i + 1 + 5, i + 1 + 6]))))), .inl (0, 8, .inl (fun _ => 0)), .inl (0, 8, .inl (fun _ => 0)), .inl (0, 8, .inl (fun _ => 0)), .inl (0, 8, .inl (fun _ => 0)), .inl (0, 8, .inl (fun _ => 0)), .inl (0, 8, .inl (fun _ => 0)), .inl (3, 7, .inr (.inr (.inr (.inr (mrL [i + 8 + 1, i + 8 + 2, i + 8 + 3, i + 8 + 4, i + 8 + 5, i + 8 + 6, i + 8 + 7]))))), .inl (0, 8, .inl (fun _ => 0)), .inl (0, 8, .inl (fun _ => 0)), .inl (0, 8, .inl (fun _ => 0)), .inl (0, 8, .inl (fun _ => 0)), .inl (0, 8, .inl (fun _ => 0)), .inl (0, 8, .inl (fun _ => 0)), .inl (0, 8, .inl (fun _ => 0))]) hi rfl) ?_
  refine x_aload_n hm rfl rfl ?_
  refine x_bipush hm rfl (v := nI 10) (by decide) ?_
  refine x_nai hm rfl (by decide) (a_len (k := 16) hi rfl) (D2 := D0 ++ [.inr (2, [.ref (i + 1), .ref (i + 8), .null, .int 0, .int 0, .int 0, .int 0, .int 0]), .inl (3, 6, .inr (.inr (.inr (.inr (mrL [i + 1 + 1, i + 1 + 2, i + 1 + 3, i + 1 + 4, i + 1 + 5, i + 1 + 6]))))), .inl (0, 8, .inl (fun _ => 0)), .inl (0, 8, .inl (fun _ => 0)), .inl (0, 8, .inl (fun _ => 0)), .inl (0, 8, .inl (fun _ => 0)), .inl (0, 8, .inl (fun _ => 0)), .inl (0, 8, .inl (fun _ => 0)), .inl (3, 7, .inr (.inr (.inr (.inr (mrL [i + 8 + 1, i + 8 + 2, i + 8 + 3, i + 8 + 4, i + 8 + 5, i + 8 + 6, i + 8 + 7]))))), .inl (0, 8, .inl (fun _ => 0)), .inl (0, 8, .inl (fun _ => 0)), .inl (0, 8, .inl (fun _ => 0)), .inl (0, 8, .inl (fun _ => 0)), .inl (0, 8, .inl (fun _ => 0)), .inl (0, 8, .inl (fun _ => 0)), .inl (0, 8, .inl (fun _ => 0)), .inl (0, 10, .inl (fun _ => 0))]) (app_sn rfl) ?_
  refine x_putf hm rfl (a_put (k := 0) (l2 := [.inr (2, [.ref (i + 1), .ref (i + 8), .ref (i + 16), .int 0, .int 0, .int 0, .int 0, .int 0]), .inl (3, 6, .inr (.inr (.inr (.inr (mrL [i + 1 + 1, i + 1 + 2, i + 1 + 3, i + 1 + 4, i + 1 + 5, i + 1 + 6]))))), .inl (0, 8, .inl (fun _ => 0)), .inl (0, 8, .inl (fun _ => 0)), .inl (0, 8, .inl (fun _ => 0)), .inl (0, 8, .inl (fun _ => 0)), .inl (0, 8, .inl (fun _ => 0)), .inl (0, 8, .inl (fun _ => 0)), .inl (3, 7, .inr (.inr (.inr (.inr (mrL [i + 8 + 1, i + 8 + 2, i + 8 + 3, i + 8 + 4, i + 8 + 5, i + 8 + 6, i + 8 + 7]))))), .inl (0, 8, .inl (fun _ => 0)), .inl (0, 8, .inl (fun _ => 0)), .inl (0, 8, .inl (fun _ => 0)), .inl (0, 8, .inl (fun _ => 0)), .inl (0, 8, .inl (fun _ => 0)), .inl (0, 8, .inl (fun _ => 0)), .inl (0, 8, .inl (fun _ => 0)), .inl (0, 10, .inl (fun _ => 0))]) hi rfl) ?_
  refine x_aload_n hm rfl rfl ?_
  refine x_iconst hm rfl (v := nI 0) (by decide) ?_
  refine x_putf hm rfl (a_put (k := 0) (l2 := [.inr (2, [.ref (i + 1), .ref (i + 8), .ref (i + 16), .int 0, .int 0, .int 0, .int 0, .int 0]), .inl (3, 6, .inr (.inr (.inr (.inr (mrL [i + 1 + 1, i + 1 + 2, i + 1 + 3, i + 1 + 4, i + 1 + 5, i + 1 + 6]))))), .inl (0, 8, .inl (fun _ => 0)), .inl (0, 8, .inl (fun _ => 0)), .inl (0, 8, .inl (fun _ => 0)), .inl (0, 8, .inl (fun _ => 0)), .inl (0, 8, .inl (fun _ => 0)), .inl (0, 8, .inl (fun _ => 0)), .inl (3, 7, .inr (.inr (.inr (.inr (mrL [i + 8 + 1, i + 8 + 2, i + 8 + 3, i + 8 + 4, i + 8 + 5, i + 8 + 6, i + 8 + 7]))))), .inl (0, 8, .inl (fun _ => 0)), .inl (0, 8, .inl (fun _ => 0)), .inl (0, 8, .inl (fun _ => 0)), .inl (0, 8, .inl (fun _ => 0)), .inl (0, 8, .inl (fun _ => 0)), .inl (0, 8, .inl (fun _ => 0)), .inl (0, 8, .inl (fun _ => 0)), .inl (0, 10, .inl (fun _ => 0))]) hi rfl) ?_
  refine x_aload_n hm rfl rfl ?_
  refine x_iconst hm rfl (v := nI 0) (by decide) ?_
  refine x_putf hm rfl (a_put (k := 0) (l2 := [.inr (2, [.ref (i + 1), .ref (i + 8), .ref (i + 16), .int 0, .int 0, .int 0, .int 0, .int 0]), .inl (3, 6, .inr (.inr (.inr (.inr (mrL [i + 1 + 1, i + 1 + 2, i + 1 + 3, i + 1 + 4, i + 1 + 5, i + 1 + 6]))))), .inl (0, 8, .inl (fun _ => 0)), .inl (0, 8, .inl (fun _ => 0)), .inl (0, 8, .inl (fun _ => 0)), .inl (0, 8, .inl (fun _ => 0)), .inl (0, 8, .inl (fun _ => 0)), .inl (0, 8, .inl (fun _ => 0)), .inl (3, 7, .inr (.inr (.inr (.inr (mrL [i + 8 + 1, i + 8 + 2, i + 8 + 3, i + 8 + 4, i + 8 + 5, i + 8 + 6, i + 8 + 7]))))), .inl (0, 8, .inl (fun _ => 0)), .inl (0, 8, .inl (fun _ => 0)), .inl (0, 8, .inl (fun _ => 0)), .inl (0, 8, .inl (fun _ => 0)), .inl (0, 8, .inl (fun _ => 0)), .inl (0, 8, .inl (fun _ => 0)), .inl (0, 8, .inl (fun _ => 0)), .inl (0, 10, .inl (fun _ => 0))]) hi rfl) ?_
  refine x_aload_n hm rfl rfl ?_
  refine x_iconst hm rfl (v := nI 0) (by decide) ?_
  refine x_putf hm rfl (a_put (k := 0) (l2 := [.inr (2, [.ref (i + 1), .ref (i + 8), .ref (i + 16), .int 0, .int 0, .int 0, .int 0, .int 0]), .inl (3, 6, .inr (.inr (.inr (.inr (mrL [i + 1 + 1, i + 1 + 2, i + 1 + 3, i + 1 + 4, i + 1 + 5, i + 1 + 6]))))), .inl (0, 8, .inl (fun _ => 0)), .inl (0, 8, .inl (fun _ => 0)), .inl (0, 8, .inl (fun _ => 0)), .inl (0, 8, .inl (fun _ => 0)), .inl (0, 8, .inl (fun _ => 0)), .inl (0, 8, .inl (fun _ => 0)), .inl (3, 7, .inr (.inr (.inr (.inr (mrL [i + 8 + 1, i + 8 + 2, i + 8 + 3, i + 8 + 4, i + 8 + 5, i + 8 + 6, i + 8 + 7]))))), .inl (0, 8, .inl (fun _ => 0)), .inl (0, 8, .inl (fun _ => 0)), .inl (0, 8, .inl (fun _ => 0)), .inl (0, 8, .inl (fun _ => 0)), .inl (0, 8, .inl (fun _ => 0)), .inl (0, 8, .inl (fun _ => 0)), .inl (0, 8, .inl (fun _ => 0)), .inl (0, 10, .inl (fun _ => 0))]) hi rfl) ?_
  refine x_aload_n hm rfl rfl ?_
  refine x_iconst hm rfl (v := nI 1) (by decide) ?_
  refine x_putf hm rfl (a_put (k := 0) (l2 := [.inr (2, [.ref (i + 1), .ref (i + 8), .ref (i + 16), .int 0, .int 0, .int 0, .int 1, .int 0]), .inl (3, 6, .inr (.inr (.inr (.inr (mrL [i + 1 + 1, i + 1 + 2, i + 1 + 3, i + 1 + 4, i + 1 + 5, i + 1 + 6]))))), .inl (0, 8, .inl (fun _ => 0)), .inl (0, 8, .inl (fun _ => 0)), .inl (0, 8, .inl (fun _ => 0)), .inl (0, 8, .inl (fun _ => 0)), .inl (0, 8, .inl (fun _ => 0)), .inl (0, 8, .inl (fun _ => 0)), .inl (3, 7, .inr (.inr (.inr (.inr (mrL [i + 8 + 1, i + 8 + 2, i + 8 + 3, i + 8 + 4, i + 8 + 5, i + 8 + 6, i + 8 + 7]))))), .inl (0, 8, .inl (fun _ => 0)), .inl (0, 8, .inl (fun _ => 0)), .inl (0, 8, .inl (fun _ => 0)), .inl (0, 8, .inl (fun _ => 0)), .inl (0, 8, .inl (fun _ => 0)), .inl (0, 8, .inl (fun _ => 0)), .inl (0, 8, .inl (fun _ => 0)), .inl (0, 10, .inl (fun _ => 0))]) hi rfl) ?_
  refine x_aload_n hm rfl rfl ?_
  refine x_iconst hm rfl (v := (-1 : Int32)) (by decide) ?_
  refine x_putf hm rfl (a_put (k := 0) (l2 := [.inr (2, [.ref (i + 1), .ref (i + 8), .ref (i + 16), .int 0, .int 0, .int 0, .int 1, .int (-1)]), .inl (3, 6, .inr (.inr (.inr (.inr (mrL [i + 1 + 1, i + 1 + 2, i + 1 + 3, i + 1 + 4, i + 1 + 5, i + 1 + 6]))))), .inl (0, 8, .inl (fun _ => 0)), .inl (0, 8, .inl (fun _ => 0)), .inl (0, 8, .inl (fun _ => 0)), .inl (0, 8, .inl (fun _ => 0)), .inl (0, 8, .inl (fun _ => 0)), .inl (0, 8, .inl (fun _ => 0)), .inl (3, 7, .inr (.inr (.inr (.inr (mrL [i + 8 + 1, i + 8 + 2, i + 8 + 3, i + 8 + 4, i + 8 + 5, i + 8 + 6, i + 8 + 7]))))), .inl (0, 8, .inl (fun _ => 0)), .inl (0, 8, .inl (fun _ => 0)), .inl (0, 8, .inl (fun _ => 0)), .inl (0, 8, .inl (fun _ => 0)), .inl (0, 8, .inl (fun _ => 0)), .inl (0, 8, .inl (fun _ => 0)), .inl (0, 8, .inl (fun _ => 0)), .inl (0, 10, .inl (fun _ => 0))]) hi rfl) ?_
  refine x_iconst hm rfl (v := nI 0) (by decide) ?_
  refine x_istore_n hm rfl rfl ?_
  rw [spF_0]
  have h := c2l (X := X) (D := D0 ++ [.inr (2, [.ref (i + 1), .ref (i + 8), .ref (i + 16), .int 0, .int 0, .int 0, .int 1, .int (-1)]), .inl (3, 6, .inr (.inr (.inr (.inr (mrL [i + 1 + 1, i + 1 + 2, i + 1 + 3, i + 1 + 4, i + 1 + 5, i + 1 + 6]))))), .inl (0, 8, .inl (spF 0)), .inl (0, 8, .inl (spF 0)), .inl (0, 8, .inl (spF 0)), .inl (0, 8, .inl (spF 0)), .inl (0, 8, .inl (spF 0)), .inl (0, 8, .inl (spF 0)), .inl (3, 7, .inr (.inr (.inr (.inr (mrL [i + 8 + 1, i + 8 + 2, i + 8 + 3, i + 8 + 4, i + 8 + 5, i + 8 + 6, i + 8 + 7]))))), .inl (0, 8, .inl (spF 0)), .inl (0, 8, .inl (spF 0)), .inl (0, 8, .inl (spF 0)), .inl (0, 8, .inl (spF 0)), .inl (0, 8, .inl (spF 0)), .inl (0, 8, .inl (spF 0)), .inl (0, 8, .inl (spF 0)), .inl (0, 10, .inl (spF 0))]) (i := i) (c := i + 16) (fun f => by rw [app_set hi]; exact a_get (k := 0) hi rfl) (by rw [a_len (k := 17) hi rfl]; omega) 11 0 (by decide) (by decide)
  rw [app_set hi, app_set hi, ← spF_0] at h
  rw [← spF_0]
  exact h
theorem a_stq {v n m : Nat} {f : Nat → Option Nat} (hi : D0.length = i) (h : l[k]? = some (.inl (4, m, .inr (.inr (.inr (.inr f)))))) (hl : l.set k (.inl (4, m, .inr (.inr (.inr (.inr (va_up f n (some v))))))) = l2) (hn : n < m) (hm : m ≤ 1000) (h1 : 1000000 ≤ v) (h2 : v < 1000015) : mStQ (D0 ++ l) (i + k) (nI n) v = some (D0 ++ l2) := by
  unfold mStQ
  rw [app_at hi, h]
  dsimp only
  have e : mAk (D0 ++ l) 4 v = true := by
    show (Nat.ble 1000000 v && Nat.blt v 1000015) = true
    rw [Nat.ble_eq_true_of_le h1, Nat.blt_eq.mpr h2]
    rfl
  rw [e, jI_out hn hm, jI_nat (by omega), app_set hi, hl]
  rfl
theorem a_sti {n m : Nat} {f : Nat → Int32} {v : Int32} (hi : D0.length = i) (h : l[k]? = some (.inl (0, m, .inl f))) (hn : n < m) (hm : m ≤ 1000) : mStI 0 (D0 ++ l) (i + k) (nI n) v = some (D0 ++ l.set k (.inl (0, m, .inl (upd f n v)))) := by
  unfold mStI
  rw [app_at hi, h]
  dsimp only
  rw [jI_out hn hm, jI_nat (by omega), app_set hi]
  rfl
theorem kn7 : va_up (va_up (va_up (va_up (va_up (va_up (va_up (fun _ => none : Nat → Option Nat) 0 (some 1000007)) 1 (some 1000001)) 2 (some 1000002)) 3 (some 1000003)) 4 (some 1000004)) 5 (some 1000005)) 6 (some 1000006) = mrL [1000007, 1000001, 1000002, 1000003, 1000004, 1000005, 1000006] := by
  funext j
  unfold mrL
  match j with
  | 0 | 1 | 2 | 3 | 4 | 5 | 6 => rfl
  | n + 7 => rfl
def shN : Nat → Option Nat := va_up (va_up (va_up (va_up (fun _ => none) 0 (some 58)) 1 (some 60)) 2 (some 62)) 3 (some 64)
theorem sh4 : shN = mrL [58, 60, 62, 64] := by
  funext j
  unfold mrL shN
  match j with
  | 0 | 1 | 2 | 3 => rfl
  | n + 4 => rfl
noncomputable def modL (i : Nat) (f : Nat → Int32) : mHp := [.inr (4, [.ref (i + 1), .ref (i + 2), .ref (i + 3), .int 0, .ref (i + 4), .ref (i + 5), .int (-1), .ref (i + 6), .ref (i + 7), .int 0, .int 0, .int 0, .int 0, .int 0, .int 0, .ref (i + 8), .ref (i + 9), .int 0, .int 0, .int 0, .ref (i + 10), .ref (i + 11), .ref (i + 12), .ref (i + 13)]),
  .inl (0, 118, .inl f), .inl (0, 118, .inl (fun _ => 0)), .inl (0, 118, .inl (fun _ => 0)), .inl (0, 8, .inl (fun _ => 0)), .inl (0, 8, .inl (fun _ => 0)), .inl (0, 8, .inl (fun _ => 0)), .inl (0, 120, .inl (fun _ => 0)), .inl (4, 7, .inr (.inr (.inr (.inr (mrL [1000007, 1000001, 1000002, 1000003, 1000004, 1000005, 1000006]))))), .inl (0, 840, .inl (fun _ => 0)), .inl (0, 4, .inl (fun _ => 0)), .inl (0, 4, .inl (fun _ => 0)), .inl (0, 160, .inl (fun _ => 0)), .inl (0, 40, .inl (fun _ => 0))]
theorem c131l {c : Nat} (hO : ∀ f, mGet (D.set c (.inl (0, 118, .inl f))) i 4 0 = some (.ref c)) (hc : c < D.length) : ∀ (n k : Nat), 10 - k < n → k ≤ 10 → mEv X (fun r D' => r = none ∧ D' = D.set c (.inl (0, 118, .inl (nwF 10)))) 131 159 [some (.ref i), some (.int (nI k))] [] (D.set c (.inl (0, 118, .inl (nwF k)))) := by
  have hm : mMet 131 = some _ := rfl
  intro n
  induction n with
  | zero =>
    intro k hkn hkb
    omega
  | succ n ih =>
    intro k hkn hkb
    refine x_iload_n hm rfl rfl ?_
    refine x_bipush hm rfl (v := nI 10) (by decide) ?_
    refine x_icmp_ge hm rfl (t := 180) rfl (fun h1 => ?_) (fun h1 => ?_)
    · obtain rfl : k = 10 := Nat.le_antisymm hkb ((jI_le (by decide) (by omega)).mp h1)
      refine x_ret hm rfl rfl ?_
      exact ⟨rfl, rfl⟩
    · have hk : k < 10 := Nat.lt_of_not_le fun h => h1 (nI_le h (by omega))
      refine x_aload_n hm rfl rfl ?_
      refine x_getf hm rfl (hO _) ?_
      refine x_iconst hm rfl (v := nI 4) (by decide) ?_
      refine x_iload_n hm rfl rfl ?_
      refine x_iadd hm rfl ?_
      rw [jI_add]
      refine x_iconst hm rfl (v := (-1 : Int32)) (by decide) ?_
      refine x_iast hm rfl (st_set hc (by omega) (by decide)) ?_
      rw [nwF_s]
      refine x_iinc hm rfl rfl (v := nI 1) (by decide) rfl ?_
      rw [jI_add]
      refine x_goto hm rfl (t := 159) rfl ?_
      exact ih (k + 1) (by omega) (by omega)
theorem c131 (hi : D0.length = i) : mT X 131 [.ref i] (D0 ++ [.inr (4, mDf 4)]) none (D0 ++ modL i (nwF 10)) := by
  refine mT.of (row := _) rfl (Nat.le_of_ble_eq_true rfl) ?_
  have hm : mMet 131 = some _ := rfl
  refine x_aload_n hm rfl rfl ?_
  refine x_libI hm rfl rfl ?_
  dsimp only
  refine x_aload_n hm rfl rfl ?_
  refine x_bipush hm rfl (v := nI 118) (by decide) ?_
  refine x_nai hm rfl (by decide) (a_len (k := 1) hi rfl) (D2 := D0 ++ [.inr (4, [.null, .null, .null, .int 0, .null, .null, .int 0, .null, .null, .int 0, .int 0, .int 0, .int 0, .int 0, .int 0, .null, .null, .int 0, .int 0, .int 0, .null, .null, .null, .null]), .inl (0, 118, .inl (fun _ => 0))]) (app_sn rfl) ?_
  refine x_putf hm rfl (a_put (k := 0) (l2 := [.inr (4, [.ref (i + 1), .null, .null, .int 0, .null, .null, .int 0, .null, .null, .int 0, .int 0, .int 0, .int 0, .int 0, .int 0, .null, .null, .int 0, .int 0, .int 0, .null, .null, .null, .null]), .inl (0, 118, .inl (fun _ => 0))]) hi rfl) ?_
  refine x_aload_n hm rfl rfl ?_
  refine x_bipush hm rfl (v := nI 118) (by decide) ?_
  refine x_nai hm rfl (by decide) (a_len (k := 2) hi rfl) (D2 := D0 ++ [.inr (4, [.ref (i + 1), .null, .null, .int 0, .null, .null, .int 0, .null, .null, .int 0, .int 0, .int 0, .int 0, .int 0, .int 0, .null, .null, .int 0, .int 0, .int 0, .null, .null, .null, .null]), .inl (0, 118, .inl (fun _ => 0)), .inl (0, 118, .inl (fun _ => 0))]) (app_sn rfl) ?_
  refine x_putf hm rfl (a_put (k := 0) (l2 := [.inr (4, [.ref (i + 1), .ref (i + 2), .null, .int 0, .null, .null, .int 0, .null, .null, .int 0, .int 0, .int 0, .int 0, .int 0, .int 0, .null, .null, .int 0, .int 0, .int 0, .null, .null, .null, .null]), .inl (0, 118, .inl (fun _ => 0)), .inl (0, 118, .inl (fun _ => 0))]) hi rfl) ?_
  refine x_aload_n hm rfl rfl ?_
  refine x_bipush hm rfl (v := nI 118) (by decide) ?_
  refine x_nai hm rfl (by decide) (a_len (k := 3) hi rfl) (D2 := D0 ++ [.inr (4, [.ref (i + 1), .ref (i + 2), .null, .int 0, .null, .null, .int 0, .null, .null, .int 0, .int 0, .int 0, .int 0, .int 0, .int 0, .null, .null, .int 0, .int 0, .int 0, .null, .null, .null, .null]), .inl (0, 118, .inl (fun _ => 0)), .inl (0, 118, .inl (fun _ => 0)), .inl (0, 118, .inl (fun _ => 0))]) (app_sn rfl) ?_
  refine x_putf hm rfl (a_put (k := 0) (l2 := [.inr (4, [.ref (i + 1), .ref (i + 2), .ref (i + 3), .int 0, .null, .null, .int 0, .null, .null, .int 0, .int 0, .int 0, .int 0, .int 0, .int 0, .null, .null, .int 0, .int 0, .int 0, .null, .null, .null, .null]), .inl (0, 118, .inl (fun _ => 0)), .inl (0, 118, .inl (fun _ => 0)), .inl (0, 118, .inl (fun _ => 0))]) hi rfl) ?_
  refine x_aload_n hm rfl rfl ?_
  refine x_bipush hm rfl (v := nI 8) (by decide) ?_
  refine x_nai hm rfl (by decide) (a_len (k := 4) hi rfl) (D2 := D0 ++ [.inr (4, [.ref (i + 1), .ref (i + 2), .ref (i + 3), .int 0, .null, .null, .int 0, .null, .null, .int 0, .int 0, .int 0, .int 0, .int 0, .int 0, .null, .null, .int 0, .int 0, .int 0, .null, .null, .null, .null]), .inl (0, 118, .inl (fun _ => 0)), .inl (0, 118, .inl (fun _ => 0)), .inl (0, 118, .inl (fun _ => 0)), .inl (0, 8, .inl (fun _ => 0))]) (app_sn rfl) ?_
  refine x_putf hm rfl (a_put (k := 0) (l2 := [.inr (4, [.ref (i + 1), .ref (i + 2), .ref (i + 3), .int 0, .ref (i + 4), .null, .int 0, .null, .null, .int 0, .int 0, .int 0, .int 0, .int 0, .int 0, .null, .null, .int 0, .int 0, .int 0, .null, .null, .null, .null]), .inl (0, 118, .inl (fun _ => 0)), .inl (0, 118, .inl (fun _ => 0)), .inl (0, 118, .inl (fun _ => 0)), .inl (0, 8, .inl (fun _ => 0))]) hi rfl) ?_
  refine x_aload_n hm rfl rfl ?_
  refine x_bipush hm rfl (v := nI 8) (by decide) ?_
  refine x_nai hm rfl (by decide) (a_len (k := 5) hi rfl) (D2 := D0 ++ [.inr (4, [.ref (i + 1), .ref (i + 2), .ref (i + 3), .int 0, .ref (i + 4), .null, .int 0, .null, .null, .int 0, .int 0, .int 0, .int 0, .int 0, .int 0, .null, .null, .int 0, .int 0, .int 0, .null, .null, .null, .null]), .inl (0, 118, .inl (fun _ => 0)), .inl (0, 118, .inl (fun _ => 0)), .inl (0, 118, .inl (fun _ => 0)), .inl (0, 8, .inl (fun _ => 0)), .inl (0, 8, .inl (fun _ => 0))]) (app_sn rfl) ?_
  refine x_putf hm rfl (a_put (k := 0) (l2 := [.inr (4, [.ref (i + 1), .ref (i + 2), .ref (i + 3), .int 0, .ref (i + 4), .ref (i + 5), .int 0, .null, .null, .int 0, .int 0, .int 0, .int 0, .int 0, .int 0, .null, .null, .int 0, .int 0, .int 0, .null, .null, .null, .null]), .inl (0, 118, .inl (fun _ => 0)), .inl (0, 118, .inl (fun _ => 0)), .inl (0, 118, .inl (fun _ => 0)), .inl (0, 8, .inl (fun _ => 0)), .inl (0, 8, .inl (fun _ => 0))]) hi rfl) ?_
  refine x_aload_n hm rfl rfl ?_
  refine x_iconst hm rfl (v := (-1 : Int32)) (by decide) ?_
  refine x_putf hm rfl (a_put (k := 0) (l2 := [.inr (4, [.ref (i + 1), .ref (i + 2), .ref (i + 3), .int 0, .ref (i + 4), .ref (i + 5), .int (-1), .null, .null, .int 0, .int 0, .int 0, .int 0, .int 0, .int 0, .null, .null, .int 0, .int 0, .int 0, .null, .null, .null, .null]), .inl (0, 118, .inl (fun _ => 0)), .inl (0, 118, .inl (fun _ => 0)), .inl (0, 118, .inl (fun _ => 0)), .inl (0, 8, .inl (fun _ => 0)), .inl (0, 8, .inl (fun _ => 0))]) hi rfl) ?_
  refine x_aload_n hm rfl rfl ?_
  refine x_bipush hm rfl (v := nI 8) (by decide) ?_
  refine x_nai hm rfl (by decide) (a_len (k := 6) hi rfl) (D2 := D0 ++ [.inr (4, [.ref (i + 1), .ref (i + 2), .ref (i + 3), .int 0, .ref (i + 4), .ref (i + 5), .int (-1), .null, .null, .int 0, .int 0, .int 0, .int 0, .int 0, .int 0, .null, .null, .int 0, .int 0, .int 0, .null, .null, .null, .null]), .inl (0, 118, .inl (fun _ => 0)), .inl (0, 118, .inl (fun _ => 0)), .inl (0, 118, .inl (fun _ => 0)), .inl (0, 8, .inl (fun _ => 0)), .inl (0, 8, .inl (fun _ => 0)), .inl (0, 8, .inl (fun _ => 0))]) (app_sn rfl) ?_
  refine x_putf hm rfl (a_put (k := 0) (l2 := [.inr (4, [.ref (i + 1), .ref (i + 2), .ref (i + 3), .int 0, .ref (i + 4), .ref (i + 5), .int (-1), .ref (i + 6), .null, .int 0, .int 0, .int 0, .int 0, .int 0, .int 0, .null, .null, .int 0, .int 0, .int 0, .null, .null, .null, .null]), .inl (0, 118, .inl (fun _ => 0)), .inl (0, 118, .inl (fun _ => 0)), .inl (0, 118, .inl (fun _ => 0)), .inl (0, 8, .inl (fun _ => 0)), .inl (0, 8, .inl (fun _ => 0)), .inl (0, 8, .inl (fun _ => 0))]) hi rfl) ?_
  refine x_aload_n hm rfl rfl ?_
  refine x_bipush hm rfl (v := nI 120) (by decide) ?_
  refine x_nai hm rfl (by decide) (a_len (k := 7) hi rfl) (D2 := D0 ++ [.inr (4, [.ref (i + 1), .ref (i + 2), .ref (i + 3), .int 0, .ref (i + 4), .ref (i + 5), .int (-1), .ref (i + 6), .null, .int 0, .int 0, .int 0, .int 0, .int 0, .int 0, .null, .null, .int 0, .int 0, .int 0, .null, .null, .null, .null]), .inl (0, 118, .inl (fun _ => 0)), .inl (0, 118, .inl (fun _ => 0)), .inl (0, 118, .inl (fun _ => 0)), .inl (0, 8, .inl (fun _ => 0)), .inl (0, 8, .inl (fun _ => 0)), .inl (0, 8, .inl (fun _ => 0)), .inl (0, 120, .inl (fun _ => 0))]) (app_sn rfl) ?_
  refine x_putf hm rfl (a_put (k := 0) (l2 := [.inr (4, [.ref (i + 1), .ref (i + 2), .ref (i + 3), .int 0, .ref (i + 4), .ref (i + 5), .int (-1), .ref (i + 6), .ref (i + 7), .int 0, .int 0, .int 0, .int 0, .int 0, .int 0, .null, .null, .int 0, .int 0, .int 0, .null, .null, .null, .null]), .inl (0, 118, .inl (fun _ => 0)), .inl (0, 118, .inl (fun _ => 0)), .inl (0, 118, .inl (fun _ => 0)), .inl (0, 8, .inl (fun _ => 0)), .inl (0, 8, .inl (fun _ => 0)), .inl (0, 8, .inl (fun _ => 0)), .inl (0, 120, .inl (fun _ => 0))]) hi rfl) ?_
  refine x_aload_n hm rfl rfl ?_
  refine x_bipush hm rfl (v := nI 7) (by decide) ?_
  refine x_ana hm rfl (by decide) (a_len (k := 8) hi rfl) (D2 := D0 ++ [.inr (4, [.ref (i + 1), .ref (i + 2), .ref (i + 3), .int 0, .ref (i + 4), .ref (i + 5), .int (-1), .ref (i + 6), .ref (i + 7), .int 0, .int 0, .int 0, .int 0, .int 0, .int 0, .null, .null, .int 0, .int 0, .int 0, .null, .null, .null, .null]), .inl (0, 118, .inl (fun _ => 0)), .inl (0, 118, .inl (fun _ => 0)), .inl (0, 118, .inl (fun _ => 0)), .inl (0, 8, .inl (fun _ => 0)), .inl (0, 8, .inl (fun _ => 0)), .inl (0, 8, .inl (fun _ => 0)), .inl (0, 120, .inl (fun _ => 0)), .inl (4, 7, .inr (.inr (.inr (.inr (fun _ => none)))))]) (app_sn rfl) ?_
  refine x_dup hm rfl rfl ?_
  refine x_iconst hm rfl (v := nI 0) (by decide) ?_
  refine x_ldcS hm rfl ?_
  refine x_aast hm rfl (a_stq (k := 8) (l2 := [.inr (4, [.ref (i + 1), .ref (i + 2), .ref (i + 3), .int 0, .ref (i + 4), .ref (i + 5), .int (-1), .ref (i + 6), .ref (i + 7), .int 0, .int 0, .int 0, .int 0, .int 0, .int 0, .null, .null, .int 0, .int 0, .int 0, .null, .null, .null, .null]), .inl (0, 118, .inl (fun _ => 0)), .inl (0, 118, .inl (fun _ => 0)), .inl (0, 118, .inl (fun _ => 0)), .inl (0, 8, .inl (fun _ => 0)), .inl (0, 8, .inl (fun _ => 0)), .inl (0, 8, .inl (fun _ => 0)), .inl (0, 120, .inl (fun _ => 0)), .inl (4, 7, .inr (.inr (.inr (.inr (va_up (fun _ => none) 0 (some 1000007))))))]) hi rfl rfl (by decide) (by decide) (by decide) (by decide)) ?_
  refine x_dup hm rfl rfl ?_
  refine x_iconst hm rfl (v := nI 1) (by decide) ?_
  refine x_ldcS hm rfl ?_
  refine x_aast hm rfl (a_stq (k := 8) (l2 := [.inr (4, [.ref (i + 1), .ref (i + 2), .ref (i + 3), .int 0, .ref (i + 4), .ref (i + 5), .int (-1), .ref (i + 6), .ref (i + 7), .int 0, .int 0, .int 0, .int 0, .int 0, .int 0, .null, .null, .int 0, .int 0, .int 0, .null, .null, .null, .null]), .inl (0, 118, .inl (fun _ => 0)), .inl (0, 118, .inl (fun _ => 0)), .inl (0, 118, .inl (fun _ => 0)), .inl (0, 8, .inl (fun _ => 0)), .inl (0, 8, .inl (fun _ => 0)), .inl (0, 8, .inl (fun _ => 0)), .inl (0, 120, .inl (fun _ => 0)), .inl (4, 7, .inr (.inr (.inr (.inr (va_up (va_up (fun _ => none) 0 (some 1000007)) 1 (some 1000001))))))]) hi rfl rfl (by decide) (by decide) (by decide) (by decide)) ?_
  refine x_dup hm rfl rfl ?_
  refine x_iconst hm rfl (v := nI 2) (by decide) ?_
  refine x_ldcS hm rfl ?_
  refine x_aast hm rfl (a_stq (k := 8) (l2 := [.inr (4, [.ref (i + 1), .ref (i + 2), .ref (i + 3), .int 0, .ref (i + 4), .ref (i + 5), .int (-1), .ref (i + 6), .ref (i + 7), .int 0, .int 0, .int 0, .int 0, .int 0, .int 0, .null, .null, .int 0, .int 0, .int 0, .null, .null, .null, .null]), .inl (0, 118, .inl (fun _ => 0)), .inl (0, 118, .inl (fun _ => 0)), .inl (0, 118, .inl (fun _ => 0)), .inl (0, 8, .inl (fun _ => 0)), .inl (0, 8, .inl (fun _ => 0)), .inl (0, 8, .inl (fun _ => 0)), .inl (0, 120, .inl (fun _ => 0)), .inl (4, 7, .inr (.inr (.inr (.inr (va_up (va_up (va_up (fun _ => none) 0 (some 1000007)) 1 (some 1000001)) 2 (some 1000002))))))]) hi rfl rfl (by decide) (by decide) (by decide) (by decide)) ?_
  refine x_dup hm rfl rfl ?_
  refine x_iconst hm rfl (v := nI 3) (by decide) ?_
  refine x_ldcS hm rfl ?_
  refine x_aast hm rfl (a_stq (k := 8) (l2 := [.inr (4, [.ref (i + 1), .ref (i + 2), .ref (i + 3), .int 0, .ref (i + 4), .ref (i + 5), .int (-1), .ref (i + 6), .ref (i + 7), .int 0, .int 0, .int 0, .int 0, .int 0, .int 0, .null, .null, .int 0, .int 0, .int 0, .null, .null, .null, .null]), .inl (0, 118, .inl (fun _ => 0)), .inl (0, 118, .inl (fun _ => 0)), .inl (0, 118, .inl (fun _ => 0)), .inl (0, 8, .inl (fun _ => 0)), .inl (0, 8, .inl (fun _ => 0)), .inl (0, 8, .inl (fun _ => 0)), .inl (0, 120, .inl (fun _ => 0)), .inl (4, 7, .inr (.inr (.inr (.inr (va_up (va_up (va_up (va_up (fun _ => none) 0 (some 1000007)) 1 (some 1000001)) 2 (some 1000002)) 3 (some 1000003))))))]) hi rfl rfl (by decide) (by decide) (by decide) (by decide)) ?_
  refine x_dup hm rfl rfl ?_
  refine x_iconst hm rfl (v := nI 4) (by decide) ?_
  refine x_ldcS hm rfl ?_
  refine x_aast hm rfl (a_stq (k := 8) (l2 := [.inr (4, [.ref (i + 1), .ref (i + 2), .ref (i + 3), .int 0, .ref (i + 4), .ref (i + 5), .int (-1), .ref (i + 6), .ref (i + 7), .int 0, .int 0, .int 0, .int 0, .int 0, .int 0, .null, .null, .int 0, .int 0, .int 0, .null, .null, .null, .null]), .inl (0, 118, .inl (fun _ => 0)), .inl (0, 118, .inl (fun _ => 0)), .inl (0, 118, .inl (fun _ => 0)), .inl (0, 8, .inl (fun _ => 0)), .inl (0, 8, .inl (fun _ => 0)), .inl (0, 8, .inl (fun _ => 0)), .inl (0, 120, .inl (fun _ => 0)), .inl (4, 7, .inr (.inr (.inr (.inr (va_up (va_up (va_up (va_up (va_up (fun _ => none) 0 (some 1000007)) 1 (some 1000001)) 2 (some 1000002)) 3 (some 1000003)) 4 (some 1000004))))))]) hi rfl rfl (by decide) (by decide) (by decide) (by decide)) ?_
  refine x_dup hm rfl rfl ?_
  refine x_iconst hm rfl (v := nI 5) (by decide) ?_
  refine x_ldcS hm rfl ?_
  refine x_aast hm rfl (a_stq (k := 8) (l2 := [.inr (4, [.ref (i + 1), .ref (i + 2), .ref (i + 3), .int 0, .ref (i + 4), .ref (i + 5), .int (-1), .ref (i + 6), .ref (i + 7), .int 0, .int 0, .int 0, .int 0, .int 0, .int 0, .null, .null, .int 0, .int 0, .int 0, .null, .null, .null, .null]), .inl (0, 118, .inl (fun _ => 0)), .inl (0, 118, .inl (fun _ => 0)), .inl (0, 118, .inl (fun _ => 0)), .inl (0, 8, .inl (fun _ => 0)), .inl (0, 8, .inl (fun _ => 0)), .inl (0, 8, .inl (fun _ => 0)), .inl (0, 120, .inl (fun _ => 0)), .inl (4, 7, .inr (.inr (.inr (.inr (va_up (va_up (va_up (va_up (va_up (va_up (fun _ => none) 0 (some 1000007)) 1 (some 1000001)) 2 (some 1000002)) 3 (some 1000003)) 4 (some 1000004)) 5 (some 1000005))))))]) hi rfl rfl (by decide) (by decide) (by decide) (by decide)) ?_
  refine x_dup hm rfl rfl ?_
  refine x_bipush hm rfl (v := nI 6) (by decide) ?_
  refine x_ldcS hm rfl ?_
  refine x_aast hm rfl (a_stq (k := 8) (l2 := [.inr (4, [.ref (i + 1), .ref (i + 2), .ref (i + 3), .int 0, .ref (i + 4), .ref (i + 5), .int (-1), .ref (i + 6), .ref (i + 7), .int 0, .int 0, .int 0, .int 0, .int 0, .int 0, .null, .null, .int 0, .int 0, .int 0, .null, .null, .null, .null]), .inl (0, 118, .inl (fun _ => 0)), .inl (0, 118, .inl (fun _ => 0)), .inl (0, 118, .inl (fun _ => 0)), .inl (0, 8, .inl (fun _ => 0)), .inl (0, 8, .inl (fun _ => 0)), .inl (0, 8, .inl (fun _ => 0)), .inl (0, 120, .inl (fun _ => 0)), .inl (4, 7, .inr (.inr (.inr (.inr (va_up (va_up (va_up (va_up (va_up (va_up (va_up (fun _ => none) 0 (some 1000007)) 1 (some 1000001)) 2 (some 1000002)) 3 (some 1000003)) 4 (some 1000004)) 5 (some 1000005)) 6 (some 1000006))))))]) hi rfl rfl (by decide) (by decide) (by decide) (by decide)) ?_
  refine x_putf hm rfl (a_put (k := 0) (l2 := [.inr (4, [.ref (i + 1), .ref (i + 2), .ref (i + 3), .int 0, .ref (i + 4), .ref (i + 5), .int (-1), .ref (i + 6), .ref (i + 7), .int 0, .int 0, .int 0, .int 0, .int 0, .int 0, .ref (i + 8), .null, .int 0, .int 0, .int 0, .null, .null, .null, .null]), .inl (0, 118, .inl (fun _ => 0)), .inl (0, 118, .inl (fun _ => 0)), .inl (0, 118, .inl (fun _ => 0)), .inl (0, 8, .inl (fun _ => 0)), .inl (0, 8, .inl (fun _ => 0)), .inl (0, 8, .inl (fun _ => 0)), .inl (0, 120, .inl (fun _ => 0)), .inl (4, 7, .inr (.inr (.inr (.inr (va_up (va_up (va_up (va_up (va_up (va_up (va_up (fun _ => none) 0 (some 1000007)) 1 (some 1000001)) 2 (some 1000002)) 3 (some 1000003)) 4 (some 1000004)) 5 (some 1000005)) 6 (some 1000006))))))]) hi rfl) ?_
  refine x_aload_n hm rfl rfl ?_
  refine x_sipush hm rfl (v := nI 840) (by decide) ?_
  refine x_nai hm rfl (by decide) (a_len (k := 9) hi rfl) (D2 := D0 ++ [.inr (4, [.ref (i + 1), .ref (i + 2), .ref (i + 3), .int 0, .ref (i + 4), .ref (i + 5), .int (-1), .ref (i + 6), .ref (i + 7), .int 0, .int 0, .int 0, .int 0, .int 0, .int 0, .ref (i + 8), .null, .int 0, .int 0, .int 0, .null, .null, .null, .null]), .inl (0, 118, .inl (fun _ => 0)), .inl (0, 118, .inl (fun _ => 0)), .inl (0, 118, .inl (fun _ => 0)), .inl (0, 8, .inl (fun _ => 0)), .inl (0, 8, .inl (fun _ => 0)), .inl (0, 8, .inl (fun _ => 0)), .inl (0, 120, .inl (fun _ => 0)), .inl (4, 7, .inr (.inr (.inr (.inr (va_up (va_up (va_up (va_up (va_up (va_up (va_up (fun _ => none) 0 (some 1000007)) 1 (some 1000001)) 2 (some 1000002)) 3 (some 1000003)) 4 (some 1000004)) 5 (some 1000005)) 6 (some 1000006)))))), .inl (0, 840, .inl (fun _ => 0))]) (app_sn rfl) ?_
  refine x_putf hm rfl (a_put (k := 0) (l2 := [.inr (4, [.ref (i + 1), .ref (i + 2), .ref (i + 3), .int 0, .ref (i + 4), .ref (i + 5), .int (-1), .ref (i + 6), .ref (i + 7), .int 0, .int 0, .int 0, .int 0, .int 0, .int 0, .ref (i + 8), .ref (i + 9), .int 0, .int 0, .int 0, .null, .null, .null, .null]), .inl (0, 118, .inl (fun _ => 0)), .inl (0, 118, .inl (fun _ => 0)), .inl (0, 118, .inl (fun _ => 0)), .inl (0, 8, .inl (fun _ => 0)), .inl (0, 8, .inl (fun _ => 0)), .inl (0, 8, .inl (fun _ => 0)), .inl (0, 120, .inl (fun _ => 0)), .inl (4, 7, .inr (.inr (.inr (.inr (va_up (va_up (va_up (va_up (va_up (va_up (va_up (fun _ => none) 0 (some 1000007)) 1 (some 1000001)) 2 (some 1000002)) 3 (some 1000003)) 4 (some 1000004)) 5 (some 1000005)) 6 (some 1000006)))))), .inl (0, 840, .inl (fun _ => 0))]) hi rfl) ?_
  refine x_aload_n hm rfl rfl ?_
  refine x_iconst hm rfl (v := nI 4) (by decide) ?_
  refine x_nai hm rfl (by decide) (a_len (k := 10) hi rfl) (D2 := D0 ++ [.inr (4, [.ref (i + 1), .ref (i + 2), .ref (i + 3), .int 0, .ref (i + 4), .ref (i + 5), .int (-1), .ref (i + 6), .ref (i + 7), .int 0, .int 0, .int 0, .int 0, .int 0, .int 0, .ref (i + 8), .ref (i + 9), .int 0, .int 0, .int 0, .null, .null, .null, .null]), .inl (0, 118, .inl (fun _ => 0)), .inl (0, 118, .inl (fun _ => 0)), .inl (0, 118, .inl (fun _ => 0)), .inl (0, 8, .inl (fun _ => 0)), .inl (0, 8, .inl (fun _ => 0)), .inl (0, 8, .inl (fun _ => 0)), .inl (0, 120, .inl (fun _ => 0)), .inl (4, 7, .inr (.inr (.inr (.inr (va_up (va_up (va_up (va_up (va_up (va_up (va_up (fun _ => none) 0 (some 1000007)) 1 (some 1000001)) 2 (some 1000002)) 3 (some 1000003)) 4 (some 1000004)) 5 (some 1000005)) 6 (some 1000006)))))), .inl (0, 840, .inl (fun _ => 0)), .inl (0, 4, .inl (fun _ => 0))]) (app_sn rfl) ?_
  refine x_putf hm rfl (a_put (k := 0) (l2 := [.inr (4, [.ref (i + 1), .ref (i + 2), .ref (i + 3), .int 0, .ref (i + 4), .ref (i + 5), .int (-1), .ref (i + 6), .ref (i + 7), .int 0, .int 0, .int 0, .int 0, .int 0, .int 0, .ref (i + 8), .ref (i + 9), .int 0, .int 0, .int 0, .ref (i + 10), .null, .null, .null]), .inl (0, 118, .inl (fun _ => 0)), .inl (0, 118, .inl (fun _ => 0)), .inl (0, 118, .inl (fun _ => 0)), .inl (0, 8, .inl (fun _ => 0)), .inl (0, 8, .inl (fun _ => 0)), .inl (0, 8, .inl (fun _ => 0)), .inl (0, 120, .inl (fun _ => 0)), .inl (4, 7, .inr (.inr (.inr (.inr (va_up (va_up (va_up (va_up (va_up (va_up (va_up (fun _ => none) 0 (some 1000007)) 1 (some 1000001)) 2 (some 1000002)) 3 (some 1000003)) 4 (some 1000004)) 5 (some 1000005)) 6 (some 1000006)))))), .inl (0, 840, .inl (fun _ => 0)), .inl (0, 4, .inl (fun _ => 0))]) hi rfl) ?_
  refine x_aload_n hm rfl rfl ?_
  refine x_iconst hm rfl (v := nI 4) (by decide) ?_
  refine x_nai hm rfl (by decide) (a_len (k := 11) hi rfl) (D2 := D0 ++ [.inr (4, [.ref (i + 1), .ref (i + 2), .ref (i + 3), .int 0, .ref (i + 4), .ref (i + 5), .int (-1), .ref (i + 6), .ref (i + 7), .int 0, .int 0, .int 0, .int 0, .int 0, .int 0, .ref (i + 8), .ref (i + 9), .int 0, .int 0, .int 0, .ref (i + 10), .null, .null, .null]), .inl (0, 118, .inl (fun _ => 0)), .inl (0, 118, .inl (fun _ => 0)), .inl (0, 118, .inl (fun _ => 0)), .inl (0, 8, .inl (fun _ => 0)), .inl (0, 8, .inl (fun _ => 0)), .inl (0, 8, .inl (fun _ => 0)), .inl (0, 120, .inl (fun _ => 0)), .inl (4, 7, .inr (.inr (.inr (.inr (va_up (va_up (va_up (va_up (va_up (va_up (va_up (fun _ => none) 0 (some 1000007)) 1 (some 1000001)) 2 (some 1000002)) 3 (some 1000003)) 4 (some 1000004)) 5 (some 1000005)) 6 (some 1000006)))))), .inl (0, 840, .inl (fun _ => 0)), .inl (0, 4, .inl (fun _ => 0)), .inl (0, 4, .inl (fun _ => 0))]) (app_sn rfl) ?_
  refine x_putf hm rfl (a_put (k := 0) (l2 := [.inr (4, [.ref (i + 1), .ref (i + 2), .ref (i + 3), .int 0, .ref (i + 4), .ref (i + 5), .int (-1), .ref (i + 6), .ref (i + 7), .int 0, .int 0, .int 0, .int 0, .int 0, .int 0, .ref (i + 8), .ref (i + 9), .int 0, .int 0, .int 0, .ref (i + 10), .ref (i + 11), .null, .null]), .inl (0, 118, .inl (fun _ => 0)), .inl (0, 118, .inl (fun _ => 0)), .inl (0, 118, .inl (fun _ => 0)), .inl (0, 8, .inl (fun _ => 0)), .inl (0, 8, .inl (fun _ => 0)), .inl (0, 8, .inl (fun _ => 0)), .inl (0, 120, .inl (fun _ => 0)), .inl (4, 7, .inr (.inr (.inr (.inr (va_up (va_up (va_up (va_up (va_up (va_up (va_up (fun _ => none) 0 (some 1000007)) 1 (some 1000001)) 2 (some 1000002)) 3 (some 1000003)) 4 (some 1000004)) 5 (some 1000005)) 6 (some 1000006)))))), .inl (0, 840, .inl (fun _ => 0)), .inl (0, 4, .inl (fun _ => 0)), .inl (0, 4, .inl (fun _ => 0))]) hi rfl) ?_
  refine x_aload_n hm rfl rfl ?_
  refine x_sipush hm rfl (v := nI 160) (by decide) ?_
  refine x_nai hm rfl (by decide) (a_len (k := 12) hi rfl) (D2 := D0 ++ [.inr (4, [.ref (i + 1), .ref (i + 2), .ref (i + 3), .int 0, .ref (i + 4), .ref (i + 5), .int (-1), .ref (i + 6), .ref (i + 7), .int 0, .int 0, .int 0, .int 0, .int 0, .int 0, .ref (i + 8), .ref (i + 9), .int 0, .int 0, .int 0, .ref (i + 10), .ref (i + 11), .null, .null]), .inl (0, 118, .inl (fun _ => 0)), .inl (0, 118, .inl (fun _ => 0)), .inl (0, 118, .inl (fun _ => 0)), .inl (0, 8, .inl (fun _ => 0)), .inl (0, 8, .inl (fun _ => 0)), .inl (0, 8, .inl (fun _ => 0)), .inl (0, 120, .inl (fun _ => 0)), .inl (4, 7, .inr (.inr (.inr (.inr (va_up (va_up (va_up (va_up (va_up (va_up (va_up (fun _ => none) 0 (some 1000007)) 1 (some 1000001)) 2 (some 1000002)) 3 (some 1000003)) 4 (some 1000004)) 5 (some 1000005)) 6 (some 1000006)))))), .inl (0, 840, .inl (fun _ => 0)), .inl (0, 4, .inl (fun _ => 0)), .inl (0, 4, .inl (fun _ => 0)), .inl (0, 160, .inl (fun _ => 0))]) (app_sn rfl) ?_
  refine x_putf hm rfl (a_put (k := 0) (l2 := [.inr (4, [.ref (i + 1), .ref (i + 2), .ref (i + 3), .int 0, .ref (i + 4), .ref (i + 5), .int (-1), .ref (i + 6), .ref (i + 7), .int 0, .int 0, .int 0, .int 0, .int 0, .int 0, .ref (i + 8), .ref (i + 9), .int 0, .int 0, .int 0, .ref (i + 10), .ref (i + 11), .ref (i + 12), .null]), .inl (0, 118, .inl (fun _ => 0)), .inl (0, 118, .inl (fun _ => 0)), .inl (0, 118, .inl (fun _ => 0)), .inl (0, 8, .inl (fun _ => 0)), .inl (0, 8, .inl (fun _ => 0)), .inl (0, 8, .inl (fun _ => 0)), .inl (0, 120, .inl (fun _ => 0)), .inl (4, 7, .inr (.inr (.inr (.inr (va_up (va_up (va_up (va_up (va_up (va_up (va_up (fun _ => none) 0 (some 1000007)) 1 (some 1000001)) 2 (some 1000002)) 3 (some 1000003)) 4 (some 1000004)) 5 (some 1000005)) 6 (some 1000006)))))), .inl (0, 840, .inl (fun _ => 0)), .inl (0, 4, .inl (fun _ => 0)), .inl (0, 4, .inl (fun _ => 0)), .inl (0, 160, .inl (fun _ => 0))]) hi rfl) ?_
  refine x_aload_n hm rfl rfl ?_
  refine x_bipush hm rfl (v := nI 40) (by decide) ?_
  refine x_nai hm rfl (by decide) (a_len (k := 13) hi rfl) (D2 := D0 ++ [.inr (4, [.ref (i + 1), .ref (i + 2), .ref (i + 3), .int 0, .ref (i + 4), .ref (i + 5), .int (-1), .ref (i + 6), .ref (i + 7), .int 0, .int 0, .int 0, .int 0, .int 0, .int 0, .ref (i + 8), .ref (i + 9), .int 0, .int 0, .int 0, .ref (i + 10), .ref (i + 11), .ref (i + 12), .null]), .inl (0, 118, .inl (fun _ => 0)), .inl (0, 118, .inl (fun _ => 0)), .inl (0, 118, .inl (fun _ => 0)), .inl (0, 8, .inl (fun _ => 0)), .inl (0, 8, .inl (fun _ => 0)), .inl (0, 8, .inl (fun _ => 0)), .inl (0, 120, .inl (fun _ => 0)), .inl (4, 7, .inr (.inr (.inr (.inr (va_up (va_up (va_up (va_up (va_up (va_up (va_up (fun _ => none) 0 (some 1000007)) 1 (some 1000001)) 2 (some 1000002)) 3 (some 1000003)) 4 (some 1000004)) 5 (some 1000005)) 6 (some 1000006)))))), .inl (0, 840, .inl (fun _ => 0)), .inl (0, 4, .inl (fun _ => 0)), .inl (0, 4, .inl (fun _ => 0)), .inl (0, 160, .inl (fun _ => 0)), .inl (0, 40, .inl (fun _ => 0))]) (app_sn rfl) ?_
  refine x_putf hm rfl (a_put (k := 0) (l2 := [.inr (4, [.ref (i + 1), .ref (i + 2), .ref (i + 3), .int 0, .ref (i + 4), .ref (i + 5), .int (-1), .ref (i + 6), .ref (i + 7), .int 0, .int 0, .int 0, .int 0, .int 0, .int 0, .ref (i + 8), .ref (i + 9), .int 0, .int 0, .int 0, .ref (i + 10), .ref (i + 11), .ref (i + 12), .ref (i + 13)]), .inl (0, 118, .inl (fun _ => 0)), .inl (0, 118, .inl (fun _ => 0)), .inl (0, 118, .inl (fun _ => 0)), .inl (0, 8, .inl (fun _ => 0)), .inl (0, 8, .inl (fun _ => 0)), .inl (0, 8, .inl (fun _ => 0)), .inl (0, 120, .inl (fun _ => 0)), .inl (4, 7, .inr (.inr (.inr (.inr (va_up (va_up (va_up (va_up (va_up (va_up (va_up (fun _ => none) 0 (some 1000007)) 1 (some 1000001)) 2 (some 1000002)) 3 (some 1000003)) 4 (some 1000004)) 5 (some 1000005)) 6 (some 1000006)))))), .inl (0, 840, .inl (fun _ => 0)), .inl (0, 4, .inl (fun _ => 0)), .inl (0, 4, .inl (fun _ => 0)), .inl (0, 160, .inl (fun _ => 0)), .inl (0, 40, .inl (fun _ => 0))]) hi rfl) ?_
  refine x_aload_n hm rfl rfl ?_
  refine x_getf hm rfl (a_get (k := 0) hi rfl) ?_
  refine x_iconst hm rfl (v := nI 3) (by decide) ?_
  refine x_iconst hm rfl (v := nI 1) (by decide) ?_
  refine x_iast hm rfl (a_sti (k := 1) hi rfl (by decide) (by decide)) ?_
  rw [nwF_0]
  refine x_iconst hm rfl (v := nI 0) (by decide) ?_
  refine x_istore_n hm rfl rfl ?_
  have h := c131l (X := X) (D := D0 ++ modL i (nwF 0)) (i := i) (c := i + 1) (fun f => by rw [app_set hi]; exact a_get (k := 0) hi rfl) (by rw [a_len (k := 14) hi rfl]; omega) 11 0 (by decide) (by decide)
  rw [app_set hi, app_set hi] at h
  rw [kn7]
  exact h
theorem put_hd {o o2 : va_E} {r : mHp} {kd : Nat} {v : Value} (h : mPut row kd [o] 0 a b v = some [o2]) : mPut row kd (o :: r) 0 a b v = some (o2 :: r) := by
  unfold mPut at h ⊢
  cases o with
  | inl q => cases h
  | inr o =>
    obtain ⟨c, fs⟩ := o
    have h2 : cond _ (some ([_] : mHp)) none = some [o2] := h
    obtain ⟨hB, hl⟩ := mCond_eq h2
    have e := (List.cons.inj (Option.some.inj hl)).1
    show cond _ (some (_ :: r)) none = _
    rw [hB, ← e]
    rfl
theorem get_hd {o : va_E} {r : mHp} {v : Value} (h : mGet [o] 0 a b = some v) : mGet (o :: r) 0 a b = some v := h
noncomputable def R1 : mHp := townL 1
noncomputable def R2 : mHp := R1 ++ townL 18
noncomputable def R3 : mHp := R2 ++ townL 35
noncomputable def R4 : mHp := R3 ++ [.inr (1, [.ref 53, .int 0, .int 0, .int 0, .int 0, .int 0, .int (-1)]), .inl (1, 120, .inl (fun _ => 0))]
theorem R1_l : R1.length = 17 := rfl
theorem R2_l : R2.length = 34 := by unfold R2; rw [List.length_append, R1_l]; rfl
theorem R3_l : R3.length = 51 := by unfold R3; rw [List.length_append, R2_l]; rfl
theorem R4_l : R4.length = 53 := by unfold R4; rw [List.length_append, R3_l]; rfl
theorem hd_l {o : va_E} {r : mHp} (h : r.length = n) : (o :: r).length = n + 1 := congrArg (· + 1) h
theorem hd_la {o : va_E} {r : mHp} (h : r.length = n) (g : l.length = k) : (o :: (r ++ l)).length = n + k + 1 := by rw [List.length_cons, List.length_append, h, g]
theorem e_stq {o : va_E} {r : mHp} {m : Nat} {f : Nat → Option Nat} {fs : List Value} {v q j : Nat} (hr : r.length = 53) (h : l[0]? = some (.inl (2, m, .inr (.inr (.inr (.inr f)))))) (hv : v = 54 + q) (hq : l[q]? = some (.inr (0, fs))) (hl : l.set 0 (.inl (2, m, .inr (.inr (.inr (.inr (va_up f j (some v))))))) = l2) (hj : j < m) (hm : m ≤ 1000) : mStQ (o :: (r ++ l)) 54 (nI j) v = some (o :: (r ++ l2)) := by
  have hi : (o :: r).length = 54 := by rw [List.length_cons, hr]
  show mStQ ((o :: r) ++ l) (54 + 0) (nI j) v = some ((o :: r) ++ l2)
  unfold mStQ
  rw [app_at hi, h]
  dsimp only
  have e : mAk ((o :: r) ++ l) 2 v = true := by
    show (match ((o :: r) ++ l)[v]? with
      | some (.inr (c, _)) => Nat.beq c 0
      | _ => false) = true
    rw [hv, app_at hi, hq]
    rfl
  rw [e, jI_out hj hm, jI_nat (by omega), app_set hi, hl]
  rfl
theorem hd_sn {o : va_E} {r x : mHp} (h : l ++ x = l2) : (o :: (r ++ l)) ++ x = o :: (r ++ l2) := by
  show o :: ((r ++ l) ++ x) = _
  rw [List.append_assoc, h]
theorem nw_at {c : va_E} (h : D.length = i) : (D ++ [c])[i]? = some c := by
  rw [List.getElem?_append_right (by omega), h, Nat.sub_self]
  rfl
theorem mCallN {ins : Instr} {len j kd a n pc c : Nat} {z : Int} {st as r : List Value} {rw2 : mRow} {fs : List Value} (hk : kd = 14 ∨ kd = 15) (h1 : (st.take n).reverse = .ref b :: as) (h2 : st.drop n = r) (h3 : (Nat.ble n st.length && mC1 (st.take n) && Nat.ble (mWt (st.drop n)) 8) = true) (h4 : mMet a = some rw2) (h5 : rw2.1 = c) (hD : D[b]? = some (.inr (c, fs))) :
    mCall (ins, len, j, kd, a, n, z) true pc L st D = some (.inr (.inr (a, .ref b :: as, r))) := by
  have hr : mRcv D (st.take n).reverse a = true := by
    unfold mRcv
    rw [h1]
    dsimp only
    rw [hD, h4]
    dsimp only
    rw [h5]
    exact Nat.beq_refl c
  have key : cond (Nat.ble n st.length && mC1 (st.take n) && Nat.ble (mWt (st.drop n)) 8 && (!true || mRcv D (st.take n).reverse a)) (some ((.inr (.inr (a, (st.take n).reverse, st.drop n))) : mRes)) none = some (.inr (.inr (a, .ref b :: as, r))) := by
    rw [h3, hr, h1, h2]
    rfl
  rcases hk with rfl | rfl <;> exact key
noncomputable def E66 : mHp := .inr (3, [.ref 1, .ref 18, .ref 35, .ref 52, .ref 54, .ref 55, .int 0, .ref 56, .ref 57]) :: (R4 ++ [.inl (2, 4, .inr (.inr (.inr (.inr (va_up (va_up (va_up (va_up (fun _ => none) 0 (some 58)) 1 (some 60)) 2 (some 62)) 3 (some 64)))))), .inl (0, 7, .inl (fun _ => 0)), .inl (0, 8, .inl (fun _ => 0)), .inl (0, 8, .inl (fun _ => 0)), .inr (0, [.ref 59, .int 0, .int 0]), .inl (0, 40, .inl (fun _ => 0)), .inr (0, [.ref 61, .int 0, .int 0]), .inl (0, 40, .inl (fun _ => 0)), .inr (0, [.ref 63, .int 0, .int 0]), .inl (0, 40, .inl (fun _ => 0)), .inr (0, [.ref 65, .int 0, .int 0]), .inl (0, 40, .inl (fun _ => 0))])
theorem c0 : mT X 0 [.ref 0] [.inr (3, mDf 3)] none E66 := by
  refine mT.of (row := _) rfl (Nat.le_of_ble_eq_true rfl) ?_
  have hm : mMet 0 = some _ := rfl
  refine x_aload_n hm rfl rfl ?_
  refine x_libI hm rfl rfl ?_
  dsimp only
  refine x_aload_n hm rfl rfl ?_
  refine x_new hm rfl (d := 1) (rfl) (D2 := [.inr (3, [.null, .null, .null, .null, .null, .null, .int 0, .null, .null])] ++ [.inr (2, mDf 2)]) rfl ?_
  refine x_dup hm rfl rfl ?_
  refine x_callI hm rfl (mCallN (by decide) rfl rfl rfl rfl rfl (nw_at (rfl))) (c2 (D0 := [.inr (3, [.null, .null, .null, .null, .null, .null, .int 0, .null, .null])]) (i := 1) (rfl)) ?_
  refine x_putf hm rfl (D1 := .inr (3, [.ref 1, .null, .null, .null, .null, .null, .int 0, .null, .null]) :: R1) (put_hd rfl) ?_
  refine x_aload_n hm rfl rfl ?_
  refine x_new hm rfl (d := 18) (hd_l R1_l) (D2 := (.inr (3, [.ref 1, .null, .null, .null, .null, .null, .int 0, .null, .null]) :: R1) ++ [.inr (2, mDf 2)]) rfl ?_
  refine x_dup hm rfl rfl ?_
  refine x_callI hm rfl (mCallN (by decide) rfl rfl rfl rfl rfl (nw_at (hd_l R1_l))) (c2 (D0 := (.inr (3, [.ref 1, .null, .null, .null, .null, .null, .int 0, .null, .null]) :: R1)) (i := 18) (hd_l R1_l)) ?_
  refine x_putf hm rfl (D1 := .inr (3, [.ref 1, .ref 18, .null, .null, .null, .null, .int 0, .null, .null]) :: R2) (put_hd rfl) ?_
  refine x_aload_n hm rfl rfl ?_
  refine x_new hm rfl (d := 35) (hd_l R2_l) (D2 := (.inr (3, [.ref 1, .ref 18, .null, .null, .null, .null, .int 0, .null, .null]) :: R2) ++ [.inr (2, mDf 2)]) rfl ?_
  refine x_dup hm rfl rfl ?_
  refine x_callI hm rfl (mCallN (by decide) rfl rfl rfl rfl rfl (nw_at (hd_l R2_l))) (c2 (D0 := (.inr (3, [.ref 1, .ref 18, .null, .null, .null, .null, .int 0, .null, .null]) :: R2)) (i := 35) (hd_l R2_l)) ?_
  refine x_putf hm rfl (D1 := .inr (3, [.ref 1, .ref 18, .ref 35, .null, .null, .null, .int 0, .null, .null]) :: R3) (put_hd rfl) ?_
  refine x_aload_n hm rfl rfl ?_
  refine x_new hm rfl (d := 52) (hd_l R3_l) (D2 := (.inr (3, [.ref 1, .ref 18, .ref 35, .null, .null, .null, .int 0, .null, .null]) :: R3) ++ [.inr (1, mDf 1)]) rfl ?_
  refine x_dup hm rfl rfl ?_
  refine x_callI hm rfl (mCallN (by decide) rfl rfl rfl rfl rfl (nw_at (hd_l R3_l))) (c3 (D0 := (.inr (3, [.ref 1, .ref 18, .ref 35, .null, .null, .null, .int 0, .null, .null]) :: R3)) (i := 52) (hd_l R3_l)) ?_
  refine x_putf hm rfl (D1 := .inr (3, [.ref 1, .ref 18, .ref 35, .ref 52, .null, .null, .int 0, .null, .null]) :: R4) (put_hd rfl) ?_
  refine x_aload_n hm rfl rfl ?_
  refine x_iconst hm rfl (v := nI 4) (by decide) ?_
  refine x_ana hm rfl (by decide) (d := 54) (hd_l R4_l) (D2 := .inr (3, [.ref 1, .ref 18, .ref 35, .ref 52, .null, .null, .int 0, .null, .null]) :: (R4 ++ [.inl (2, 4, .inr (.inr (.inr (.inr (fun _ => none)))))])) rfl ?_
  refine x_putf hm rfl (D1 := .inr (3, [.ref 1, .ref 18, .ref 35, .ref 52, .ref 54, .null, .int 0, .null, .null]) :: (R4 ++ [.inl (2, 4, .inr (.inr (.inr (.inr (fun _ => none)))))])) (put_hd rfl) ?_
  refine x_aload_n hm rfl rfl ?_
  refine x_bipush hm rfl (v := nI 7) (by decide) ?_
  refine x_nai hm rfl (by decide) (d := 55) (hd_la R4_l (k := 1) rfl) (D2 := .inr (3, [.ref 1, .ref 18, .ref 35, .ref 52, .ref 54, .null, .int 0, .null, .null]) :: (R4 ++ [.inl (2, 4, .inr (.inr (.inr (.inr (fun _ => none))))), .inl (0, 7, .inl (fun _ => 0))])) (hd_sn rfl) ?_
  refine x_putf hm rfl (D1 := .inr (3, [.ref 1, .ref 18, .ref 35, .ref 52, .ref 54, .ref 55, .int 0, .null, .null]) :: (R4 ++ [.inl (2, 4, .inr (.inr (.inr (.inr (fun _ => none))))), .inl (0, 7, .inl (fun _ => 0))])) (put_hd rfl) ?_
  refine x_aload_n hm rfl rfl ?_
  refine x_iconst hm rfl (v := nI 0) (by decide) ?_
  refine x_putf hm rfl (D1 := .inr (3, [.ref 1, .ref 18, .ref 35, .ref 52, .ref 54, .ref 55, .int 0, .null, .null]) :: (R4 ++ [.inl (2, 4, .inr (.inr (.inr (.inr (fun _ => none))))), .inl (0, 7, .inl (fun _ => 0))])) (put_hd rfl) ?_
  refine x_aload_n hm rfl rfl ?_
  refine x_bipush hm rfl (v := nI 8) (by decide) ?_
  refine x_nai hm rfl (by decide) (d := 56) (hd_la R4_l (k := 2) rfl) (D2 := .inr (3, [.ref 1, .ref 18, .ref 35, .ref 52, .ref 54, .ref 55, .int 0, .null, .null]) :: (R4 ++ [.inl (2, 4, .inr (.inr (.inr (.inr (fun _ => none))))), .inl (0, 7, .inl (fun _ => 0)), .inl (0, 8, .inl (fun _ => 0))])) (hd_sn rfl) ?_
  refine x_putf hm rfl (D1 := .inr (3, [.ref 1, .ref 18, .ref 35, .ref 52, .ref 54, .ref 55, .int 0, .ref 56, .null]) :: (R4 ++ [.inl (2, 4, .inr (.inr (.inr (.inr (fun _ => none))))), .inl (0, 7, .inl (fun _ => 0)), .inl (0, 8, .inl (fun _ => 0))])) (put_hd rfl) ?_
  refine x_aload_n hm rfl rfl ?_
  refine x_bipush hm rfl (v := nI 8) (by decide) ?_
  refine x_nai hm rfl (by decide) (d := 57) (hd_la R4_l (k := 3) rfl) (D2 := .inr (3, [.ref 1, .ref 18, .ref 35, .ref 52, .ref 54, .ref 55, .int 0, .ref 56, .null]) :: (R4 ++ [.inl (2, 4, .inr (.inr (.inr (.inr (fun _ => none))))), .inl (0, 7, .inl (fun _ => 0)), .inl (0, 8, .inl (fun _ => 0)), .inl (0, 8, .inl (fun _ => 0))])) (hd_sn rfl) ?_
  refine x_putf hm rfl (D1 := .inr (3, [.ref 1, .ref 18, .ref 35, .ref 52, .ref 54, .ref 55, .int 0, .ref 56, .ref 57]) :: (R4 ++ [.inl (2, 4, .inr (.inr (.inr (.inr (fun _ => none))))), .inl (0, 7, .inl (fun _ => 0)), .inl (0, 8, .inl (fun _ => 0)), .inl (0, 8, .inl (fun _ => 0))])) (put_hd rfl) ?_
  refine x_iconst hm rfl (v := nI 0) (by decide) ?_
  refine x_istore_n hm rfl rfl ?_
  refine x_iload_n hm rfl rfl ?_
  refine x_iconst hm rfl (v := nI 4) (by decide) ?_
  refine x_icmp_ge hm rfl (t := 111) rfl (fun h => absurd h (by decide)) (fun _ => ?_)
  refine x_aload_n hm rfl rfl ?_
  refine x_getf hm rfl (get_hd rfl) ?_
  refine x_iload_n hm rfl rfl ?_
  refine x_new hm rfl (d := 58) (hd_la R4_l (k := 4) rfl) (D2 := (.inr (3, [.ref 1, .ref 18, .ref 35, .ref 52, .ref 54, .ref 55, .int 0, .ref 56, .ref 57]) :: (R4 ++ [.inl (2, 4, .inr (.inr (.inr (.inr (fun _ => none))))), .inl (0, 7, .inl (fun _ => 0)), .inl (0, 8, .inl (fun _ => 0)), .inl (0, 8, .inl (fun _ => 0))])) ++ [.inr (0, mDf 0)]) rfl ?_
  refine x_dup hm rfl rfl ?_
  refine x_callI hm rfl (mCallN (by decide) rfl rfl rfl rfl rfl (nw_at (hd_la R4_l (k := 4) rfl))) (c4 (D0 := .inr (3, [.ref 1, .ref 18, .ref 35, .ref 52, .ref 54, .ref 55, .int 0, .ref 56, .ref 57]) :: (R4 ++ [.inl (2, 4, .inr (.inr (.inr (.inr (fun _ => none))))), .inl (0, 7, .inl (fun _ => 0)), .inl (0, 8, .inl (fun _ => 0)), .inl (0, 8, .inl (fun _ => 0))])) (i := 58) (hd_la R4_l (k := 4) rfl)) ?_
  rw [show ∀ z : mHp, (.inr (3, [.ref 1, .ref 18, .ref 35, .ref 52, .ref 54, .ref 55, .int 0, .ref 56, .ref 57]) :: (R4 ++ [.inl (2, 4, .inr (.inr (.inr (.inr (fun _ => none))))), .inl (0, 7, .inl (fun _ => 0)), .inl (0, 8, .inl (fun _ => 0)), .inl (0, 8, .inl (fun _ => 0))])) ++ z = .inr (3, [.ref 1, .ref 18, .ref 35, .ref 52, .ref 54, .ref 55, .int 0, .ref 56, .ref 57]) :: (R4 ++ ([.inl (2, 4, .inr (.inr (.inr (.inr (fun _ => none))))), .inl (0, 7, .inl (fun _ => 0)), .inl (0, 8, .inl (fun _ => 0)), .inl (0, 8, .inl (fun _ => 0))] ++ z)) from fun z => hd_sn rfl]
  refine x_aast hm rfl (D1 := .inr (3, [.ref 1, .ref 18, .ref 35, .ref 52, .ref 54, .ref 55, .int 0, .ref 56, .ref 57]) :: (R4 ++ [.inl (2, 4, .inr (.inr (.inr (.inr (va_up (fun _ => none) 0 (some 58)))))), .inl (0, 7, .inl (fun _ => 0)), .inl (0, 8, .inl (fun _ => 0)), .inl (0, 8, .inl (fun _ => 0)), .inr (0, [.ref 59, .int 0, .int 0]), .inl (0, 40, .inl (fun _ => 0))])) (e_stq (q := 4) R4_l rfl rfl rfl rfl (by decide) (by decide)) ?_
  refine x_iinc hm rfl rfl (v := nI 1) (by decide) rfl ?_
  rw [jI_add]
  refine x_goto hm rfl (t := 87) rfl ?_
  refine x_iload_n hm rfl rfl ?_
  refine x_iconst hm rfl (v := nI 4) (by decide) ?_
  refine x_icmp_ge hm rfl (t := 111) rfl (fun h => absurd h (by decide)) (fun _ => ?_)
  refine x_aload_n hm rfl rfl ?_
  refine x_getf hm rfl (get_hd rfl) ?_
  refine x_iload_n hm rfl rfl ?_
  refine x_new hm rfl (d := 60) (hd_la R4_l (k := 6) rfl) (D2 := (.inr (3, [.ref 1, .ref 18, .ref 35, .ref 52, .ref 54, .ref 55, .int 0, .ref 56, .ref 57]) :: (R4 ++ [.inl (2, 4, .inr (.inr (.inr (.inr (va_up (fun _ => none) 0 (some 58)))))), .inl (0, 7, .inl (fun _ => 0)), .inl (0, 8, .inl (fun _ => 0)), .inl (0, 8, .inl (fun _ => 0)), .inr (0, [.ref 59, .int 0, .int 0]), .inl (0, 40, .inl (fun _ => 0))])) ++ [.inr (0, mDf 0)]) rfl ?_
  refine x_dup hm rfl rfl ?_
  refine x_callI hm rfl (mCallN (by decide) rfl rfl rfl rfl rfl (nw_at (hd_la R4_l (k := 6) rfl))) (c4 (D0 := .inr (3, [.ref 1, .ref 18, .ref 35, .ref 52, .ref 54, .ref 55, .int 0, .ref 56, .ref 57]) :: (R4 ++ [.inl (2, 4, .inr (.inr (.inr (.inr (va_up (fun _ => none) 0 (some 58)))))), .inl (0, 7, .inl (fun _ => 0)), .inl (0, 8, .inl (fun _ => 0)), .inl (0, 8, .inl (fun _ => 0)), .inr (0, [.ref 59, .int 0, .int 0]), .inl (0, 40, .inl (fun _ => 0))])) (i := 60) (hd_la R4_l (k := 6) rfl)) ?_
  rw [show ∀ z : mHp, (.inr (3, [.ref 1, .ref 18, .ref 35, .ref 52, .ref 54, .ref 55, .int 0, .ref 56, .ref 57]) :: (R4 ++ [.inl (2, 4, .inr (.inr (.inr (.inr (va_up (fun _ => none) 0 (some 58)))))), .inl (0, 7, .inl (fun _ => 0)), .inl (0, 8, .inl (fun _ => 0)), .inl (0, 8, .inl (fun _ => 0)), .inr (0, [.ref 59, .int 0, .int 0]), .inl (0, 40, .inl (fun _ => 0))])) ++ z = .inr (3, [.ref 1, .ref 18, .ref 35, .ref 52, .ref 54, .ref 55, .int 0, .ref 56, .ref 57]) :: (R4 ++ ([.inl (2, 4, .inr (.inr (.inr (.inr (va_up (fun _ => none) 0 (some 58)))))), .inl (0, 7, .inl (fun _ => 0)), .inl (0, 8, .inl (fun _ => 0)), .inl (0, 8, .inl (fun _ => 0)), .inr (0, [.ref 59, .int 0, .int 0]), .inl (0, 40, .inl (fun _ => 0))] ++ z)) from fun z => hd_sn rfl]
  refine x_aast hm rfl (D1 := .inr (3, [.ref 1, .ref 18, .ref 35, .ref 52, .ref 54, .ref 55, .int 0, .ref 56, .ref 57]) :: (R4 ++ [.inl (2, 4, .inr (.inr (.inr (.inr (va_up (va_up (fun _ => none) 0 (some 58)) 1 (some 60)))))), .inl (0, 7, .inl (fun _ => 0)), .inl (0, 8, .inl (fun _ => 0)), .inl (0, 8, .inl (fun _ => 0)), .inr (0, [.ref 59, .int 0, .int 0]), .inl (0, 40, .inl (fun _ => 0)), .inr (0, [.ref 61, .int 0, .int 0]), .inl (0, 40, .inl (fun _ => 0))])) (e_stq (q := 6) R4_l rfl rfl rfl rfl (by decide) (by decide)) ?_
  refine x_iinc hm rfl rfl (v := nI 1) (by decide) rfl ?_
  rw [jI_add]
  refine x_goto hm rfl (t := 87) rfl ?_
  refine x_iload_n hm rfl rfl ?_
  refine x_iconst hm rfl (v := nI 4) (by decide) ?_
  refine x_icmp_ge hm rfl (t := 111) rfl (fun h => absurd h (by decide)) (fun _ => ?_)
  refine x_aload_n hm rfl rfl ?_
  refine x_getf hm rfl (get_hd rfl) ?_
  refine x_iload_n hm rfl rfl ?_
  refine x_new hm rfl (d := 62) (hd_la R4_l (k := 8) rfl) (D2 := (.inr (3, [.ref 1, .ref 18, .ref 35, .ref 52, .ref 54, .ref 55, .int 0, .ref 56, .ref 57]) :: (R4 ++ [.inl (2, 4, .inr (.inr (.inr (.inr (va_up (va_up (fun _ => none) 0 (some 58)) 1 (some 60)))))), .inl (0, 7, .inl (fun _ => 0)), .inl (0, 8, .inl (fun _ => 0)), .inl (0, 8, .inl (fun _ => 0)), .inr (0, [.ref 59, .int 0, .int 0]), .inl (0, 40, .inl (fun _ => 0)), .inr (0, [.ref 61, .int 0, .int 0]), .inl (0, 40, .inl (fun _ => 0))])) ++ [.inr (0, mDf 0)]) rfl ?_
  refine x_dup hm rfl rfl ?_
  refine x_callI hm rfl (mCallN (by decide) rfl rfl rfl rfl rfl (nw_at (hd_la R4_l (k := 8) rfl))) (c4 (D0 := .inr (3, [.ref 1, .ref 18, .ref 35, .ref 52, .ref 54, .ref 55, .int 0, .ref 56, .ref 57]) :: (R4 ++ [.inl (2, 4, .inr (.inr (.inr (.inr (va_up (va_up (fun _ => none) 0 (some 58)) 1 (some 60)))))), .inl (0, 7, .inl (fun _ => 0)), .inl (0, 8, .inl (fun _ => 0)), .inl (0, 8, .inl (fun _ => 0)), .inr (0, [.ref 59, .int 0, .int 0]), .inl (0, 40, .inl (fun _ => 0)), .inr (0, [.ref 61, .int 0, .int 0]), .inl (0, 40, .inl (fun _ => 0))])) (i := 62) (hd_la R4_l (k := 8) rfl)) ?_
  rw [show ∀ z : mHp, (.inr (3, [.ref 1, .ref 18, .ref 35, .ref 52, .ref 54, .ref 55, .int 0, .ref 56, .ref 57]) :: (R4 ++ [.inl (2, 4, .inr (.inr (.inr (.inr (va_up (va_up (fun _ => none) 0 (some 58)) 1 (some 60)))))), .inl (0, 7, .inl (fun _ => 0)), .inl (0, 8, .inl (fun _ => 0)), .inl (0, 8, .inl (fun _ => 0)), .inr (0, [.ref 59, .int 0, .int 0]), .inl (0, 40, .inl (fun _ => 0)), .inr (0, [.ref 61, .int 0, .int 0]), .inl (0, 40, .inl (fun _ => 0))])) ++ z = .inr (3, [.ref 1, .ref 18, .ref 35, .ref 52, .ref 54, .ref 55, .int 0, .ref 56, .ref 57]) :: (R4 ++ ([.inl (2, 4, .inr (.inr (.inr (.inr (va_up (va_up (fun _ => none) 0 (some 58)) 1 (some 60)))))), .inl (0, 7, .inl (fun _ => 0)), .inl (0, 8, .inl (fun _ => 0)), .inl (0, 8, .inl (fun _ => 0)), .inr (0, [.ref 59, .int 0, .int 0]), .inl (0, 40, .inl (fun _ => 0)), .inr (0, [.ref 61, .int 0, .int 0]), .inl (0, 40, .inl (fun _ => 0))] ++ z)) from fun z => hd_sn rfl]
  refine x_aast hm rfl (D1 := .inr (3, [.ref 1, .ref 18, .ref 35, .ref 52, .ref 54, .ref 55, .int 0, .ref 56, .ref 57]) :: (R4 ++ [.inl (2, 4, .inr (.inr (.inr (.inr (va_up (va_up (va_up (fun _ => none) 0 (some 58)) 1 (some 60)) 2 (some 62)))))), .inl (0, 7, .inl (fun _ => 0)), .inl (0, 8, .inl (fun _ => 0)), .inl (0, 8, .inl (fun _ => 0)), .inr (0, [.ref 59, .int 0, .int 0]), .inl (0, 40, .inl (fun _ => 0)), .inr (0, [.ref 61, .int 0, .int 0]), .inl (0, 40, .inl (fun _ => 0)), .inr (0, [.ref 63, .int 0, .int 0]), .inl (0, 40, .inl (fun _ => 0))])) (e_stq (q := 8) R4_l rfl rfl rfl rfl (by decide) (by decide)) ?_
  refine x_iinc hm rfl rfl (v := nI 1) (by decide) rfl ?_
  rw [jI_add]
  refine x_goto hm rfl (t := 87) rfl ?_
  refine x_iload_n hm rfl rfl ?_
  refine x_iconst hm rfl (v := nI 4) (by decide) ?_
  refine x_icmp_ge hm rfl (t := 111) rfl (fun h => absurd h (by decide)) (fun _ => ?_)
  refine x_aload_n hm rfl rfl ?_
  refine x_getf hm rfl (get_hd rfl) ?_
  refine x_iload_n hm rfl rfl ?_
  refine x_new hm rfl (d := 64) (hd_la R4_l (k := 10) rfl) (D2 := (.inr (3, [.ref 1, .ref 18, .ref 35, .ref 52, .ref 54, .ref 55, .int 0, .ref 56, .ref 57]) :: (R4 ++ [.inl (2, 4, .inr (.inr (.inr (.inr (va_up (va_up (va_up (fun _ => none) 0 (some 58)) 1 (some 60)) 2 (some 62)))))), .inl (0, 7, .inl (fun _ => 0)), .inl (0, 8, .inl (fun _ => 0)), .inl (0, 8, .inl (fun _ => 0)), .inr (0, [.ref 59, .int 0, .int 0]), .inl (0, 40, .inl (fun _ => 0)), .inr (0, [.ref 61, .int 0, .int 0]), .inl (0, 40, .inl (fun _ => 0)), .inr (0, [.ref 63, .int 0, .int 0]), .inl (0, 40, .inl (fun _ => 0))])) ++ [.inr (0, mDf 0)]) rfl ?_
  refine x_dup hm rfl rfl ?_
  refine x_callI hm rfl (mCallN (by decide) rfl rfl rfl rfl rfl (nw_at (hd_la R4_l (k := 10) rfl))) (c4 (D0 := .inr (3, [.ref 1, .ref 18, .ref 35, .ref 52, .ref 54, .ref 55, .int 0, .ref 56, .ref 57]) :: (R4 ++ [.inl (2, 4, .inr (.inr (.inr (.inr (va_up (va_up (va_up (fun _ => none) 0 (some 58)) 1 (some 60)) 2 (some 62)))))), .inl (0, 7, .inl (fun _ => 0)), .inl (0, 8, .inl (fun _ => 0)), .inl (0, 8, .inl (fun _ => 0)), .inr (0, [.ref 59, .int 0, .int 0]), .inl (0, 40, .inl (fun _ => 0)), .inr (0, [.ref 61, .int 0, .int 0]), .inl (0, 40, .inl (fun _ => 0)), .inr (0, [.ref 63, .int 0, .int 0]), .inl (0, 40, .inl (fun _ => 0))])) (i := 64) (hd_la R4_l (k := 10) rfl)) ?_
  rw [show ∀ z : mHp, (.inr (3, [.ref 1, .ref 18, .ref 35, .ref 52, .ref 54, .ref 55, .int 0, .ref 56, .ref 57]) :: (R4 ++ [.inl (2, 4, .inr (.inr (.inr (.inr (va_up (va_up (va_up (fun _ => none) 0 (some 58)) 1 (some 60)) 2 (some 62)))))), .inl (0, 7, .inl (fun _ => 0)), .inl (0, 8, .inl (fun _ => 0)), .inl (0, 8, .inl (fun _ => 0)), .inr (0, [.ref 59, .int 0, .int 0]), .inl (0, 40, .inl (fun _ => 0)), .inr (0, [.ref 61, .int 0, .int 0]), .inl (0, 40, .inl (fun _ => 0)), .inr (0, [.ref 63, .int 0, .int 0]), .inl (0, 40, .inl (fun _ => 0))])) ++ z = .inr (3, [.ref 1, .ref 18, .ref 35, .ref 52, .ref 54, .ref 55, .int 0, .ref 56, .ref 57]) :: (R4 ++ ([.inl (2, 4, .inr (.inr (.inr (.inr (va_up (va_up (va_up (fun _ => none) 0 (some 58)) 1 (some 60)) 2 (some 62)))))), .inl (0, 7, .inl (fun _ => 0)), .inl (0, 8, .inl (fun _ => 0)), .inl (0, 8, .inl (fun _ => 0)), .inr (0, [.ref 59, .int 0, .int 0]), .inl (0, 40, .inl (fun _ => 0)), .inr (0, [.ref 61, .int 0, .int 0]), .inl (0, 40, .inl (fun _ => 0)), .inr (0, [.ref 63, .int 0, .int 0]), .inl (0, 40, .inl (fun _ => 0))] ++ z)) from fun z => hd_sn rfl]
  refine x_aast hm rfl (D1 := .inr (3, [.ref 1, .ref 18, .ref 35, .ref 52, .ref 54, .ref 55, .int 0, .ref 56, .ref 57]) :: (R4 ++ [.inl (2, 4, .inr (.inr (.inr (.inr (va_up (va_up (va_up (va_up (fun _ => none) 0 (some 58)) 1 (some 60)) 2 (some 62)) 3 (some 64)))))), .inl (0, 7, .inl (fun _ => 0)), .inl (0, 8, .inl (fun _ => 0)), .inl (0, 8, .inl (fun _ => 0)), .inr (0, [.ref 59, .int 0, .int 0]), .inl (0, 40, .inl (fun _ => 0)), .inr (0, [.ref 61, .int 0, .int 0]), .inl (0, 40, .inl (fun _ => 0)), .inr (0, [.ref 63, .int 0, .int 0]), .inl (0, 40, .inl (fun _ => 0)), .inr (0, [.ref 65, .int 0, .int 0]), .inl (0, 40, .inl (fun _ => 0))])) (e_stq (q := 10) R4_l rfl rfl rfl rfl (by decide) (by decide)) ?_
  refine x_iinc hm rfl rfl (v := nI 1) (by decide) rfl ?_
  rw [jI_add]
  refine x_goto hm rfl (t := 87) rfl ?_
  refine x_iload_n hm rfl rfl ?_
  refine x_iconst hm rfl (v := nI 4) (by decide) ?_
  refine x_icmp_ge hm rfl (t := 111) rfl (fun _ => ?_) (fun h => absurd (by decide) h)
  refine x_ret hm rfl rfl ?_
  exact ⟨rfl, rfl⟩
def M0 (a b : Nat) : Int32 := if a = 1 ∨ a = 18 ∨ a = 35 then (if b = 6 then 1 else if b = 7 then -1 else 0) else if a = 17 ∨ a = 34 ∨ a = 51 then (if b < 10 then -1 else 0) else if a = 52 ∨ a = 66 then (if b = 6 then -1 else 0) else if a = 67 then (if b = 3 then 1 else if 4 ≤ b ∧ b < 14 then -1 else 0) else 0

noncomputable def DL : mHp := [.inr (3, [.ref 1, .ref 18, .ref 35, .ref 52, .ref 54, .ref 55, .int 0, .ref 56, .ref 57]),
  .inr (2, [.ref 2, .ref 9, .ref 17, .int 0, .int 0, .int 0, .int 1, .int (-1)]),
  .inl (3, 6, .inr (.inr (.inr (.inr (mrL [3, 4, 5, 6, 7, 8]))))),
  .inl (0, 8, .inl (fun _ => 0)),
  .inl (0, 8, .inl (fun _ => 0)),
  .inl (0, 8, .inl (fun _ => 0)),
  .inl (0, 8, .inl (fun _ => 0)),
  .inl (0, 8, .inl (fun _ => 0)),
  .inl (0, 8, .inl (fun _ => 0)),
  .inl (3, 7, .inr (.inr (.inr (.inr (mrL [10, 11, 12, 13, 14, 15, 16]))))),
  .inl (0, 8, .inl (fun _ => 0)),
  .inl (0, 8, .inl (fun _ => 0)),
  .inl (0, 8, .inl (fun _ => 0)),
  .inl (0, 8, .inl (fun _ => 0)),
  .inl (0, 8, .inl (fun _ => 0)),
  .inl (0, 8, .inl (fun _ => 0)),
  .inl (0, 8, .inl (fun _ => 0)),
  .inl (0, 10, .inl (spF 10)),
  .inr (2, [.ref 19, .ref 26, .ref 34, .int 0, .int 0, .int 0, .int 1, .int (-1)]),
  .inl (3, 6, .inr (.inr (.inr (.inr (mrL [20, 21, 22, 23, 24, 25]))))),
  .inl (0, 8, .inl (fun _ => 0)),
  .inl (0, 8, .inl (fun _ => 0)),
  .inl (0, 8, .inl (fun _ => 0)),
  .inl (0, 8, .inl (fun _ => 0)),
  .inl (0, 8, .inl (fun _ => 0)),
  .inl (0, 8, .inl (fun _ => 0)),
  .inl (3, 7, .inr (.inr (.inr (.inr (mrL [27, 28, 29, 30, 31, 32, 33]))))),
  .inl (0, 8, .inl (fun _ => 0)),
  .inl (0, 8, .inl (fun _ => 0)),
  .inl (0, 8, .inl (fun _ => 0)),
  .inl (0, 8, .inl (fun _ => 0)),
  .inl (0, 8, .inl (fun _ => 0)),
  .inl (0, 8, .inl (fun _ => 0)),
  .inl (0, 8, .inl (fun _ => 0)),
  .inl (0, 10, .inl (spF 10)),
  .inr (2, [.ref 36, .ref 43, .ref 51, .int 0, .int 0, .int 0, .int 1, .int (-1)]),
  .inl (3, 6, .inr (.inr (.inr (.inr (mrL [37, 38, 39, 40, 41, 42]))))),
  .inl (0, 8, .inl (fun _ => 0)),
  .inl (0, 8, .inl (fun _ => 0)),
  .inl (0, 8, .inl (fun _ => 0)),
  .inl (0, 8, .inl (fun _ => 0)),
  .inl (0, 8, .inl (fun _ => 0)),
  .inl (0, 8, .inl (fun _ => 0)),
  .inl (3, 7, .inr (.inr (.inr (.inr (mrL [44, 45, 46, 47, 48, 49, 50]))))),
  .inl (0, 8, .inl (fun _ => 0)),
  .inl (0, 8, .inl (fun _ => 0)),
  .inl (0, 8, .inl (fun _ => 0)),
  .inl (0, 8, .inl (fun _ => 0)),
  .inl (0, 8, .inl (fun _ => 0)),
  .inl (0, 8, .inl (fun _ => 0)),
  .inl (0, 8, .inl (fun _ => 0)),
  .inl (0, 10, .inl (spF 10)),
  .inr (1, [.ref 53, .int 0, .int 0, .int 0, .int 0, .int 0, .int (-1)]),
  .inl (1, 120, .inl (fun _ => 0)),
  .inl (2, 4, .inr (.inr (.inr (.inr (mrL [58, 60, 62, 64]))))),
  .inl (0, 7, .inl (fun _ => 0)),
  .inl (0, 8, .inl (fun _ => 0)),
  .inl (0, 8, .inl (fun _ => 0)),
  .inr (0, [.ref 59, .int 0, .int 0]),
  .inl (0, 40, .inl (fun _ => 0)),
  .inr (0, [.ref 61, .int 0, .int 0]),
  .inl (0, 40, .inl (fun _ => 0)),
  .inr (0, [.ref 63, .int 0, .int 0]),
  .inl (0, 40, .inl (fun _ => 0)),
  .inr (0, [.ref 65, .int 0, .int 0]),
  .inl (0, 40, .inl (fun _ => 0)),
  .inr (4, [.ref 67, .ref 68, .ref 69, .int 0, .ref 70, .ref 71, .int (-1), .ref 72, .ref 73, .int 0, .int 0, .int 0, .int 0, .int 0, .int 0, .ref 74, .ref 75, .int 0, .int 0, .int 0, .ref 76, .ref 77, .ref 78, .ref 79]),
  .inl (0, 118, .inl (nwF 10)),
  .inl (0, 118, .inl (fun _ => 0)),
  .inl (0, 118, .inl (fun _ => 0)),
  .inl (0, 8, .inl (fun _ => 0)),
  .inl (0, 8, .inl (fun _ => 0)),
  .inl (0, 8, .inl (fun _ => 0)),
  .inl (0, 120, .inl (fun _ => 0)),
  .inl (4, 7, .inr (.inr (.inr (.inr (mrL [1000007, 1000001, 1000002, 1000003, 1000004, 1000005, 1000006]))))),
  .inl (0, 840, .inl (fun _ => 0)),
  .inl (0, 4, .inl (fun _ => 0)),
  .inl (0, 4, .inl (fun _ => 0)),
  .inl (0, 160, .inl (fun _ => 0)),
  .inl (0, 40, .inl (fun _ => 0))]
theorem con_ext {M : mM} {l : mHp} (hl : l.length = 80) (h : ∀ k q, mSp[k]? = some q → l[k]? = some (mCellv M k q)) : l = con M := by
  refine List.ext_getElem? fun k => ?_
  have hs : mSp.length = 80 := rfl
  by_cases hk : k < 80
  · have e : mSp[k]? = some mSp[k] := List.getElem?_eq_getElem (by omega)
    rw [h k _ e, con_get e]
  · rw [con_none (by omega), List.getElem?_eq_none (by omega)]
theorem E66_l : E66.length = 66 := hd_la R4_l rfl
theorem D_eq : E66 ++ modL 66 (nwF 10) = DL := by
  unfold E66
  rw [show va_up (va_up (va_up (va_up (fun _ => none : Nat → Option Nat) 0 (some 58)) 1 (some 60)) 2 (some 62)) 3 (some 64) = mrL [58, 60, 62, 64] from sh4]
  rfl
theorem DL_con : DL = con M0 := by
  refine con_ext rfl fun k q hk => ?_
  match k, hk with
  | 0, rfl => rfl
  | 1, rfl => rfl
  | 2, rfl => rfl
  | 3, rfl => rfl
  | 4, rfl => rfl
  | 5, rfl => rfl
  | 6, rfl => rfl
  | 7, rfl => rfl
  | 8, rfl => rfl
  | 9, rfl => rfl
  | 10, rfl => rfl
  | 11, rfl => rfl
  | 12, rfl => rfl
  | 13, rfl => rfl
  | 14, rfl => rfl
  | 15, rfl => rfl
  | 16, rfl => rfl
  | 17, rfl => rfl
  | 18, rfl => rfl
  | 19, rfl => rfl
  | 20, rfl => rfl
  | 21, rfl => rfl
  | 22, rfl => rfl
  | 23, rfl => rfl
  | 24, rfl => rfl
  | 25, rfl => rfl
  | 26, rfl => rfl
  | 27, rfl => rfl
  | 28, rfl => rfl
  | 29, rfl => rfl
  | 30, rfl => rfl
  | 31, rfl => rfl
  | 32, rfl => rfl
  | 33, rfl => rfl
  | 34, rfl => rfl
  | 35, rfl => rfl
  | 36, rfl => rfl
  | 37, rfl => rfl
  | 38, rfl => rfl
  | 39, rfl => rfl
  | 40, rfl => rfl
  | 41, rfl => rfl
  | 42, rfl => rfl
  | 43, rfl => rfl
  | 44, rfl => rfl
  | 45, rfl => rfl
  | 46, rfl => rfl
  | 47, rfl => rfl
  | 48, rfl => rfl
  | 49, rfl => rfl
  | 50, rfl => rfl
  | 51, rfl => rfl
  | 52, rfl => rfl
  | 53, rfl => rfl
  | 54, rfl => rfl
  | 55, rfl => rfl
  | 56, rfl => rfl
  | 57, rfl => rfl
  | 58, rfl => rfl
  | 59, rfl => rfl
  | 60, rfl => rfl
  | 61, rfl => rfl
  | 62, rfl => rfl
  | 63, rfl => rfl
  | 64, rfl => rfl
  | 65, rfl => rfl
  | 66, rfl => rfl
  | 67, rfl => rfl
  | 68, rfl => rfl
  | 69, rfl => rfl
  | 70, rfl => rfl
  | 71, rfl => rfl
  | 72, rfl => rfl
  | 73, rfl => rfl
  | 74, rfl => rfl
  | 75, rfl => rfl
  | 76, rfl => rfl
  | 77, rfl => rfl
  | 78, rfl => rfl
  | 79, rfl => rfl
  | n + 80, hk => exact absurd hk (by simp [mSp])
theorem D_con : E66 ++ modL 66 (nwF 10) = con M0 := D_eq.trans DL_con
theorem M0_wf : Wf M0 := by
  intro a b
  have h0 : ∀ k, okx k 0 := fun k => by
    unfold okx
    split <;> first | trivial | decide
  unfold M0
  by_cases h1 : a = 1 ∨ a = 18 ∨ a = 35
  · rw [if_pos h1, kdO h1]
    by_cases h6 : b = 6
    · subst h6; trivial
    · rw [if_neg h6]
      by_cases h7 : b = 7
      · subst h7; trivial
      · rw [if_neg h7]; exact h0 _
  · rw [if_neg h1]
    by_cases h2 : a = 17 ∨ a = 34 ∨ a = 51
    · rw [if_pos h2]
      split
      · have e : kd a b = 2 := by
          rcases h2 with rfl | rfl | rfl <;> rfl
        rw [e]
        exact okM1
      · exact h0 _
    · rw [if_neg h2]
      by_cases h3 : a = 52 ∨ a = 66
      · rw [if_pos h3]
        split
        · rename_i h6
          subst h6
          have e : kd a 6 = 0 := by
            rcases h3 with rfl | rfl <;> rfl
          rw [e]
          trivial
        · exact h0 _
      · rw [if_neg h3]
        by_cases h4 : a = 67
        · subst h4
          rw [if_pos rfl]
          by_cases h6 : b = 3
          · subst h6; trivial
          · rw [if_neg h6]
            split
            · rename_i h7
              have e : kd 67 b = 2 := by
                unfold kd
                rw [if_pos (by decide), if_neg (by omega), if_pos (by omega)]
              rw [e]
              exact okM1
            · exact h0 _
        · rw [if_neg h4]
          exact h0 _
theorem M0_inv : Inv M0 := by
  refine ⟨M0_wf, ?_, ?_⟩ <;>
  · intro n hn e
    have e0 : n = 0 := by
      have h2 := congrArg Int32.toInt e
      rw [jI_int (by omega)] at h2
      have h3 : (0 : Int) = (n : Int) := h2
      omega
    subst e0
    exact ⟨fun _ => 0, fun t u ht => absurd ht (Nat.not_lt_zero _)⟩
theorem Ck.inv {M M1 : mM} (h : Ck M M1) (hI : Inv M) : Inv M1 := ⟨h.1, by rw [h.2 67 (by decide)]; exact hI.2.1, by rw [h.2 68 (by decide)]; exact hI.2.2⟩
end CV
