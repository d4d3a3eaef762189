section
/-! ===== the constructors: how the world comes to be ===== -/
section CV
variable {X : mSc} {Q : Option Value → mHp → Prop} {mid pc : Nat} {L : mLoc} {st : List Value} {D D0 l l2 : mHp} {row : mRow} {ex : Nat × Nat × Nat × Nat × Nat × Int} {i k a b d n : Nat}
theorem x_new {idx j kd a b : Nat} {z : Int} (hm : mMet mid = some row) (hf : mFetch mid pc = some (.new idx, 3, j, kd, a, b, z)) (hd : D.length = d) {D2 : mHp} (hD : D ++ [.inr (a, mDf a)] = D2) (k : mEv X Q mid (pc + 3) L (.ref d :: st) D2) : mEv X Q mid pc L st D := ev_inl hm hf (q := (pc + 3, L, .ref d :: st, D2)) (by rw [← hd, ← hD]; rfl) k
theorem jn_ok (hn : n ≤ 1000) : ¬ (nI n < 0 ∨ 1000 < (nI n).toNatClampNeg) := by
  rw [jI_nat (by omega)]
  rintro (h | h)
  · exact jI_nn (by omega) h
  · omega
theorem x_nai (hm : mMet mid = some row) (hf : mFetch mid pc = some (.newarray .int, ex)) (hn : n ≤ 1000) (hd : D.length = d) {D2 : mHp} (hD : D ++ [.inl (0, n, .inl (fun _ => 0))] = D2) (k : mEv X Q mid (pc + 2) L (.ref d :: st) D2) : mEv X Q mid pc L (.int (nI n) :: st) D := ev_inl hm hf (q := (pc + 2, L, .ref d :: st, D2)) (by unfold mStep; dsimp only; rw [if_neg (jn_ok hn), jI_nat (by omega), hd, ← hD]; rfl) k
theorem x_nab (hm : mMet mid = some row) (hf : mFetch mid pc = some (.newarray .byte, ex)) (hn : n ≤ 1000) (hd : D.length = d) {D2 : mHp} (hD : D ++ [.inl (1, n, .inl (fun _ => 0))] = D2) (k : mEv X Q mid (pc + 2) L (.ref d :: st) D2) : mEv X Q mid pc L (.int (nI n) :: st) D := ev_inl hm hf (q := (pc + 2, L, .ref d :: st, D2)) (by unfold mStep; dsimp only; rw [if_neg (jn_ok hn), jI_nat (by omega), hd, ← hD]; rfl) k
theorem x_ana {idx j kd a b : Nat} {z : Int} (hm : mMet mid = some row) (hf : mFetch mid pc = some (.anewarray idx, 3, j, kd, a, b, z)) (hn : n ≤ 1000) (hd : D.length = d) {D2 : mHp} (hD : D ++ [.inl (a, n, .inr (.inr (.inr (.inr (fun _ => none)))))] = D2) (k : mEv X Q mid (pc + 3) L (.ref d :: st) D2) : mEv X Q mid pc L (.int (nI n) :: st) D := ev_inl hm hf (q := (pc + 3, L, .ref d :: st, D2)) (by unfold mStep; dsimp only; rw [if_neg (jn_ok hn), jI_nat (by omega), hd, ← hD]; rfl) k
theorem x_mul {idx m j kd a b : Nat} {z : Int} (hm : mMet mid = some row) (hf : mFetch mid pc = some (.multianewarray idx 2, 4, j, kd, a, b, z)) (hn : n ≤ 1000) (hk : m ≤ 1000) (hd : D.length = d) {D2 : mHp} (hD : D ++ (.inl (3, n, .inr (.inr (.inr (.inr (fun i => if i < n then some (d + 1 + i) else none))))) :: List.replicate n (.inl (0, m, .inl (fun _ => 0)))) = D2) (k : mEv X Q mid (pc + 4) L (.ref d :: st) D2) : mEv X Q mid pc L (.int (nI m) :: .int (nI n) :: st) D := ev_inl hm hf (q := (pc + 4, L, .ref d :: st, D2)) (by
    have h1 := jn_ok hn
    have h2 := jn_ok hk
    have hneg : ¬ (nI n < 0 ∨ nI m < 0 ∨ 1000 < (nI n).toNatClampNeg ∨ 1000 < (nI m).toNatClampNeg) := fun h => h.elim (fun q => h1 (Or.inl q)) fun h => h.elim (fun q => h2 (Or.inl q)) fun h => h.elim (fun q => h1 (Or.inr q)) (fun q => h2 (Or.inr q))
    show (if nI n < 0 ∨ nI m < 0 ∨ 1000 < (nI n).toNatClampNeg ∨ 1000 < (nI m).toNatClampNeg then none else mNx (pc + 4) L (.ref D.length :: st) (D ++ (.inl (3, (nI n).toNatClampNeg, .inr (.inr (.inr (.inr (fun i => if i < (nI n).toNatClampNeg then some (D.length + 1 + i) else none))))) :: List.replicate (nI n).toNatClampNeg (.inl (0, (nI m).toNatClampNeg, .inl (fun _ => 0)))))) = _
    rw [if_neg hneg, jI_nat (k := n) (by omega), jI_nat (k := m) (by omega), hd, hD]
    rfl) k
theorem x_aast {v : Nat} {D1 : mHp} {j : Int32} (hm : mMet mid = some row) (hf : mFetch mid pc = some (.aastore, ex)) (hv : mStQ D i j v = some D1) (k : mEv X Q mid (pc + 1) L st D1) : mEv X Q mid pc L (.ref v :: .int j :: .ref i :: st) D := ev_inl hm hf (q := (pc + 1, L, st, D1)) (by unfold mStep; dsimp only; rw [hv]; rfl) k
theorem app_at (hi : D0.length = i) : (D0 ++ l)[i + k]? = l[k]? := by
  rw [List.getElem?_append_right (by omega)]
  congr 1
  omega
theorem app_set (hi : D0.length = i) {c : va_E} : (D0 ++ l).set (i + k) c = D0 ++ l.set k c := by
  rw [List.set_append_right _ _ (by omega)]
  congr 2
  omega
theorem a_put {kd : Nat} {v : Value} (hi : D0.length = i) (h : mPut row kd l k a b v = some l2) : mPut row kd (D0 ++ l) (i + k) a b v = some (D0 ++ l2) := by
  unfold mPut at h ⊢
  rw [app_at hi]
  cases h0 : l[k]? with
  | none => rw [h0] at h; cases h
  | some c =>
    rw [h0] at h
    cases c with
    | inl q => cases h
    | inr o =>
      obtain ⟨c, fs⟩ := o
      dsimp only at h ⊢
      obtain ⟨hB, hl⟩ := mCond_eq h
      rw [hB, app_set hi, Option.some.inj hl]
      rfl
theorem a_get {v : Value} (hi : D0.length = i) (h : mGet l k a b = some v) : mGet (D0 ++ l) (i + k) a b = some v := by
  unfold mGet at h ⊢
  rw [app_at hi]
  exact h
theorem app_sn {x : mHp} (h : l ++ x = l2) : (D0 ++ l) ++ x = D0 ++ l2 := by rw [List.append_assoc, h]
theorem a_len (hi : D0.length = i) (h : l.length = k) : (D0 ++ l).length = i + k := by rw [List.length_append, hi, h]
def spF (k : Nat) : Nat → Int32 := fun j => if j < k then -1 else 0
theorem spF_0 : (fun _ => 0 : Nat → Int32) = spF 0 := by
  funext j
  exact (if_neg (Nat.not_lt_zero j)).symm
theorem spF_s (k : Nat) : upd (spF k) k (-1) = spF (k + 1) := by
  funext j
  unfold upd spF
  by_cases h : j = k
  · rw [if_pos h, if_pos (by omega)]
  · rw [if_neg h]
    by_cases h2 : j < k
    · rw [if_pos h2, if_pos (by omega)]
    · rw [if_neg h2, if_neg (by omega)]
def nwF (k : Nat) : Nat → Int32 := fun j => if j = 3 then 1 else if 4 ≤ j ∧ j < 4 + k then -1 else 0
theorem nwF_0 : upd (fun _ => 0) 3 (nI 1) = nwF 0 := by
  funext j
  unfold upd nwF
  by_cases h : j = 3
  · rw [if_pos h, if_pos h]; rfl
  · rw [if_neg h, if_neg h, if_neg (by omega)]
theorem nwF_s (k : Nat) : upd (nwF k) (4 + k) (-1) = nwF (k + 1) := by
  funext j
  unfold upd nwF
  by_cases h : j = 4 + k
  · rw [if_pos h, if_neg (by omega), if_pos (by omega)]
  · rw [if_neg h]
    by_cases h3 : j = 3
    · rw [if_pos h3, if_pos h3]
    · rw [if_neg h3, if_neg h3]
      by_cases h2 : 4 ≤ j ∧ j < 4 + k
      · rw [if_pos h2, if_pos (by omega)]
      · rw [if_neg h2, if_neg (by omega)]
theorem st_set {f : Nat → Int32} {m : Nat} {v : Int32} (ha : a < D.length) (hk : k < m) (hm : m ≤ 1000) : mStI 0 (D.set a (.inl (0, m, .inl f))) a (nI k) v = some (D.set a (.inl (0, m, .inl (upd f k v)))) := by
  unfold mStI
  rw [List.getElem?_set_self ha]
  dsimp only
  rw [jI_out hk hm, jI_nat (by omega), List.set_set]
  rfl
def mrL (l : List Nat) : Nat → Option Nat := fun j => l[j]?
theorem mr6 {d : Nat} : (fun i => if i < 6 then some (d + 1 + i) else none) = mrL [d + 1, d + 2, d + 3, d + 4, d + 5, d + 6] := by
  funext j
  unfold mrL
  match j with
  | 0 | 1 | 2 | 3 | 4 | 5 => rfl
  | n + 6 => rw [if_neg (by omega)]; rfl
theorem mr7 {d : Nat} : (fun i => if i < 7 then some (d + 1 + i) else none) = mrL [d + 1, d + 2, d + 3, d + 4, d + 5, d + 6, d + 7] := by
  funext j
  unfold mrL
  match j with
  | 0 | 1 | 2 | 3 | 4 | 5 | 6 => rfl
  | n + 7 => rw [if_neg (by omega)]; rfl
theorem c4 (hi : D0.length = i) : mT X 4 [.ref i] (D0 ++ [.inr (0, mDf 0)]) none (D0 ++ [.inr (0, [.ref (i + 1), .int 0, .int 0]), .inl (0, 40, .inl (fun _ => 0))]) := by
  refine mT.of (row := _) rfl (Nat.le_of_ble_eq_true rfl) ?_
  have hm : mMet 4 = some _ := rfl
  refine x_aload_n hm rfl rfl ?_
  refine x_libI hm rfl rfl ?_
  dsimp only
  refine x_aload_n hm rfl rfl ?_
  refine x_bipush hm rfl (v := nI 40) (by decide) ?_
  refine x_nai hm rfl (by decide) (a_len (k := 1) hi rfl) (D2 := D0 ++ [.inr (0, [.null, .int 0, .int 0]), .inl (0, 40, .inl (fun _ => 0))]) (app_sn rfl) ?_
  refine x_putf hm rfl (a_put (k := 0) (l2 := [.inr (0, [.ref (i + 1), .int 0, .int 0]), .inl (0, 40, .inl (fun _ => 0))]) hi rfl) ?_
  refine x_aload_n hm rfl rfl ?_
  refine x_iconst hm rfl (v := nI 0) (by decide) ?_
  refine x_putf hm rfl (a_put (k := 0) (l2 := [.inr (0, [.ref (i + 1), .int 0, .int 0]), .inl (0, 40, .inl (fun _ => 0))]) hi rfl) ?_
  refine x_aload_n hm rfl rfl ?_
  refine x_iconst hm rfl (v := nI 0) (by decide) ?_
  refine x_putf hm rfl (a_put (k := 0) (l2 := [.inr (0, [.ref (i + 1), .int 0, .int 0]), .inl (0, 40, .inl (fun _ => 0))]) hi rfl) ?_
  refine x_ret hm rfl rfl ?_
  exact ⟨rfl, rfl⟩
theorem c3 (hi : D0.length = i) : mT X 3 [.ref i] (D0 ++ [.inr (1, mDf 1)]) none (D0 ++ [.inr (1, [.ref (i + 1), .int 0, .int 0, .int 0, .int 0, .int 0, .int (-1)]), .inl (1, 120, .inl (fun _ => 0))]) := by
  refine mT.of (row := _) rfl (Nat.le_of_ble_eq_true rfl) ?_
  have hm : mMet 3 = some _ := rfl
  refine x_aload_n hm rfl rfl ?_
  refine x_libI hm rfl rfl ?_
  dsimp only
  refine x_aload_n hm rfl rfl ?_
  refine x_bipush hm rfl (v := nI 120) (by decide) ?_
  refine x_nab hm rfl (by decide) (a_len (k := 1) hi rfl) (D2 := D0 ++ [.inr (1, [.null, .int 0, .int 0, .int 0, .int 0, .int 0, .int 0]), .inl (1, 120, .inl (fun _ => 0))]) (app_sn rfl) ?_
  refine x_putf hm rfl (a_put (k := 0) (l2 := [.inr (1, [.ref (i + 1), .int 0, .int 0, .int 0, .int 0, .int 0, .int 0]), .inl (1, 120, .inl (fun _ => 0))]) hi rfl) ?_
  refine x_aload_n hm rfl rfl ?_
  refine x_iconst hm rfl (v := nI 0) (by decide) ?_
  refine x_putf hm rfl (a_put (k := 0) (l2 := [.inr (1, [.ref (i + 1), .int 0, .int 0, .int 0, .int 0, .int 0, .int 0]), .inl (1, 120, .inl (fun _ => 0))]) hi rfl) ?_
  refine x_aload_n hm rfl rfl ?_
  refine x_iconst hm rfl (v := nI 0) (by decide) ?_
  refine x_putf hm rfl (a_put (k := 0) (l2 := [.inr (1, [.ref (i + 1), .int 0, .int 0, .int 0, .int 0, .int 0, .int 0]), .inl (1, 120, .inl (fun _ => 0))]) hi rfl) ?_
  refine x_aload_n hm rfl rfl ?_
  refine x_iconst hm rfl (v := nI 0) (by decide) ?_
  refine x_putf hm rfl (a_put (k := 0) (l2 := [.inr (1, [.ref (i + 1), .int 0, .int 0, .int 0, .int 0, .int 0, .int 0]), .inl (1, 120, .inl (fun _ => 0))]) hi rfl) ?_
  refine x_aload_n hm rfl rfl ?_
  refine x_iconst hm rfl (v := nI 0) (by decide) ?_
  refine x_putf hm rfl (a_put (k := 0) (l2 := [.inr (1, [.ref (i + 1), .int 0, .int 0, .int 0, .int 0, .int 0, .int 0]), .inl (1, 120, .inl (fun _ => 0))]) hi rfl) ?_
  refine x_aload_n hm rfl rfl ?_
  refine x_iconst hm rfl (v := nI 0) (by decide) ?_
  refine x_putf hm rfl (a_put (k := 0) (l2 := [.inr (1, [.ref (i + 1), .int 0, .int 0, .int 0, .int 0, .int 0, .int 0]), .inl (1, 120, .inl (fun _ => 0))]) hi rfl) ?_
  refine x_aload_n hm rfl rfl ?_
  refine x_iconst hm rfl (v := (-1 : Int32)) (by decide) ?_
  refine x_putf hm rfl (a_put (k := 0) (l2 := [.inr (1, [.ref (i + 1), .int 0, .int 0, .int 0, .int 0, .int 0, .int (-1)]), .inl (1, 120, .inl (fun _ => 0))]) hi rfl) ?_
  refine x_ret hm rfl rfl ?_
  exact ⟨rfl, rfl⟩
noncomputable def townL (i : Nat) : mHp := [.inr (2, [.ref (i + 1), .ref (i + 8), .ref (i + 16), .int 0, .int 0, .int 0, .int 1, .int (-1)]), .inl (3, 6, .inr (.inr (.inr (.inr (mrL [i + 2, i + 3, i + 4, i + 5, i + 6, i + 7])))))] ++ List.replicate 6 (.inl (0, 8, .inl (fun _ => 0))) ++ [.inl (3, 7, .inr (.inr (.inr (.inr (mrL [i + 9, i + 10, i + 11, i + 12, i + 13, i + 14, i + 15])))))] ++ List.replicate 7 (.inl (0, 8, .inl (fun _ => 0))) ++ [.inl (0, 10, .inl (spF 10))]
theorem c2l {c : Nat} (hO : ∀ f, mGet (D.set c (.inl (0, 10, .inl f))) i 2 2 = some (.ref c)) (hc : c < D.length) : ∀ (n k : Nat), 10 - k < n → k ≤ 10 → mEv X (fun r D' => r = none ∧ D' = D.set c (.inl (0, 10, .inl (spF 10)))) 2 63 [some (.ref i), some (.int (nI k))] [] (D.set c (.inl (0, 10, .inl (spF k)))) := by
  have hm : mMet 2 = some _ := rfl
  intro n
  induction n with
  | zero =>
    intro k hkn hkb
    omega
  | succ n ih =>
    intro k hkn hkb
    refine x_iload_n hm rfl rfl ?_
    refine x_bipush hm rfl (v := nI 10) (by decide) ?_
    refine x_icmp_ge hm rfl (t := 82) rfl (fun h1 => ?_) (fun h1 => ?_)
    · obtain rfl : k = 10 := Nat.le_antisymm hkb ((jI_le (by decide) (by omega)).mp h1)
      refine x_ret hm rfl rfl ?_
      exact ⟨rfl, rfl⟩
    · have hk : k < 10 := Nat.lt_of_not_le fun h => h1 (nI_le h (by omega))
      refine x_aload_n hm rfl rfl ?_
      refine x_getf hm rfl (hO _) ?_
      refine x_iload_n hm rfl rfl ?_
      refine x_iconst hm rfl (v := (-1 : Int32)) (by decide) ?_
      refine x_iast hm rfl (st_set hc hk (by decide)) ?_
      rw [spF_s]
      refine x_iinc hm rfl rfl (v := nI 1) (by decide) rfl ?_
      rw [jI_add]
      refine x_goto hm rfl (t := 63) rfl ?_
      exact ih (k + 1) (by omega) (by omega)
theorem c2 (hi : D0.length = i) : mT X 2 [.ref i] (D0 ++ [.inr (2, mDf 2)]) none (D0 ++ townL i) := by
  refine mT.of (row := _) rfl (Nat.le_of_ble_eq_true rfl) ?_
  have hm : mMet 2 = some _ := rfl
  refine x_aload_n hm rfl rfl ?_
  refine x_libI hm rfl rfl ?_
  dsimp only
  refine x_aload_n hm rfl rfl ?_
  refine x_bipush hm rfl (v := nI 6) (by decide) ?_
  refine x_bipush hm rfl (v := nI 8) (by decide) ?_
  refine x_mul hm rfl (by decide) (by decide) (a_len (k := 1) hi rfl) (D2 := D0 ++ [.inr (2, [.null, .null, .null, .int 0, .int 0, .int 0, .int 0, .int 0]), .inl (3, 6, .inr (.inr (.inr (.inr (mrL [i + 1 + 1, i + 1 + 2, i + 1 + 3, i + 1 + 4, i + 1 + 5, i + 1 + 6]))))), .inl (0, 8, .inl (fun _ => 0)), .inl (0, 8, .inl (fun _ => 0)), .inl (0, 8, .inl (fun _ => 0)), .inl (0, 8, .inl (fun _ => 0)), .inl (0, 8, .inl (fun _ => 0)), .inl (0, 8, .inl (fun _ => 0))]) (by rw [mr6]; exact app_sn rfl) ?_
  refine x_putf hm rfl (a_put (k := 0) (l2 := [.inr (2, [.ref (i + 1), .null, .null, .int 0, .int 0, .int 0, .int 0, .int 0]), .inl (3, 6, .inr (.inr (.inr (.inr (mrL [i + 1 + 1, i + 1 + 2, i + 1 + 3, i + 1 + 4, i + 1 + 5, i + 1 + 6]))))), .inl (0, 8, .inl (fun _ => 0)), .inl (0, 8, .inl (fun _ => 0)), .inl (0, 8, .inl (fun _ => 0)), .inl (0, 8, .inl (fun _ => 0)), .inl (0, 8, .inl (fun _ => 0)), .inl (0, 8, .inl (fun _ => 0))]) hi rfl) ?_
  refine x_aload_n hm rfl rfl ?_
  refine x_bipush hm rfl (v := nI 7) (by decide) ?_
  refine x_bipush hm rfl (v := nI 8) (by decide) ?_
  refine x_mul hm rfl (by decide) (by decide) (a_len (k := 8) hi rfl) (D2 := D0 ++ [.inr (2, [.ref (i + 1), .null, .null, .int 0, .int 0, .int 0, .int 0, .int 0]), .inl (3, 6, .inr (.inr (.inr (.inr (mrL [i + 1 + 1, i + 1 + 2, i + 1 + 3, i + 1 + 4, i + 1 + 5, i + 1 + 6]))))), .inl (0, 8, .inl (fun _ => 0)), .inl (0, 8, .inl (fun _ => 0)), .inl (0, 8, .inl (fun _ => 0)), .inl (0, 8, .inl (fun _ => 0)), .inl (0, 8, .inl (fun _ => 0)), .inl (0, 8, .inl (fun _ => 0)), .inl (3, 7, .inr (.inr (.inr (.inr (mrL [i + 8 + 1, i + 8 + 2, i + 8 + 3, i + 8 + 4, i + 8 + 5, i + 8 + 6, i + 8 + 7]))))), .inl (0, 8, .inl (fun _ => 0)), .inl (0, 8, .inl (fun _ => 0)), .inl (0, 8, .inl (fun _ => 0)), .inl (0, 8, .inl (fun _ => 0)), .inl (0, 8, .inl (fun _ => 0)), .inl (0, 8, .inl (fun _ => 0)), .inl (0, 8, .inl (fun _ => 0))]) (by rw [mr7]; exact app_sn rfl) ?_
  refine x_putf hm rfl (a_put (k := 0) (l2 := [.inr (2, [.ref (i + 1), .ref (i + 8), .null, .int 0, .int 0, .int 0, .int 0, .int 0]), .inl (3, 6, .inr (.inr (.inr (.inr (mrL [i + 1 + 1, i + 1 + 2, i + 1 + 3, i + 1 + 4, i + 1 + 5, i + 1 + 6]))))), .inl (0, 8, .inl (fun _ => 0)), .inl (0, 8, .inl (fun _ => 0)), .inl (0, 8, .inl (fun _ => 0)), .inl (0, 8, .inl (fun _ => 0)), .inl (0, 8, .inl (fun _ => 0)), .inl (0, 8, .inl (fun _ => 0)), .inl (3, 7, .inr (.inr (.inr (.inr (mrL [i + 8 + 1, i + 8 + 2, i + 8 + 3, i + 8 + 4, i + 8 + 5, i + 8 + 6, i + 8 + 7]))))), .inl (0, 8, .inl (fun _ => 0)), .inl (0, 8, .inl (fun _ => 0)), .inl (0, 8, .inl (fun _ => 0)), .inl (0, 8, .inl (fun _ => 0)), .inl (0, 8, .inl (fun _ => 0)), .inl (0, 8, .inl (fun _ => 0)), .inl (0, 8, .inl (fun _ => 0))]) hi rfl) ?_
  refine x_aload_n hm rfl rfl ?_
  refine x_bipush hm rfl (v := nI 10) (by decide) ?_
  refine x_nai hm rfl (by decide) (a_len (k := 16) hi rfl) (D2 := D0 ++ [.inr (2, [.ref (i + 1), .ref (i + 8), .null, .int 0, .int 0, .int 0, .int 0, .int 0]), .inl (3, 6, .inr (.inr (.inr (.inr (mrL [i + 1 + 1, i + 1 + 2, i + 1 + 3, i + 1 + 4, i + 1 + 5, i + 1 + 6]))))), .inl (0, 8, .inl (fun _ => 0)), .inl (0, 8, .inl (fun _ => 0)), .inl (0, 8, .inl (fun _ => 0)), .inl (0, 8, .inl (fun _ => 0)), .inl (0, 8, .inl (fun _ => 0)), .inl (0, 8, .inl (fun _ => 0)), .inl (3, 7, .inr (.inr (.inr (.inr (mrL [i + 8 + 1, i + 8 + 2, i + 8 + 3, i + 8 + 4, i + 8 + 5, i + 8 + 6, i + 8 + 7]))))), .inl (0, 8, .inl (fun _ => 0)), .inl (0, 8, .inl (fun _ => 0)), .inl (0, 8, .inl (fun _ => 0)), .inl (0, 8, .inl (fun _ => 0)), .inl (0, 8, .inl (fun _ => 0)), .inl (0, 8, .inl (fun _ => 0)), .inl (0, 8, .inl (fun _ => 0)), .inl (0, 10, .inl (fun _ => 0))]) (app_sn rfl) ?_
  refine x_putf hm rfl (a_put (k := 0) (l2 := [.inr (2, [.ref (i + 1), .ref (i + 8), .ref (i + 16), .int 0, .int 0, .int 0, .int 0, .int 0]), .inl (3, 6, .inr (.inr (.inr (.inr (mrL [i + 1 + 1, i + 1 + 2, i + 1 + 3, i + 1 + 4, i + 1 + 5, i + 1 + 6]))))), .inl (0, 8, .inl (fun _ => 0)), .inl (0, 8, .inl (fun _ => 0)), .inl (0, 8, .inl (fun _ => 0)), .inl (0, 8, .inl (fun _ => 0)), .inl (0, 8, .inl (fun _ => 0)), .inl (0, 8, .inl (fun _ => 0)), .inl (3, 7, .inr (.inr (.inr (.inr (mrL [i + 8 + 1, i + 8 + 2, i + 8 + 3, i + 8 + 4, i + 8 + 5, i + 8 + 6, i + 8 + 7]))))), .inl (0, 8, .inl (fun _ => 0)), .inl (0, 8, .inl (fun _ => 0)), .inl (0, 8, .inl (fun _ => 0)), .inl (0, 8, .inl (fun _ => 0)), .inl (0, 8, .inl (fun _ => 0)), .inl (0, 8, .inl (fun _ => 0)), .inl (0, 8, .inl (fun _ => 0)), .inl (0, 10, .inl (fun _ => 0))]) hi rfl) ?_
  refine x_aload_n hm rfl rfl ?_
  refine x_iconst hm rfl (v := nI 0) (by decide) ?_
  refine x_putf hm rfl (a_put (k := 0) (l2 := [.inr (2, [.ref (i + 1), .ref (i + 8), .ref (i + 16), .int 0, .int 0, .int 0, .int 0, .int 0]), .inl (3, 6, .inr (.inr (.inr (.inr (mrL [i + 1 + 1, i + 1 + 2, i + 1 + 3, i + 1 + 4, i + 1 + 5, i + 1 + 6]))))), .inl (0, 8, .inl (fun _ => 0)), .inl (0, 8, .inl (fun _ => 0)), .inl (0, 8, .inl (fun _ => 0)), .inl (0, 8, .inl (fun _ => 0)), .inl (0, 8, .inl (fun _ => 0)), .inl (0, 8, .inl (fun _ => 0)), .inl (3, 7, .inr (.inr (.inr (.inr (mrL [i + 8 + 1, i + 8 + 2, i + 8 + 3, i + 8 + 4, i + 8 + 5, i + 8 + 6, i + 8 + 7]))))), .inl (0, 8, .inl (fun _ => 0)), .inl (0, 8, .inl (fun _ => 0)), .inl (0, 8, .inl (fun _ => 0)), .inl (0, 8, .inl (fun _ => 0)), .inl (0, 8, .inl (fun _ => 0)), .inl (0, 8, .inl (fun _ => 0)), .inl (0, 8, .inl (fun _ => 0)), .inl (0, 10, .inl (fun _ => 0))]) hi rfl) ?_
  refine x_aload_n hm rfl rfl ?_
  refine x_iconst hm rfl (v := nI 0) (by decide) ?_
  refine x_putf hm rfl (a_put (k := 0) (l2 := [.inr (2, [.ref (i + 1), .ref (i + 8), .ref (i + 16), .int 0, .int 0, .int 0, .int 0, .int 0]), .inl (3, 6, .inr (.inr (.inr (.inr (mrL [i + 1 + 1, i + 1 + 2, i + 1 + 3, i + 1 + 4, i + 1 + 5, i + 1 + 6]))))), .inl (0, 8, .inl (fun _ => 0)), .inl (0, 8, .inl (fun _ => 0)), .inl (0, 8, .inl (fun _ => 0)), .inl (0, 8, .inl (fun _ => 0)), .inl (0, 8, .inl (fun _ => 0)), .inl (0, 8, .inl (fun _ => 0)), .inl (3, 7, .inr (.inr (.inr (.inr (mrL [i + 8 + 1, i + 8 + 2, i + 8 + 3, i + 8 + 4, i + 8 + 5, i + 8 + 6, i + 8 + 7]))))), .inl (0, 8, .inl (fun _ => 0)), .inl (0, 8, .inl (fun _ => 0)), .inl (0, 8, .inl (fun _ => 0)), .inl (0, 8, .inl (fun _ => 0)), .inl (0, 8, .inl (fun _ => 0)), .inl (0, 8, .inl (fun _ => 0)), .inl (0, 8, .inl (fun _ => 0)), .inl (0, 10, .inl (fun _ => 0))]) hi rfl) ?_
  refine x_aload_n hm rfl rfl ?_
  refine x_iconst hm rfl (v := nI 0) (by decide) ?_
  refine x_putf hm rfl (a_put (k := 0) (l2 := [.inr (2, [.ref (i + 1), .ref (i + 8), .ref (i + 16), .int 0, .int 0, .int 0, .int 0, .int 0]), .inl (3, 6, .inr (.inr (.inr (.inr (mrL [i + 1 + 1, i + 1 + 2, i + 1 + 3, i + 1 + 4, i + 1 + 5, i + 1 + 6]))))), .inl (0, 8, .inl (fun _ => 0)), .inl (0, 8, .inl (fun _ => 0)), .inl (0, 8, .inl (fun _ => 0)), .inl (0, 8, .inl (fun _ => 0)), .inl (0, 8, .inl (fun _ => 0)), .inl (0, 8, .inl (fun _ => 0)), .inl (3, 7, .inr (.inr (.inr (.inr (mrL [i + 8 + 1, i + 8 + 2, i + 8 + 3, i + 8 + 4, i + 8 + 5, i + 8 + 6, i + 8 + 7]))))), .inl (0, 8, .inl (fun _ => 0)), .inl (0, 8, .inl (fun _ => 0)), .inl (0, 8, .inl (fun _ => 0)), .inl (0, 8, .inl (fun _ => 0)), .inl (0, 8, .inl (fun _ => 0)), .inl (0, 8, .inl (fun _ => 0)), .inl (0, 8, .inl (fun _ => 0)), .inl (0, 10, .inl (fun _ => 0))]) hi rfl) ?_
  refine x_aload_n hm rfl rfl ?_
  refine x_iconst hm rfl (v := nI 1) (by decide) ?_
  refine x_putf hm rfl (a_put (k := 0) (l2 := [.inr (2, [.ref (i + 1), .ref (i + 8), .ref (i + 16), .int 0, .int 0, .int 0, .int 1, .int 0]), .inl (3, 6, .inr (.inr (.inr (.inr (mrL [i + 1 + 1, i + 1 + 2, i + 1 + 3, i + 1 + 4, i + 1 + 5, i + 1 + 6]))))), .inl (0, 8, .inl (fun _ => 0)), .inl (0, 8, .inl (fun _ => 0)), .inl (0, 8, .inl (fun _ => 0)), .inl (0, 8, .inl (fun _ => 0)), .inl (0, 8, .inl (fun _ => 0)), .inl (0, 8, .inl (fun _ => 0)), .inl (3, 7, .inr (.inr (.inr (.inr (mrL [i + 8 + 1, i + 8 + 2, i + 8 + 3, i + 8 + 4, i + 8 + 5, i + 8 + 6, i + 8 + 7]))))), .inl (0, 8, .inl (fun _ => 0)), .inl (0, 8, .inl (fun _ => 0)), .inl (0, 8, .inl (fun _ => 0)), .inl (0, 8, .inl (fun _ => 0)), .inl (0, 8, .inl (fun _ => 0)), .inl (0, 8, .inl (fun _ => 0)), .inl (0, 8, .inl (fun _ => 0)), .inl (0, 10, .inl (fun _ => 0))]) hi rfl) ?_
  refine x_aload_n hm rfl rfl ?_
  refine x_iconst hm rfl (v := (-1 : Int32)) (by decide) ?_
  refine x_putf hm rfl (a_put (k := 0) (l2 := [.inr (2, [.ref (i + 1), .ref (i + 8), .ref (i + 16), .int 0, .int 0, .int 0, .int 1, .int (-1)]), .inl (3, 6, .inr (.inr (.inr (.inr (mrL [i + 1 + 1, i + 1 + 2, i + 1 + 3, i + 1 + 4, i + 1 + 5, i + 1 + 6]))))), .inl (0, 8, .inl (fun _ => 0)), .inl (0, 8, .inl (fun _ => 0)), .inl (0, 8, .inl (fun _ => 0)), .inl (0, 8, .inl (fun _ => 0)), .inl (0, 8, .inl (fun _ => 0)), .inl (0, 8, .inl (fun _ => 0)), .inl (3, 7, .inr (.inr (.inr (.inr (mrL [i + 8 + 1, i + 8 + 2, i + 8 + 3, i + 8 + 4, i + 8 + 5, i + 8 + 6, i + 8 + 7]))))), .inl (0, 8, .inl (fun _ => 0)), .inl (0, 8, .inl (fun _ => 0)), .inl (0, 8, .inl (fun _ => 0)), .inl (0, 8, .inl (fun _ => 0)), .inl (0, 8, .inl (fun _ => 0)), .inl (0, 8, .inl (fun _ => 0)), .inl (0, 8, .inl (fun _ => 0)), .inl (0, 10, .inl (fun _ => 0))]) hi rfl) ?_
  refine x_iconst hm rfl (v := nI 0) (by decide) ?_
  refine x_istore_n hm rfl rfl ?_
  rw [spF_0]
  have h := c2l (X := X) (D := D0 ++ [.inr (2, [.ref (i + 1), .ref (i + 8), .ref (i + 16), .int 0, .int 0, .int 0, .int 1, .int (-1)]), .inl (3, 6, .inr (.inr (.inr (.inr (mrL [i + 1 + 1, i + 1 + 2, i + 1 + 3, i + 1 + 4, i + 1 + 5, i + 1 + 6]))))), .inl (0, 8, .inl (spF 0)), .inl (0, 8, .inl (spF 0)), .inl (0, 8, .inl (spF 0)), .inl (0, 8, .inl (spF 0)), .inl (0, 8, .inl (spF 0)), .inl (0, 8, .inl (spF 0)), .inl (3, 7, .inr (.inr (.inr (.inr (mrL [i + 8 + 1, i + 8 + 2, i + 8 + 3, i + 8 + 4, i + 8 + 5, i + 8 + 6, i + 8 + 7]))))), .inl (0, 8, .inl (spF 0)), .inl (0, 8, .inl (spF 0)), .inl (0, 8, .inl (spF 0)), .inl (0, 8, .inl (spF 0)), .inl (0, 8, .inl (spF 0)), .inl (0, 8, .inl (spF 0)), .inl (0, 8, .inl (spF 0)), .inl (0, 10, .inl (spF 0))]) (i := i) (c := i + 16) (fun f => by rw [app_set hi]; exact a_get (k := 0) hi rfl) (by rw [a_len (k := 17) hi rfl]; omega) 11 0 (by decide) (by decide)
  rw [app_set hi, app_set hi, ← spF_0] at h
  rw [← spF_0]
  exact h
theorem a_stq {v n m : Nat} {f : Nat → Option Nat} (hi : D0.length = i) (h : l[k]? = some (.inl (4, m, .inr (.inr (.inr (.inr f)))))) (hl : l.set k (.inl (4, m, .inr (.inr (.inr (.inr (va_up f n (some v))))))) = l2) (hn : n < m) (hm : m ≤ 1000) (h1 : 1000000 ≤ v) (h2 : v < 1000015) : mStQ (D0 ++ l) (i + k) (nI n) v = some (D0 ++ l2) := by
  unfold mStQ
  rw [app_at hi, h]
  dsimp only
  have e : mAk (D0 ++ l) 4 v = true := by
    show (Nat.ble 1000000 v && Nat.blt v 1000015) = true
    rw [Nat.ble_eq_true_of_le h1, Nat.blt_eq.mpr h2]
    rfl
  rw [e, jI_out hn hm, jI_nat (by omega), app_set hi, hl]
  rfl
theorem a_sti {n m : Nat} {f : Nat → Int32} {v : Int32} (hi : D0.length = i) (h : l[k]? = some (.inl (0, m, .inl f))) (hn : n < m) (hm : m ≤ 1000) : mStI 0 (D0 ++ l) (i + k) (nI n) v = some (D0 ++ l.set k (.inl (0, m, .inl (upd f n v)))) := by
  unfold mStI
  rw [app_at hi, h]
  dsimp only
  rw [jI_out hn hm, jI_nat (by omega), app_set hi]
  rfl
theorem kn7 : va_up (va_up (va_up (va_up (va_up (va_up (va_up (fun _ => none : Nat → Option Nat) 0 (some 1000007)) 1 (some 1000001)) 2 (some 1000002)) 3 (some 1000003)) 4 (some 1000004)) 5 (some 1000005)) 6 (some 1000006) = mrL [1000007, 1000001, 1000002, 1000003, 1000004, 1000005, 1000006] := by
  funext j
  unfold mrL
  match j with
  | 0 | 1 | 2 | 3 | 4 | 5 | 6 => rfl
  | n + 7 => rfl
def shN : Nat → Option Nat := va_up (va_up (va_up (va_up (fun _ => none) 0 (some 58)) 1 (some 60)) 2 (some 62)) 3 (some 64)
theorem sh4 : shN = mrL [58, 60, 62, 64] := by
  funext j
  unfold mrL shN
  match j with
  | 0 | 1 | 2 | 3 => rfl
  | n + 4 => rfl
noncomputable def modL (i : Nat) (f : Nat → Int32) : mHp := [.inr (4, [.ref (i + 1), .ref (i + 2), .ref (i + 3), .int 0, .ref (i + 4), .ref (i + 5), .int (-1), .ref (i + 6), .ref (i + 7), .int 0, .int 0, .int 0, .int 0, .int 0, .int 0, .ref (i + 8), .ref (i + 9), .int 0, .int 0, .int 0, .ref (i + 10), .ref (i + 11), .ref (i + 12), .ref (i + 13)]),
  .inl (0, 118, .inl f), .inl (0, 118, .inl (fun _ => 0)), .inl (0, 118, .inl (fun _ => 0)), .inl (0, 8, .inl (fun _ => 0)), .inl (0, 8, .inl (fun _ => 0)), .inl (0, 8, .inl (fun _ => 0)), .inl (0, 120, .inl (fun _ => 0)), .inl (4, 7, .inr (.inr (.inr (.inr (mrL [1000007, 1000001, 1000002, 1000003, 1000004, 1000005, 1000006]))))), .inl (0, 840, .inl (fun _ => 0)), .inl (0, 4, .inl (fun _ => 0)), .inl (0, 4, .inl (fun _ => 0)), .inl (0, 160, .inl (fun _ => 0)), .inl (0, 40, .inl (fun _ => 0))]
theorem c131l {c : Nat} (hO : ∀ f, mGet (D.set c (.inl (0, 118, .inl f))) i 4 0 = some (.ref c)) (hc : c < D.length) : ∀ (n k : Nat), 10 - k < n → k ≤ 10 → mEv X (fun r D' => r = none ∧ D' = D.set c (.inl (0, 118, .inl (nwF 10)))) 131 159 [some (.ref i), some (.int (nI k))] [] (D.set c (.inl (0, 118, .inl (nwF k)))) := by
  have hm : mMet 131 = some _ := rfl
  intro n
  induction n with
  | zero =>
    intro k hkn hkb
    omega
  | succ n ih =>
    intro k hkn hkb
    refine x_iload_n hm rfl rfl ?_
    refine x_bipush hm rfl (v := nI 10) (by decide) ?_
    refine x_icmp_ge hm rfl (t := 180) rfl (fun h1 => ?_) (fun h1 => ?_)
    · obtain rfl : k = 10 := Nat.le_antisymm hkb ((jI_le (by decide) (by omega)).mp h1)
      refine x_ret hm rfl rfl ?_
      exact ⟨rfl, rfl⟩
    · have hk : k < 10 := Nat.lt_of_not_le fun h => h1 (nI_le h (by omega))
      refine x_aload_n hm rfl rfl ?_
      refine x_getf hm rfl (hO _) ?_
      refine x_iconst hm rfl (v := nI 4) (by decide) ?_
      refine x_iload_n hm rfl rfl ?_
      refine x_iadd hm rfl ?_
      rw [jI_add]
      refine x_iconst hm rfl (v := (-1 : Int32)) (by decide) ?_
      refine x_iast hm rfl (st_set hc (by omega) (by decide)) ?_
      rw [nwF_s]
      refine x_iinc hm rfl rfl (v := nI 1) (by decide) rfl ?_
      rw [jI_add]
      refine x_goto hm rfl (t := 159) rfl ?_
      exact ih (k + 1) (by omega) (by omega)
theorem c131 (hi : D0.length = i) : mT X 131 [.ref i] (D0 ++ [.inr (4, mDf 4)]) none (D0 ++ modL i (nwF 10)) := by
  refine mT.of (row := _) rfl (Nat.le_of_ble_eq_true rfl) ?_
  have hm : mMet 131 = some _ := rfl
  refine x_aload_n hm rfl rfl ?_
  refine x_libI hm rfl rfl ?_
  dsimp only
  refine x_aload_n hm rfl rfl ?_
  refine x_bipush hm rfl (v := nI 118) (by decide) ?_
  refine x_nai hm rfl (by decide) (a_len (k := 1) hi rfl) (D2 := D0 ++ [.inr (4, [.null, .null, .null, .int 0, .null, .null, .int 0, .null, .null, .int 0, .int 0, .int 0, .int 0, .int 0, .int 0, .null, .null, .int 0, .int 0, .int 0, .null, .null, .null, .null]), .inl (0, 118, .inl (fun _ => 0))]) (app_sn rfl) ?_
  refine x_putf hm rfl (a_put (k := 0) (l2 := [.inr (4, [.ref (i + 1), .null, .null, .int 0, .null, .null, .int 0, .null, .null, .int 0, .int 0, .int 0, .int 0, .int 0, .int 0, .null, .null, .int 0, .int 0, .int 0, .null, .null, .null, .null]), .inl (0, 118, .inl (fun _ => 0))]) hi rfl) ?_
  refine x_aload_n hm rfl rfl ?_
  refine x_bipush hm rfl (v := nI 118) (by decide) ?_
  refine x_nai hm rfl (by decide) (a_len (k := 2) hi rfl) (D2 := D0 ++ [.inr (4, [.ref (i + 1), .null, .null, .int 0, .null, .null, .int 0, .null, .null, .int 0, .int 0, .int 0, .int 0, .int 0, .int 0, .null, .null, .int 0, .int 0, .int 0, .null, .null, .null, .null]), .inl (0, 118, .inl (fun _ => 0)), .inl (0, 118, .inl (fun _ => 0))]) (app_sn rfl) ?_
  refine x_putf hm rfl (a_put (k := 0) (l2 := [.inr (4, [.ref (i + 1), .ref (i + 2), .null, .int 0, .null, .null, .int 0, .null, .null, .int 0, .int 0, .int 0, .int 0, .int 0, .int 0, .null, .null, .int 0, .int 0, .int 0, .null, .null, .null, .null]), .inl (0, 118, .inl (fun _ => 0)), .inl (0, 118, .inl (fun _ => 0))]) hi rfl) ?_
  refine x_aload_n hm rfl rfl ?_
  refine x_bipush hm rfl (v := nI 118) (by decide) ?_
  refine x_nai hm rfl (by decide) (a_len (k := 3) hi rfl) (D2 := D0 ++ [.inr (4, [.ref (i + 1), .ref (i + 2), .null, .int 0, .null, .null, .int 0, .null, .null, .int 0, .int 0, .int 0, .int 0, .int 0, .int 0, .null, .null, .int 0, .int 0, .int 0, .null, .null, .null, .null]), .inl (0, 118, .inl (fun _ => 0)), .inl (0, 118, .inl (fun _ => 0)), .inl (0, 118, .inl (fun _ => 0))]) (app_sn rfl) ?_
  refine x_putf hm rfl (a_put (k := 0) (l2 := [.inr (4, [.ref (i + 1), .ref (i + 2), .ref (i + 3), .int 0, .null, .null, .int 0, .null, .null, .int 0, .int 0, .int 0, .int 0, .int 0, .int 0, .null, .null, .int 0, .int 0, .int 0, .null, .null, .null, .null]), .inl (0, 118, .inl (fun _ => 0)), .inl (0, 118, .inl (fun _ => 0)), .inl (0, 118, .inl (fun _ => 0))]) hi rfl) ?_
  refine x_aload_n hm rfl rfl ?_
  refine x_bipush hm rfl (v := nI 8) (by decide) ?_
  refine x_nai hm rfl (by decide) (a_len (k := 4) hi rfl) (D2 := D0 ++ [.inr (4, [.ref (i + 1), .ref (i + 2), .ref (i + 3), .int 0, .null, .null, .int 0, .null, .null, .int 0, .int 0, .int 0, .int 0, .int 0, .int 0, .null, .null, .int 0, .int 0, .int 0, .null, .null, .null, .null]), .inl (0, 118, .inl (fun _ => 0)), .inl (0, 118, .inl (fun _ => 0)), .inl (0, 118, .inl (fun _ => 0)), .inl (0, 8, .inl (fun _ => 0))]) (app_sn rfl) ?_
  refine x_putf hm rfl (a_put (k := 0) (l2 := [.inr (4, [.ref (i + 1), .ref (i + 2), .ref (i + 3), .int 0, .ref (i + 4), .null, .int 0, .null, .null, .int 0, .int 0, .int 0, .int 0, .int 0, .int 0, .null, .null, .int 0, .int 0, .int 0, .null, .null, .null, .null]), .inl (0, 118, .inl (fun _ => 0)), .inl (0, 118, .inl (fun _ => 0)), .inl (0, 118, .inl (fun _ => 0)), .inl (0, 8, .inl (fun _ => 0))]) hi rfl) ?_
  refine x_aload_n hm rfl rfl ?_
  refine x_bipush hm rfl (v := nI 8) (by decide) ?_
  refine x_nai hm rfl (by decide) (a_len (k := 5) hi rfl) (D2 := D0 ++ [.inr (4, [.ref (i + 1), .ref (i + 2), .ref (i + 3), .int 0, .ref (i + 4), .null, .int 0, .null, .null, .int 0, .int 0, .int 0, .int 0, .int 0, .int 0, .null, .null, .int 0, .int 0, .int 0, .null, .null, .null, .null]), .inl (0, 118, .inl (fun _ => 0)), .inl (0, 118, .inl (fun _ => 0)), .inl (0, 118, .inl (fun _ => 0)), .inl (0, 8, .inl (fun _ => 0)), .inl (0, 8, .inl (fun _ => 0))]) (app_sn rfl) ?_
  refine x_putf hm rfl (a_put (k := 0) (l2 := [.inr (4, [.ref (i + 1), .ref (i + 2), .ref (i + 3), .int 0, .ref (i + 4), .ref (i + 5), .int 0, .null, .null, .int 0, .int 0, .int 0, .int 0, .int 0, .int 0, .null, .null, .int 0, .int 0, .int 0, .null, .null, .null, .null]), .inl (0, 118, .inl (fun _ => 0)), .inl (0, 118, .inl (fun _ => 0)), .inl (0, 118, .inl (fun _ => 0)), .inl (0, 8, .inl (fun _ => 0)), .inl (0, 8, .inl (fun _ => 0))]) hi rfl) ?_
  refine x_aload_n hm rfl rfl ?_
  refine x_iconst hm rfl (v := (-1 : Int32)) (by decide) ?_
  refine x_putf hm rfl (a_put (k := 0) (l2 := [.inr (4, [.ref (i + 1), .ref (i + 2), .ref (i + 3), .int 0, .ref (i + 4), .ref (i + 5), .int (-1), .null, .null, .int 0, .int 0, .int 0, .int 0, .int 0, .int 0, .null, .null, .int 0, .int 0, .int 0, .null, .null, .null, .null]), .inl (0, 118, .inl (fun _ => 0)), .inl (0, 118, .inl (fun _ => 0)), .inl (0, 118, .inl (fun _ => 0)), .inl (0, 8, .inl (fun _ => 0)), .inl (0, 8, .inl (fun _ => 0))]) hi rfl) ?_
  refine x_aload_n hm rfl rfl ?_
  refine x_bipush hm rfl (v := nI 8) (by decide) ?_
  refine x_nai hm rfl (by decide) (a_len (k := 6) hi rfl) (D2 := D0 ++ [.inr (4, [.ref (i + 1), .ref (i + 2), .ref (i + 3), .int 0, .ref (i + 4), .ref (i + 5), .int (-1), .null, .null, .int 0, .int 0, .int 0, .int 0, .int 0, .int 0, .null, .null, .int 0, .int 0, .int 0, .null, .null, .null, .null]), .inl (0, 118, .inl (fun _ => 0)), .inl (0, 118, .inl (fun _ => 0)), .inl (0, 118, .inl (fun _ => 0)), .inl (0, 8, .inl (fun _ => 0)), .inl (0, 8, .inl (fun _ => 0)), .inl (0, 8, .inl (fun _ => 0))]) (app_sn rfl) ?_
  refine x_putf hm rfl (a_put (k := 0) (l2 := [.inr (4, [.ref (i + 1), .ref (i + 2), .ref (i + 3), .int 0, .ref (i + 4), .ref (i + 5), .int (-1), .ref (i + 6), .null, .int 0, .int 0, .int 0, .int 0, .int 0, .int 0, .null, .null, .int 0, .int 0, .int 0, .null, .null, .null, .null]), .inl (0, 118, .inl (fun _ => 0)), .inl (0, 118, .inl (fun _ => 0)), .inl (0, 118, .inl (fun _ => 0)), .inl (0, 8, .inl (fun _ => 0)), .inl (0, 8, .inl (fun _ => 0)), .inl (0, 8, .inl (fun _ => 0))]) hi rfl) ?_
  refine x_aload_n hm rfl rfl ?_
  refine x_bipush hm rfl (v := nI 120) (by decide) ?_
  refine x_nai hm rfl (by decide) (a_len (k := 7) hi rfl) (D2 := D0 ++ [.inr (4, [.ref (i + 1), .ref (i + 2), .ref (i + 3), .int 0, .ref (i + 4), .ref (i + 5), .int (-1), .ref (i + 6), .null, .int 0, .int 0, .int 0, .int 0, .int 0, .int 0, .null, .null, .int 0, .int 0, .int 0, .null, .null, .null, .null]), .inl (0, 118, .inl (fun _ => 0)), .inl (0, 118, .inl (fun _ => 0)), .inl (0, 118, .inl (fun _ => 0)), .inl (0, 8, .inl (fun _ => 0)), .inl (0, 8, .inl (fun _ => 0)), .inl (0, 8, .inl (fun _ => 0)), .inl (0, 120, .inl (fun _ => 0))]) (app_sn rfl) ?_
  refine x_putf hm rfl (a_put (k := 0) (l2 := [.inr (4, [.ref (i + 1), .ref (i + 2), .ref (i + 3), .int 0, .ref (i + 4), .ref (i + 5), .int (-1), .ref (i + 6), .ref (i + 7), .int 0, .int 0, .int 0, .int 0, .int 0, .int 0, .null, .null, .int 0, .int 0, .int 0, .null, .null, .null, .null]), .inl (0, 118, .inl (fun _ => 0)), .inl (0, 118, .inl (fun _ => 0)), .inl (0, 118, .inl (fun _ => 0)), .inl (0, 8, .inl (fun _ => 0)), .inl (0, 8, .inl (fun _ => 0)), .inl (0, 8, .inl (fun _ => 0)), .inl (0, 120, .inl (fun _ => 0))]) hi rfl) ?_
  refine x_aload_n hm rfl rfl ?_
  refine x_bipush hm rfl (v := nI 7) (by decide) ?_
  refine x_ana hm rfl (by decide) (a_len (k := 8) hi rfl) (D2 := D0 ++ [.inr (4, [.ref (i + 1), .ref (i + 2), .ref (i + 3), .int 0, .ref (i + 4), .ref (i + 5), .int (-1), .ref (i + 6), .ref (i + 7), .int 0, .int 0, .int 0, .int 0, .int 0, .int 0, .null, .null, .int 0, .int 0, .int 0, .null, .null, .null, .null]), .inl (0, 118, .inl (fun _ => 0)), .inl (0, 118, .inl (fun _ => 0)), .inl (0, 118, .inl (fun _ => 0)), .inl (0, 8, .inl (fun _ => 0)), .inl (0, 8, .inl (fun _ => 0)), .inl (0, 8, .inl (fun _ => 0)), .inl (0, 120, .inl (fun _ => 0)), .inl (4, 7, .inr (.inr (.inr (.inr (fun _ => none)))))]) (app_sn rfl) ?_
  refine x_dup hm rfl rfl ?_
  refine x_iconst hm rfl (v := nI 0) (by decide) ?_
  refine x_ldcS hm rfl ?_
  refine x_aast hm rfl (a_stq (k := 8) (l2 := [.inr (4, [.ref (i + 1), .ref (i + 2), .ref (i + 3), .int 0, .ref (i + 4), .ref (i + 5), .int (-1), .ref (i + 6), .ref (i + 7), .int 0, .int 0, .int 0, .int 0, .int 0, .int 0, .null, .null, .int 0, .int 0, .int 0, .null, .null, .null, .null]), .inl (0, 118, .inl (fun _ => 0)), .inl (0, 118, .inl (fun _ => 0)), .inl (0, 118, .inl (fun _ => 0)), .inl (0, 8, .inl (fun _ => 0)), .inl (0, 8, .inl (fun _ => 0)), .inl (0, 8, .inl (fun _ => 0)), .inl (0, 120, .inl (fun _ => 0)), .inl (4, 7, .inr (.inr (.inr (.inr (va_up (fun _ => none) 0 (some 1000007))))))]) hi rfl rfl (by decide) (by decide) (by decide) (by decide)) ?_
  refine x_dup hm rfl rfl ?_
  refine x_iconst hm rfl (v := nI 1) (by decide) ?_
  refine x_ldcS hm rfl ?_
  refine x_aast hm rfl (a_stq (k := 8) (l2 := [.inr (4, [.ref (i + 1), .ref (i + 2), .ref (i + 3), .int 0, .ref (i + 4), .ref (i + 5), .int (-1), .ref (i + 6), .ref (i + 7), .int 0, .int 0, .int 0, .int 0, .int 0, .int 0, .null, .null, .int 0, .int 0, .int 0, .null, .null, .null, .null]), .inl (0, 118, .inl (fun _ => 0)), .inl (0, 118, .inl (fun _ => 0)), .inl (0, 118, .inl (fun _ => 0)), .inl (0, 8, .inl (fun _ => 0)), .inl (0, 8, .inl (fun _ => 0)), .inl (0, 8, .inl (fun _ => 0)), .inl (0, 120, .inl (fun _ => 0)), .inl (4, 7, .inr (.inr (.inr (.inr (va_up (va_up (fun _ => none) 0 (some 1000007)) 1 (some 1000001))))))]) hi rfl rfl (by decide) (by decide) (by decide) (by decide)) ?_
  refine x_dup hm rfl rfl ?_
  refine x_iconst hm rfl (v := nI 2) (by decide) ?_
  refine x_ldcS hm rfl ?_
  refine x_aast hm rfl (a_stq (k := 8) (l2 := [.inr (4, [.ref (i + 1), .ref (i + 2), .ref (i + 3), .int 0, .ref (i + 4), .ref (i + 5), .int (-1), .ref (i + 6), .ref (i + 7), .int 0, .int 0, .int 0, .int 0, .int 0, .int 0, .null, .null, .int 0, .int 0, .int 0, .null, .null, .null, .null]), .inl (0, 118, .inl (fun _ => 0)), .inl (0, 118, .inl (fun _ => 0)), .inl (0, 118, .inl (fun _ => 0)), .inl (0, 8, .inl (fun _ => 0)), .inl (0, 8, .inl (fun _ => 0)), .inl (0, 8, .inl (fun _ => 0)), .inl (0, 120, .inl (fun _ => 0)), .inl (4, 7, .inr (.inr (.inr (.inr (va_up (va_up (va_up (fun _ => none) 0 (some 1000007)) 1 (some 1000001)) 2 (some 1000002))))))]) hi rfl rfl (by decide) (by decide) (by decide) (by decide)) ?_
  refine x_dup hm rfl rfl ?_
  refine x_iconst hm rfl (v := nI 3) (by decide) ?_
  refine x_ldcS hm rfl ?_
  refine x_aast hm rfl (a_stq (k := 8) (l2 := [.inr (4, [.ref (i + 1), .ref (i + 2), .ref (i + 3), .int 0, .ref (i + 4), .ref (i + 5), .int (-1), .ref (i + 6), .ref (i + 7), .int 0, .int 0, .int 0, .int 0, .int 0, .int 0, .null, .null, .int 0, .int 0, .int 0, .null, .null, .null, .null]), .inl (0, 118, .inl (fun _ => 0)), .inl (0, 118, .inl (fun _ => 0)), .inl (0, 118, .inl (fun _ => 0)), .inl (0, 8, .inl (fun _ => 0)), .inl (0, 8, .inl (fun _ => 0)), .inl (0, 8, .inl (fun _ => 0)), .inl (0, 120, .inl (fun _ => 0)), .inl (4, 7, .inr (.inr (.inr (.inr (va_up (va_up (va_up (va_up (fun _ => none) 0 (some 1000007)) 1 (some 1000001)) 2 (some 1000002)) 3 (some 1000003))))))]) hi rfl rfl (by decide) (by decide) (by decide) (by decide)) ?_
  refine x_dup hm rfl rfl ?_
  refine x_iconst hm rfl (v := nI 4) (by decide) ?_
  refine x_ldcS hm rfl ?_
  refine x_aast hm rfl (a_stq (k := 8) (l2 := [.inr (4, [.ref (i + 1), .ref (i + 2), .ref (i + 3), .int 0, .ref (i + 4), .ref (i + 5), .int (-1), .ref (i + 6), .ref (i + 7), .int 0, .int 0, .int 0, .int 0, .int 0, .int 0, .null, .null, .int 0, .int 0, .int 0, .null, .null, .null, .null]), .inl (0, 118, .inl (fun _ => 0)), .inl (0, 118, .inl (fun _ => 0)), .inl (0, 118, .inl (fun _ => 0)), .inl (0, 8, .inl (fun _ => 0)), .inl (0, 8, .inl (fun _ => 0)), .inl (0, 8, .inl (fun _ => 0)), .inl (0, 120, .inl (fun _ => 0)), .inl (4, 7, .inr (.inr (.inr (.inr (va_up (va_up (va_up (va_up (va_up (fun _ => none) 0 (some 1000007)) 1 (some 1000001)) 2 (some 1000002)) 3 (some 1000003)) 4 (some 1000004))))))]) hi rfl rfl (by decide) (by decide) (by decide) (by decide)) ?_
  refine x_dup hm rfl rfl ?_
  refine x_iconst hm rfl (v := nI 5) (by decide) ?_
  refine x_ldcS hm rfl ?_
  refine x_aast hm rfl (a_stq (k := 8) (l2 := [.inr (4, [.ref (i + 1), .ref (i + 2), .ref (i + 3), .int 0, .ref (i + 4), .ref (i + 5), .int (-1), .ref (i + 6), .ref (i + 7), .int 0, .int 0, .int 0, .int 0, .int 0, .int 0, .null, .null, .int 0, .int 0, .int 0, .null, .null, .null, .null]), .inl (0, 118, .inl (fun _ => 0)), .inl (0, 118, .inl (fun _ => 0)), .inl (0, 118, .inl (fun _ => 0)), .inl (0, 8, .inl (fun _ => 0)), .inl (0, 8, .inl (fun _ => 0)), .inl (0, 8, .inl (fun _ => 0)), .inl (0, 120, .inl (fun _ => 0)), .inl (4, 7, .inr (.inr (.inr (.inr (va_up (va_up (va_up (va_up (va_up (va_up (fun _ => none) 0 (some 1000007)) 1 (some 1000001)) 2 (some 1000002)) 3 (some 1000003)) 4 (some 1000004)) 5 (some 1000005))))))]) hi rfl rfl (by decide) (by decide) (by decide) (by decide)) ?_
  refine x_dup hm rfl rfl ?_
  refine x_bipush hm rfl (v := nI 6) (by decide) ?_
  refine x_ldcS hm rfl ?_
  refine x_aast hm rfl (a_stq (k := 8) (l2 := [.inr (4, [.ref (i + 1), .ref (i + 2), .ref (i + 3), .int 0, .ref (i + 4), .ref (i + 5), .int (-1), .ref (i + 6), .ref (i + 7), .int 0, .int 0, .int 0, .int 0, .int 0, .int 0, .null, .null, .int 0, .int 0, .int 0, .null, .null, .null, .null]), .inl (0, 118, .inl (fun _ => 0)), .inl (0, 118, .inl (fun _ => 0)), .inl (0, 118, .inl (fun _ => 0)), .inl (0, 8, .inl (fun _ => 0)), .inl (0, 8, .inl (fun _ => 0)), .inl (0, 8, .inl (fun _ => 0)), .inl (0, 120, .inl (fun _ => 0)), .inl (4, 7, .inr (.inr (.inr (.inr (va_up (va_up (va_up (va_up (va_up (va_up (va_up (fun _ => none) 0 (some 1000007)) 1 (some 1000001)) 2 (some 1000002)) 3 (some 1000003)) 4 (some 1000004)) 5 (some 1000005)) 6 (some 1000006))))))]) hi rfl rfl (by decide) (by decide) (by decide) (by decide)) ?_
  refine x_putf hm rfl (a_put (k := 0) (l2 := [.inr (4, [.ref (i + 1), .ref (i + 2), .ref (i + 3), .int 0, .ref (i + 4), .ref (i + 5), .int (-1), .ref (i + 6), .ref (i + 7), .int 0, .int 0, .int 0, .int 0, .int 0, .int 0, .ref (i + 8), .null, .int 0, .int 0, .int 0, .null, .null, .null, .null]), .inl (0, 118, .inl (fun _ => 0)), .inl (0, 118, .inl (fun _ => 0)), .inl (0, 118, .inl (fun _ => 0)), .inl (0, 8, .inl (fun _ => 0)), .inl (0, 8, .inl (fun _ => 0)), .inl (0, 8, .inl (fun _ => 0)), .inl (0, 120, .inl (fun _ => 0)), .inl (4, 7, .inr (.inr (.inr (.inr (va_up (va_up (va_up (va_up (va_up (va_up (va_up (fun _ => none) 0 (some 1000007)) 1 (some 1000001)) 2 (some 1000002)) 3 (some 1000003)) 4 (some 1000004)) 5 (some 1000005)) 6 (some 1000006))))))]) hi rfl) ?_
  refine x_aload_n hm rfl rfl ?_
  refine x_sipush hm rfl (v := nI 840) (by decide) ?_
  refine x_nai hm rfl (by decide) (a_len (k := 9) hi rfl) (D2 := D0 ++ [.inr (4, [.ref (i + 1), .ref (i + 2), .ref (i + 3), .int 0, .ref (i + 4), .ref (i + 5), .int (-1), .ref (i + 6), .ref (i + 7), .int 0, .int 0, .int 0, .int 0, .int 0, .int 0, .ref (i + 8), .null, .int 0, .int 0, .int 0, .null, .null, .null, .null]), .inl (0, 118, .inl (fun _ => 0)), .inl (0, 118, .inl (fun _ => 0)), .inl (0, 118, .inl (fun _ => 0)), .inl (0, 8, .inl (fun _ => 0)), .inl (0, 8, .inl (fun _ => 0)), .inl (0, 8, .inl (fun _ => 0)), .inl (0, 120, .inl (fun _ => 0)), .inl (4, 7, .inr (.inr (.inr (.inr (va_up (va_up (va_up (va_up (va_up (va_up (va_up (fun _ => none) 0 (some 1000007)) 1 (some 1000001)) 2 (some 1000002)) 3 (some 1000003)) 4 (some 1000004)) 5 (some 1000005)) 6 (some 1000006)))))), .inl (0, 840, .inl (fun _ => 0))]) (app_sn rfl) ?_
  refine x_putf hm rfl (a_put (k := 0) (l2 := [.inr (4, [.ref (i + 1), .ref (i + 2), .ref (i + 3), .int 0, .ref (i + 4), .ref (i + 5), .int (-1), .ref (i + 6), .ref (i + 7), .int 0, .int 0, .int 0, .int 0, .int 0, .int 0, .ref (i + 8), .ref (i + 9), .int 0, .int 0, .int 0, .null, .null, .null, .null]), .inl (0, 118, .inl (fun _ => 0)), .inl (0, 118, .inl (fun _ => 0)), .inl (0, 118, .inl (fun _ => 0)), .inl (0, 8, .inl (fun _ => 0)), .inl (0, 8, .inl (fun _ => 0)), .inl (0, 8, .inl (fun _ => 0)), .inl (0, 120, .inl (fun _ => 0)), .inl (4, 7, .inr (.inr (.inr (.inr (va_up (va_up (va_up (va_up (va_up (va_up (va_up (fun _ => none) 0 (some 1000007)) 1 (some 1000001)) 2 (some 1000002)) 3 (some 1000003)) 4 (some 1000004)) 5 (some 1000005)) 6 (some 1000006)))))), .inl (0, 840, .inl (fun _ => 0))]) hi rfl) ?_
  refine x_aload_n hm rfl rfl ?_
  refine x_iconst hm rfl (v := nI 4) (by decide) ?_
  refine x_nai hm rfl (by decide) (a_len (k := 10) hi rfl) (D2 := D0 ++ [.inr (4, [.ref (i + 1), .ref (i + 2), .ref (i + 3), .int 0, .ref (i + 4), .ref (i + 5), .int (-1), .ref (i + 6), .ref (i + 7), .int 0, .int 0, .int 0, .int 0, .int 0, .int 0, .ref (i + 8), .ref (i + 9), .int 0, .int 0, .int 0, .null, .null, .null, .null]), .inl (0, 118, .inl (fun _ => 0)), .inl (0, 118, .inl (fun _ => 0)), .inl (0, 118, .inl (fun _ => 0)), .inl (0, 8, .inl (fun _ => 0)), .inl (0, 8, .inl (fun _ => 0)), .inl (0, 8, .inl (fun _ => 0)), .inl (0, 120, .inl (fun _ => 0)), .inl (4, 7, .inr (.inr (.inr (.inr (va_up (va_up (va_up (va_up (va_up (va_up (va_up (fun _ => none) 0 (some 1000007)) 1 (some 1000001)) 2 (some 1000002)) 3 (some 1000003)) 4 (some 1000004)) 5 (some 1000005)) 6 (some 1000006)))))), .inl (0, 840, .inl (fun _ => 0)), .inl (0, 4, .inl (fun _ => 0))]) (app_sn rfl) ?_
  refine x_putf hm rfl (a_put (k := 0) (l2 := [.inr (4, [.ref (i + 1), .ref (i + 2), .ref (i + 3), .int 0, .ref (i + 4), .ref (i + 5), .int (-1), .ref (i + 6), .ref (i + 7), .int 0, .int 0, .int 0, .int 0, .int 0, .int 0, .ref (i + 8), .ref (i + 9), .int 0, .int 0, .int 0, .ref (i + 10), .null, .null, .null]), .inl (0, 118, .inl (fun _ => 0)), .inl (0, 118, .inl (fun _ => 0)), .inl (0, 118, .inl (fun _ => 0)), .inl (0, 8, .inl (fun _ => 0)), .inl (0, 8, .inl (fun _ => 0)), .inl (0, 8, .inl (fun _ => 0)), .inl (0, 120, .inl (fun _ => 0)), .inl (4, 7, .inr (.inr (.inr (.inr (va_up (va_up (va_up (va_up (va_up (va_up (va_up (fun _ => none) 0 (some 1000007)) 1 (some 1000001)) 2 (some 1000002)) 3 (some 1000003)) 4 (some 1000004)) 5 (some 1000005)) 6 (some 1000006)))))), .inl (0, 840, .inl (fun _ => 0)), .inl (0, 4, .inl (fun _ => 0))]) hi rfl) ?_
  refine x_aload_n hm rfl rfl ?_
  refine x_iconst hm rfl (v := nI 4) (by decide) ?_
  refine x_nai hm rfl (by decide) (a_len (k := 11) hi rfl) (D2 := D0 ++ [.inr (4, [.ref (i + 1), .ref (i + 2), .ref (i + 3), .int 0, .ref (i + 4), .ref (i + 5), .int (-1), .ref (i + 6), .ref (i + 7), .int 0, .int 0, .int 0, .int 0, .int 0, .int 0, .ref (i + 8), .ref (i + 9), .int 0, .int 0, .int 0, .ref (i + 10), .null, .null, .null]), .inl (0, 118, .inl (fun _ => 0)), .inl (0, 118, .inl (fun _ => 0)), .inl (0, 118, .inl (fun _ => 0)), .inl (0, 8, .inl (fun _ => 0)), .inl (0, 8, .inl (fun _ => 0)), .inl (0, 8, .inl (fun _ => 0)), .inl (0, 120, .inl (fun _ => 0)), .inl (4, 7, .inr (.inr (.inr (.inr (va_up (va_up (va_up (va_up (va_up (va_up (va_up (fun _ => none) 0 (some 1000007)) 1 (some 1000001)) 2 (some 1000002)) 3 (some 1000003)) 4 (some 1000004)) 5 (some 1000005)) 6 (some 1000006)))))), .inl (0, 840, .inl (fun _ => 0)), .inl (0, 4, .inl (fun _ => 0)), .inl (0, 4, .inl (fun _ => 0))]) (app_sn rfl) ?_
  refine x_putf hm rfl (a_put (k := 0) (l2 := [.inr (4, [.ref (i + 1), .ref (i + 2), .ref (i + 3), .int 0, .ref (i + 4), .ref (i + 5), .int (-1), .ref (i + 6), .ref (i + 7), .int 0, .int 0, .int 0, .int 0, .int 0, .int 0, .ref (i + 8), .ref (i + 9), .int 0, .int 0, .int 0, .ref (i + 10), .ref (i + 11), .null, .null]), .inl (0, 118, .inl (fun _ => 0)), .inl (0, 118, .inl (fun _ => 0)), .inl (0, 118, .inl (fun _ => 0)), .inl (0, 8, .inl (fun _ => 0)), .inl (0, 8, .inl (fun _ => 0)), .inl (0, 8, .inl (fun _ => 0)), .inl (0, 120, .inl (fun _ => 0)), .inl (4, 7, .inr (.inr (.inr (.inr (va_up (va_up (va_up (va_up (va_up (va_up (va_up (fun _ => none) 0 (some 1000007)) 1 (some 1000001)) 2 (some 1000002)) 3 (some 1000003)) 4 (some 1000004)) 5 (some 1000005)) 6 (some 1000006)))))), .inl (0, 840, .inl (fun _ => 0)), .inl (0, 4, .inl (fun _ => 0)), .inl (0, 4, .inl (fun _ => 0))]) hi rfl) ?_
  refine x_aload_n hm rfl rfl ?_
  refine x_sipush hm rfl (v := nI 160) (by decide) ?_
  refine x_nai hm rfl (by decide) (a_len (k := 12) hi rfl) (D2 := D0 ++ [.inr (4, [.ref (i + 1), .ref (i + 2), .ref (i + 3), .int 0, .ref (i + 4), .ref (i + 5), .int (-1), .ref (i + 6), .ref (i + 7), .int 0, .int 0, .int 0, .int 0, .int 0, .int 0, .ref (i + 8), .ref (i + 9), .int 0, .int 0, .int 0, .ref (i + 10), .ref (i + 11), .null, .null]), .inl (0, 118, .inl (fun _ => 0)), .inl (0, 118, .inl (fun _ => 0)), .inl (0, 118, .inl (fun _ => 0)), .inl (0, 8, .inl (fun _ => 0)), .inl (0, 8, .inl (fun _ => 0)), .inl (0, 8, .inl (fun _ => 0)), .inl (0, 120, .inl (fun _ => 0)), .inl (4, 7, .inr (.inr (.inr (.inr (va_up (va_up (va_up (va_up (va_up (va_up (va_up (fun _ => none) 0 (some 1000007)) 1 (some 1000001)) 2 (some 1000002)) 3 (some 1000003)) 4 (some 1000004)) 5 (some 1000005)) 6 (some 1000006)))))), .inl (0, 840, .inl (fun _ => 0)), .inl (0, 4, .inl (fun _ => 0)), .inl (0, 4, .inl (fun _ => 0)), .inl (0, 160, .inl (fun _ => 0))]) (app_sn rfl) ?_
  refine x_putf hm rfl (a_put (k := 0) (l2 := [.inr (4, [.ref (i + 1), .ref (i + 2), .ref (i + 3), .int 0, .ref (i + 4), .ref (i + 5), .int (-1), .ref (i + 6), .ref (i + 7), .int 0, .int 0, .int 0, .int 0, .int 0, .int 0, .ref (i + 8), .ref (i + 9), .int 0, .int 0, .int 0, .ref (i + 10), .ref (i + 11), .ref (i + 12), .null]), .inl (0, 118, .inl (fun _ => 0)), .inl (0, 118, .inl (fun _ => 0)), .inl (0, 118, .inl (fun _ => 0)), .inl (0, 8, .inl (fun _ => 0)), .inl (0, 8, .inl (fun _ => 0)), .inl (0, 8, .inl (fun _ => 0)), .inl (0, 120, .inl (fun _ => 0)), .inl (4, 7, .inr (.inr (.inr (.inr (va_up (va_up (va_up (va_up (va_up (va_up (va_up (fun _ => none) 0 (some 1000007)) 1 (some 1000001)) 2 (some 1000002)) 3 (some 1000003)) 4 (some 1000004)) 5 (some 1000005)) 6 (some 1000006)))))), .inl (0, 840, .inl (fun _ => 0)), .inl (0, 4, .inl (fun _ => 0)), .inl (0, 4, .inl (fun _ => 0)), .inl (0, 160, .inl (fun _ => 0))]) hi rfl) ?_
  refine x_aload_n hm rfl rfl ?_
  refine x_bipush hm rfl (v := nI 40) (by decide) ?_
  refine x_nai hm rfl (by decide) (a_len (k := 13) hi rfl) (D2 := D0 ++ [.inr (4, [.ref (i + 1), .ref (i + 2), .ref (i + 3), .int 0, .ref (i + 4), .ref (i + 5), .int (-1), .ref (i + 6), .ref (i + 7), .int 0, .int 0, .int 0, .int 0, .int 0, .int 0, .ref (i + 8), .ref (i + 9), .int 0, .int 0, .int 0, .ref (i + 10), .ref (i + 11), .ref (i + 12), .null]), .inl (0, 118, .inl (fun _ => 0)), .inl (0, 118, .inl (fun _ => 0)), .inl (0, 118, .inl (fun _ => 0)), .inl (0, 8, .inl (fun _ => 0)), .inl (0, 8, .inl (fun _ => 0)), .inl (0, 8, .inl (fun _ => 0)), .inl (0, 120, .inl (fun _ => 0)), .inl (4, 7, .inr (.inr (.inr (.inr (va_up (va_up (va_up (va_up (va_up (va_up (va_up (fun _ => none) 0 (some 1000007)) 1 (some 1000001)) 2 (some 1000002)) 3 (some 1000003)) 4 (some 1000004)) 5 (some 1000005)) 6 (some 1000006)))))), .inl (0, 840, .inl (fun _ => 0)), .inl (0, 4, .inl (fun _ => 0)), .inl (0, 4, .inl (fun _ => 0)), .inl (0, 160, .inl (fun _ => 0)), .inl (0, 40, .inl (fun _ => 0))]) (app_sn rfl) ?_
  refine x_putf hm rfl (a_put (k := 0) (l2 := [.inr (4, [.ref (i + 1), .ref (i + 2), .ref (i + 3), .int 0, .ref (i + 4), .ref (i + 5), .int (-1), .ref (i + 6), .ref (i + 7), .int 0, .int 0, .int 0, .int 0, .int 0, .int 0, .ref (i + 8), .ref (i + 9), .int 0, .int 0, .int 0, .ref (i + 10), .ref (i + 11), .ref (i + 12), .ref (i + 13)]), .inl (0, 118, .inl (fun _ => 0)), .inl (0, 118, .inl (fun _ => 0)), .inl (0, 118, .inl (fun _ => 0)), .inl (0, 8, .inl (fun _ => 0)), .inl (0, 8, .inl (fun _ => 0)), .inl (0, 8, .inl (fun _ => 0)), .inl (0, 120, .inl (fun _ => 0)), .inl (4, 7, .inr (.inr (.inr (.inr (va_up (va_up (va_up (va_up (va_up (va_up (va_up (fun _ => none) 0 (some 1000007)) 1 (some 1000001)) 2 (some 1000002)) 3 (some 1000003)) 4 (some 1000004)) 5 (some 1000005)) 6 (some 1000006)))))), .inl (0, 840, .inl (fun _ => 0)), .inl (0, 4, .inl (fun _ => 0)), .inl (0, 4, .inl (fun _ => 0)), .inl (0, 160, .inl (fun _ => 0)), .inl (0, 40, .inl (fun _ => 0))]) hi rfl) ?_
  refine x_aload_n hm rfl rfl ?_
  refine x_getf hm rfl (a_get (k := 0) hi rfl) ?_
  refine x_iconst hm rfl (v := nI 3) (by decide) ?_
  refine x_iconst hm rfl (v := nI 1) (by decide) ?_
  refine x_iast hm rfl (a_sti (k := 1) hi rfl (by decide) (by decide)) ?_
  rw [nwF_0]
  refine x_iconst hm rfl (v := nI 0) (by decide) ?_
  refine x_istore_n hm rfl rfl ?_
  have h := c131l (X := X) (D := D0 ++ modL i (nwF 0)) (i := i) (c := i + 1) (fun f => by rw [app_set hi]; exact a_get (k := 0) hi rfl) (by rw [a_len (k := 14) hi rfl]; omega) 11 0 (by decide) (by decide)
  rw [app_set hi, app_set hi] at h
  rw [kn7]
  exact h
theorem put_hd {o o2 : va_E} {r : mHp} {kd : Nat} {v : Value} (h : mPut row kd [o] 0 a b v = some [o2]) : mPut row kd (o :: r) 0 a b v = some (o2 :: r) := by
  unfold mPut at h ⊢
  cases o with
  | inl q => cases h
  | inr o =>
    obtain ⟨c, fs⟩ := o
    have h2 : cond _ (some ([_] : mHp)) none = some [o2] := h
    obtain ⟨hB, hl⟩ := mCond_eq h2
    have e := (List.cons.inj (Option.some.inj hl)).1
    show cond _ (some (_ :: r)) none = _
    rw [hB, ← e]
    rfl
theorem get_hd {o : va_E} {r : mHp} {v : Value} (h : mGet [o] 0 a b = some v) : mGet (o :: r) 0 a b = some v := h
noncomputable def R1 : mHp := townL 1
noncomputable def R2 : mHp := R1 ++ townL 18
noncomputable def R3 : mHp := R2 ++ townL 35
noncomputable def R4 : mHp := R3 ++ [.inr (1, [.ref 53, .int 0, .int 0, .int 0, .int 0, .int 0, .int (-1)]), .inl (1, 120, .inl (fun _ => 0))]
theorem R1_l : R1.length = 17 := rfl
theorem R2_l : R2.length = 34 := by unfold R2; rw [List.length_append, R1_l]; rfl
theorem R3_l : R3.length = 51 := by unfold R3; rw [List.length_append, R2_l]; rfl
theorem R4_l : R4.length = 53 := by unfold R4; rw [List.length_append, R3_l]; rfl
theorem hd_l {o : va_E} {r : mHp} (h : r.length = n) : (o :: r).length = n + 1 := congrArg (· + 1) h
theorem hd_la {o : va_E} {r : mHp} (h : r.length = n) (g : l.length = k) : (o :: (r ++ l)).length = n + k + 1 := by rw [List.length_cons, List.length_append, h, g]
theorem e_stq {o : va_E} {r : mHp} {m : Nat} {f : Nat → Option Nat} {fs : List Value} {v q j : Nat} (hr : r.length = 53) (h : l[0]? = some (.inl (2, m, .inr (.inr (.inr (.inr f)))))) (hv : v = 54 + q) (hq : l[q]? = some (.inr (0, fs))) (hl : l.set 0 (.inl (2, m, .inr (.inr (.inr (.inr (va_up f j (some v))))))) = l2) (hj : j < m) (hm : m ≤ 1000) : mStQ (o :: (r ++ l)) 54 (nI j) v = some (o :: (r ++ l2)) := by
  have hi : (o :: r).length = 54 := by rw [List.length_cons, hr]
  show mStQ ((o :: r) ++ l) (54 + 0) (nI j) v = some ((o :: r) ++ l2)
  unfold mStQ
  rw [app_at hi, h]
  dsimp only
  have e : mAk ((o :: r) ++ l) 2 v = true := by
    show (match ((o :: r) ++ l)[v]? with
      | some (.inr (c, _)) => Nat.beq c 0
      | _ => false) = true
    rw [hv, app_at hi, hq]
    rfl
  rw [e, jI_out hj hm, jI_nat (by omega), app_set hi, hl]
  rfl
theorem hd_sn {o : va_E} {r x : mHp} (h : l ++ x = l2) : (o :: (r ++ l)) ++ x = o :: (r ++ l2) := by
  show o :: ((r ++ l) ++ x) = _
  rw [List.append_assoc, h]
theorem nw_at {c : va_E} (h : D.length = i) : (D ++ [c])[i]? = some c := by
  rw [List.getElem?_append_right (by omega), h, Nat.sub_self]
  rfl
theorem mCallN {ins : Instr} {len j kd a n pc c : Nat} {z : Int} {st as r : List Value} {rw2 : mRow} {fs : List Value} (hk : kd = 14 ∨ kd = 15) (h1 : (st.take n).reverse = .ref b :: as) (h2 : st.drop n = r) (h3 : (Nat.ble n st.length && mC1 (st.take n) && Nat.ble (mWt (st.drop n)) 8) = true) (h4 : mMet a = some rw2) (h5 : rw2.1 = c) (hD : D[b]? = some (.inr (c, fs))) :
    mCall (ins, len, j, kd, a, n, z) true pc L st D = some (.inr (.inr (a, .ref b :: as, r))) := by
  have hr : mRcv D (st.take n).reverse a = true := by
    unfold mRcv
    rw [h1]
    dsimp only
    rw [hD, h4]
    dsimp only
    rw [h5]
    exact Nat.beq_refl c
  have key : cond (Nat.ble n st.length && mC1 (st.take n) && Nat.ble (mWt (st.drop n)) 8 && (!true || mRcv D (st.take n).reverse a)) (some ((.inr (.inr (a, (st.take n).reverse, st.drop n))) : mRes)) none = some (.inr (.inr (a, .ref b :: as, r))) := by
    rw [h3, hr, h1, h2]
    rfl
  rcases hk with rfl | rfl <;> exact key
noncomputable def E66 : mHp := .inr (3, [.ref 1, .ref 18, .ref 35, .ref 52, .ref 54, .ref 55, .int 0, .ref 56, .ref 57]) :: (R4 ++ [.inl (2, 4, .inr (.inr (.inr (.inr (va_up (va_up (va_up (va_up (fun _ => none) 0 (some 58)) 1 (some 60)) 2 (some 62)) 3 (some 64)))))), .inl (0, 7, .inl (fun _ => 0)), .inl (0, 8, .inl (fun _ => 0)), .inl (0, 8, .inl (fun _ => 0)), .inr (0, [.ref 59, .int 0, .int 0]), .inl (0, 40, .inl (fun _ => 0)), .inr (0, [.ref 61, .int 0, .int 0]), .inl (0, 40, .inl (fun _ => 0)), .inr (0, [.ref 63, .int 0, .int 0]), .inl (0, 40, .inl (fun _ => 0)), .inr (0, [.ref 65, .int 0, .int 0]), .inl (0, 40, .inl (fun _ => 0))])
theorem c0 : mT X 0 [.ref 0] [.inr (3, mDf 3)] none E66 := by
  refine mT.of (row := _) rfl (Nat.le_of_ble_eq_true rfl) ?_
  have hm : mMet 0 = some _ := rfl
  refine x_aload_n hm rfl rfl ?_
  refine x_libI hm rfl rfl ?_
  dsimp only
  refine x_aload_n hm rfl rfl ?_
  refine x_new hm rfl (d := 1) (rfl) (D2 := [.inr (3, [.null, .null, .null, .null, .null, .null, .int 0, .null, .null])] ++ [.inr (2, mDf 2)]) rfl ?_
  refine x_dup hm rfl rfl ?_
  refine x_callI hm rfl (mCallN (by decide) rfl rfl rfl rfl rfl (nw_at (rfl))) (c2 (D0 := [.inr (3, [.null, .null, .null, .null, .null, .null, .int 0, .null, .null])]) (i := 1) (rfl)) ?_
  refine x_putf hm rfl (D1 := .inr (3, [.ref 1, .null, .null, .null, .null, .null, .int 0, .null, .null]) :: R1) (put_hd rfl) ?_
  refine x_aload_n hm rfl rfl ?_
  refine x_new hm rfl (d := 18) (hd_l R1_l) (D2 := (.inr (3, [.ref 1, .null, .null, .null, .null, .null, .int 0, .null, .null]) :: R1) ++ [.inr (2, mDf 2)]) rfl ?_
  refine x_dup hm rfl rfl ?_
  refine x_callI hm rfl (mCallN (by decide) rfl rfl rfl rfl rfl (nw_at (hd_l R1_l))) (c2 (D0 := (.inr (3, [.ref 1, .null, .null, .null, .null, .null, .int 0, .null, .null]) :: R1)) (i := 18) (hd_l R1_l)) ?_
  refine x_putf hm rfl (D1 := .inr (3, [.ref 1, .ref 18, .null, .null, .null, .null, .int 0, .null, .null]) :: R2) (put_hd rfl) ?_
  refine x_aload_n hm rfl rfl ?_
  refine x_new hm rfl (d := 35) (hd_l R2_l) (D2 := (.inr (3, [.ref 1, .ref 18, .null, .null, .null, .null, .int 0, .null, .null]) :: R2) ++ [.inr (2, mDf 2)]) rfl ?_
  refine x_dup hm rfl rfl ?_
  refine x_callI hm rfl (mCallN (by decide) rfl rfl rfl rfl rfl (nw_at (hd_l R2_l))) (c2 (D0 := (.inr (3, [.ref 1, .ref 18, .null, .null, .null, .null, .int 0, .null, .null]) :: R2)) (i := 35) (hd_l R2_l)) ?_
  refine x_putf hm rfl (D1 := .inr (3, [.ref 1, .ref 18, .ref 35, .null, .null, .null, .int 0, .null, .null]) :: R3) (put_hd rfl) ?_
  refine x_aload_n hm rfl rfl ?_
  refine x_new hm rfl (d := 52) (hd_l R3_l) (D2 := (.inr (3, [.ref 1, .ref 18, .ref 35, .null, .null, .null, .int 0, .null, .null]) :: R3) ++ [.inr (1, mDf 1)]) rfl ?_
  refine x_dup hm rfl rfl ?_
  refine x_callI hm rfl (mCallN (by decide) rfl rfl rfl rfl rfl (nw_at (hd_l R3_l))) (c3 (D0 := (.inr (3, [.ref 1, .ref 18, .ref 35, .null, .null, .null, .int 0, .null, .null]) :: R3)) (i := 52) (hd_l R3_l)) ?_
  refine x_putf hm rfl (D1 := .inr (3, [.ref 1, .ref 18, .ref 35, .ref 52, .null, .null, .int 0, .null, .null]) :: R4) (put_hd rfl) ?_
  refine x_aload_n hm rfl rfl ?_
  refine x_iconst hm rfl (v := nI 4) (by decide) ?_
  refine x_ana hm rfl (by decide) (d := 54) (hd_l R4_l) (D2 := .inr (3, [.ref 1, .ref 18, .ref 35, .ref 52, .null, .null, .int 0, .null, .null]) :: (R4 ++ [.inl (2, 4, .inr (.inr (.inr (.inr (fun _ => none)))))])) rfl ?_
  refine x_putf hm rfl (D1 := .inr (3, [.ref 1, .ref 18, .ref 35, .ref 52, .ref 54, .null, .int 0, .null, .null]) :: (R4 ++ [.inl (2, 4, .inr (.inr (.inr (.inr (fun _ => none)))))])) (put_hd rfl) ?_
  refine x_aload_n hm rfl rfl ?_
  refine x_bipush hm rfl (v := nI 7) (by decide) ?_
  refine x_nai hm rfl (by decide) (d := 55) (hd_la R4_l (k := 1) rfl) (D2 := .inr (3, [.ref 1, .ref 18, .ref 35, .ref 52, .ref 54, .null, .int 0, .null, .null]) :: (R4 ++ [.inl (2, 4, .inr (.inr (.inr (.inr (fun _ => none))))), .inl (0, 7, .inl (fun _ => 0))])) (hd_sn rfl) ?_
  refine x_putf hm rfl (D1 := .inr (3, [.ref 1, .ref 18, .ref 35, .ref 52, .ref 54, .ref 55, .int 0, .null, .null]) :: (R4 ++ [.inl (2, 4, .inr (.inr (.inr (.inr (fun _ => none))))), .inl (0, 7, .inl (fun _ => 0))])) (put_hd rfl) ?_
  refine x_aload_n hm rfl rfl ?_
  refine x_iconst hm rfl (v := nI 0) (by decide) ?_
  refine x_putf hm rfl (D1 := .inr (3, [.ref 1, .ref 18, .ref 35, .ref 52, .ref 54, .ref 55, .int 0, .null, .null]) :: (R4 ++ [.inl (2, 4, .inr (.inr (.inr (.inr (fun _ => none))))), .inl (0, 7, .inl (fun _ => 0))])) (put_hd rfl) ?_
  refine x_aload_n hm rfl rfl ?_
  refine x_bipush hm rfl (v := nI 8) (by decide) ?_
  refine x_nai hm rfl (by decide) (d := 56) (hd_la R4_l (k := 2) rfl) (D2 := .inr (3, [.ref 1, .ref 18, .ref 35, .ref 52, .ref 54, .ref 55, .int 0, .null, .null]) :: (R4 ++ [.inl (2, 4, .inr (.inr (.inr (.inr (fun _ => none))))), .inl (0, 7, .inl (fun _ => 0)), .inl (0, 8, .inl (fun _ => 0))])) (hd_sn rfl) ?_
  refine x_putf hm rfl (D1 := .inr (3, [.ref 1, .ref 18, .ref 35, .ref 52, .ref 54, .ref 55, .int 0, .ref 56, .null]) :: (R4 ++ [.inl (2, 4, .inr (.inr (.inr (.inr (fun _ => none))))), .inl (0, 7, .inl (fun _ => 0)), .inl (0, 8, .inl (fun _ => 0))])) (put_hd rfl) ?_
  refine x_aload_n hm rfl rfl ?_
  refine x_bipush hm rfl (v := nI 8) (by decide) ?_
  refine x_nai hm rfl (by decide) (d := 57) (hd_la R4_l (k := 3) rfl) (D2 := .inr (3, [.ref 1, .ref 18, .ref 35, .ref 52, .ref 54, .ref 55, .int 0, .ref 56, .null]) :: (R4 ++ [.inl (2, 4, .inr (.inr (.inr (.inr (fun _ => none))))), .inl (0, 7, .inl (fun _ => 0)), .inl (0, 8, .inl (fun _ => 0)), .inl (0, 8, .inl (fun _ => 0))])) (hd_sn rfl) ?_
  refine x_putf hm rfl (D1 := .inr (3, [.ref 1, .ref 18, .ref 35, .ref 52, .ref 54, .ref 55, .int 0, .ref 56, .ref 57]) :: (R4 ++ [.inl (2, 4, .inr (.inr (.inr (.inr (fun _ => none))))), .inl (0, 7, .inl (fun _ => 0)), .inl (0, 8, .inl (fun _ => 0)), .inl (0, 8, .inl (fun _ => 0))])) (put_hd rfl) ?_
  refine x_iconst hm rfl (v := nI 0) (by decide) ?_
  refine x_istore_n hm rfl rfl ?_
  refine x_iload_n hm rfl rfl ?_
  refine x_iconst hm rfl (v := nI 4) (by decide) ?_
  refine x_icmp_ge hm rfl (t := 111) rfl (fun h => absurd h (by decide)) (fun _ => ?_)
  refine x_aload_n hm rfl rfl ?_
  refine x_getf hm rfl (get_hd rfl) ?_
  refine x_iload_n hm rfl rfl ?_
  refine x_new hm rfl (d := 58) (hd_la R4_l (k := 4) rfl) (D2 := (.inr (3, [.ref 1, .ref 18, .ref 35, .ref 52, .ref 54, .ref 55, .int 0, .ref 56, .ref 57]) :: (R4 ++ [.inl (2, 4, .inr (.inr (.inr (.inr (fun _ => none))))), .inl (0, 7, .inl (fun _ => 0)), .inl (0, 8, .inl (fun _ => 0)), .inl (0, 8, .inl (fun _ => 0))])) ++ [.inr (0, mDf 0)]) rfl ?_
  refine x_dup hm rfl rfl ?_
  refine x_callI hm rfl (mCallN (by decide) rfl rfl rfl rfl rfl (nw_at (hd_la R4_l (k := 4) rfl))) (c4 (D0 := .inr (3, [.ref 1, .ref 18, .ref 35, .ref 52, .ref 54, .ref 55, .int 0, .ref 56, .ref 57]) :: (R4 ++ [.inl (2, 4, .inr (.inr (.inr (.inr (fun _ => none))))), .inl (0, 7, .inl (fun _ => 0)), .inl (0, 8, .inl (fun _ => 0)), .inl (0, 8, .inl (fun _ => 0))])) (i := 58) (hd_la R4_l (k := 4) rfl)) ?_
  rw [show ∀ z : mHp, (.inr (3, [.ref 1, .ref 18, .ref 35, .ref 52, .ref 54, .ref 55, .int 0, .ref 56, .ref 57]) :: (R4 ++ [.inl (2, 4, .inr (.inr (.inr (.inr (fun _ => none))))), .inl (0, 7, .inl (fun _ => 0)), .inl (0, 8, .inl (fun _ => 0)), .inl (0, 8, .inl (fun _ => 0))])) ++ z = .inr (3, [.ref 1, .ref 18, .ref 35, .ref 52, .ref 54, .ref 55, .int 0, .ref 56, .ref 57]) :: (R4 ++ ([.inl (2, 4, .inr (.inr (.inr (.inr (fun _ => none))))), .inl (0, 7, .inl (fun _ => 0)), .inl (0, 8, .inl (fun _ => 0)), .inl (0, 8, .inl (fun _ => 0))] ++ z)) from fun z => hd_sn rfl]
  refine x_aast hm rfl (D1 := .inr (3, [.ref 1, .ref 18, .ref 35, .ref 52, .ref 54, .ref 55, .int 0, .ref 56, .ref 57]) :: (R4 ++ [.inl (2, 4, .inr (.inr (.inr (.inr (va_up (fun _ => none) 0 (some 58)))))), .inl (0, 7, .inl (fun _ => 0)), .inl (0, 8, .inl (fun _ => 0)), .inl (0, 8, .inl (fun _ => 0)), .inr (0, [.ref 59, .int 0, .int 0]), .inl (0, 40, .inl (fun _ => 0))])) (e_stq (q := 4) R4_l rfl rfl rfl rfl (by decide) (by decide)) ?_
  refine x_iinc hm rfl rfl (v := nI 1) (by decide) rfl ?_
  rw [jI_add]
  refine x_goto hm rfl (t := 87) rfl ?_
  refine x_iload_n hm rfl rfl ?_
  refine x_iconst hm rfl (v := nI 4) (by decide) ?_
  refine x_icmp_ge hm rfl (t := 111) rfl (fun h => absurd h (by decide)) (fun _ => ?_)
  refine x_aload_n hm rfl rfl ?_
  refine x_getf hm rfl (get_hd rfl) ?_
  refine x_iload_n hm rfl rfl ?_
  refine x_new hm rfl (d := 60) (hd_la R4_l (k := 6) rfl) (D2 := (.inr (3, [.ref 1, .ref 18, .ref 35, .ref 52, .ref 54, .ref 55, .int 0, .ref 56, .ref 57]) :: (R4 ++ [.inl (2, 4, .inr (.inr (.inr (.inr (va_up (fun _ => none) 0 (some 58)))))), .inl (0, 7, .inl (fun _ => 0)), .inl (0, 8, .inl (fun _ => 0)), .inl (0, 8, .inl (fun _ => 0)), .inr (0, [.ref 59, .int 0, .int 0]), .inl (0, 40, .inl (fun _ => 0))])) ++ [.inr (0, mDf 0)]) rfl ?_
  refine x_dup hm rfl rfl ?_
  refine x_callI hm rfl (mCallN (by decide) rfl rfl rfl rfl rfl (nw_at (hd_la R4_l (k := 6) rfl))) (c4 (D0 := .inr (3, [.ref 1, .ref 18, .ref 35, .ref 52, .ref 54, .ref 55, .int 0, .ref 56, .ref 57]) :: (R4 ++ [.inl (2, 4, .inr (.inr (.inr (.inr (va_up (fun _ => none) 0 (some 58)))))), .inl (0, 7, .inl (fun _ => 0)), .inl (0, 8, .inl (fun _ => 0)), .inl (0, 8, .inl (fun _ => 0)), .inr (0, [.ref 59, .int 0, .int 0]), .inl (0, 40, .inl (fun _ => 0))])) (i := 60) (hd_la R4_l (k := 6) rfl)) ?_
  rw [show ∀ z : mHp, (.inr (3, [.ref 1, .ref 18, .ref 35, .ref 52, .ref 54, .ref 55, .int 0, .ref 56, .ref 57]) :: (R4 ++ [.inl (2, 4, .inr (.inr (.inr (.inr (va_up (fun _ => none) 0 (some 58)))))), .inl (0, 7, .inl (fun _ => 0)), .inl (0, 8, .inl (fun _ => 0)), .inl (0, 8, .inl (fun _ => 0)), .inr (0, [.ref 59, .int 0, .int 0]), .inl (0, 40, .inl (fun _ => 0))])) ++ z = .inr (3, [.ref 1, .ref 18, .ref 35, .ref 52, .ref 54, .ref 55, .int 0, .ref 56, .ref 57]) :: (R4 ++ ([.inl (2, 4, .inr (.inr (.inr (.inr (va_up (fun _ => none) 0 (some 58)))))), .inl (0, 7, .inl (fun _ => 0)), .inl (0, 8, .inl (fun _ => 0)), .inl (0, 8, .inl (fun _ => 0)), .inr (0, [.ref 59, .int 0, .int 0]), .inl (0, 40, .inl (fun _ => 0))] ++ z)) from fun z => hd_sn rfl]
  refine x_aast hm rfl (D1 := .inr (3, [.ref 1, .ref 18, .ref 35, .ref 52, .ref 54, .ref 55, .int 0, .ref 56, .ref 57]) :: (R4 ++ [.inl (2, 4, .inr (.inr (.inr (.inr (va_up (va_up (fun _ => none) 0 (some 58)) 1 (some 60)))))), .inl (0, 7, .inl (fun _ => 0)), .inl (0, 8, .inl (fun _ => 0)), .inl (0, 8, .inl (fun _ => 0)), .inr (0, [.ref 59, .int 0, .int 0]), .inl (0, 40, .inl (fun _ => 0)), .inr (0, [.ref 61, .int 0, .int 0]), .inl (0, 40, .inl (fun _ => 0))])) (e_stq (q := 6) R4_l rfl rfl rfl rfl (by decide) (by decide)) ?_
  refine x_iinc hm rfl rfl (v := nI 1) (by decide) rfl ?_
  rw [jI_add]
  refine x_goto hm rfl (t := 87) rfl ?_
  refine x_iload_n hm rfl rfl ?_
  refine x_iconst hm rfl (v := nI 4) (by decide) ?_
  refine x_icmp_ge hm rfl (t := 111) rfl (fun h => absurd h (by decide)) (fun _ => ?_)
  refine x_aload_n hm rfl rfl ?_
  refine x_getf hm rfl (get_hd rfl) ?_
  refine x_iload_n hm rfl rfl ?_
  refine x_new hm rfl (d := 62) (hd_la R4_l (k := 8) rfl) (D2 := (.inr (3, [.ref 1, .ref 18, .ref 35, .ref 52, .ref 54, .ref 55, .int 0, .ref 56, .ref 57]) :: (R4 ++ [.inl (2, 4, .inr (.inr (.inr (.inr (va_up (va_up (fun _ => none) 0 (some 58)) 1 (some 60)))))), .inl (0, 7, .inl (fun _ => 0)), .inl (0, 8, .inl (fun _ => 0)), .inl (0, 8, .inl (fun _ => 0)), .inr (0, [.ref 59, .int 0, .int 0]), .inl (0, 40, .inl (fun _ => 0)), .inr (0, [.ref 61, .int 0, .int 0]), .inl (0, 40, .inl (fun _ => 0))])) ++ [.inr (0, mDf 0)]) rfl ?_
  refine x_dup hm rfl rfl ?_
  refine x_callI hm rfl (mCallN (by decide) rfl rfl rfl rfl rfl (nw_at (hd_la R4_l (k := 8) rfl))) (c4 (D0 := .inr (3, [.ref 1, .ref 18, .ref 35, .ref 52, .ref 54, .ref 55, .int 0, .ref 56, .ref 57]) :: (R4 ++ [.inl (2, 4, .inr (.inr (.inr (.inr (va_up (va_up (fun _ => none) 0 (some 58)) 1 (some 60)))))), .inl (0, 7, .inl (fun _ => 0)), .inl (0, 8, .inl (fun _ => 0)), .inl (0, 8, .inl (fun _ => 0)), .inr (0, [.ref 59, .int 0, .int 0]), .inl (0, 40, .inl (fun _ => 0)), .inr (0, [.ref 61, .int 0, .int 0]), .inl (0, 40, .inl (fun _ => 0))])) (i := 62) (hd_la R4_l (k := 8) rfl)) ?_
  rw [show ∀ z : mHp, (.inr (3, [.ref 1, .ref 18, .ref 35, .ref 52, .ref 54, .ref 55, .int 0, .ref 56, .ref 57]) :: (R4 ++ [.inl (2, 4, .inr (.inr (.inr (.inr (va_up (va_up (fun _ => none) 0 (some 58)) 1 (some 60)))))), .inl (0, 7, .inl (fun _ => 0)), .inl (0, 8, .inl (fun _ => 0)), .inl (0, 8, .inl (fun _ => 0)), .inr (0, [.ref 59, .int 0, .int 0]), .inl (0, 40, .inl (fun _ => 0)), .inr (0, [.ref 61, .int 0, .int 0]), .inl (0, 40, .inl (fun _ => 0))])) ++ z = .inr (3, [.ref 1, .ref 18, .ref 35, .ref 52, .ref 54, .ref 55, .int 0, .ref 56, .ref 57]) :: (R4 ++ ([.inl (2, 4, .inr (.inr (.inr (.inr (va_up (va_up (fun _ => none) 0 (some 58)) 1 (some 60)))))), .inl (0, 7, .inl (fun _ => 0)), .inl (0, 8, .inl (fun _ => 0)), .inl (0, 8, .inl (fun _ => 0)), .inr (0, [.ref 59, .int 0, .int 0]), .inl (0, 40, .inl (fun _ => 0)), .inr (0, [.ref 61, .int 0, .int 0]), .inl (0, 40, .inl (fun _ => 0))] ++ z)) from fun z => hd_sn rfl]
  refine x_aast hm rfl (D1 := .inr (3, [.ref 1, .ref 18, .ref 35, .ref 52, .ref 54, .ref 55, .int 0, .ref 56, .ref 57]) :: (R4 ++ [.inl (2, 4, .inr (.inr (.inr (.inr (va_up (va_up (va_up (fun _ => none) 0 (some 58)) 1 (some 60)) 2 (some 62)))))), .inl (0, 7, .inl (fun _ => 0)), .inl (0, 8, .inl (fun _ => 0)), .inl (0, 8, .inl (fun _ => 0)), .inr (0, [.ref 59, .int 0, .int 0]), .inl (0, 40, .inl (fun _ => 0)), .inr (0, [.ref 61, .int 0, .int 0]), .inl (0, 40, .inl (fun _ => 0)), .inr (0, [.ref 63, .int 0, .int 0]), .inl (0, 40, .inl (fun _ => 0))])) (e_stq (q := 8) R4_l rfl rfl rfl rfl (by decide) (by decide)) ?_
  refine x_iinc hm rfl rfl (v := nI 1) (by decide) rfl ?_
  rw [jI_add]
  refine x_goto hm rfl (t := 87) rfl ?_
  refine x_iload_n hm rfl rfl ?_
  refine x_iconst hm rfl (v := nI 4) (by decide) ?_
  refine x_icmp_ge hm rfl (t := 111) rfl (fun h => absurd h (by decide)) (fun _ => ?_)
  refine x_aload_n hm rfl rfl ?_
  refine x_getf hm rfl (get_hd rfl) ?_
  refine x_iload_n hm rfl rfl ?_
  refine x_new hm rfl (d := 64) (hd_la R4_l (k := 10) rfl) (D2 := (.inr (3, [.ref 1, .ref 18, .ref 35, .ref 52, .ref 54, .ref 55, .int 0, .ref 56, .ref 57]) :: (R4 ++ [.inl (2, 4, .inr (.inr (.inr (.inr (va_up (va_up (va_up (fun _ => none) 0 (some 58)) 1 (some 60)) 2 (some 62)))))), .inl (0, 7, .inl (fun _ => 0)), .inl (0, 8, .inl (fun _ => 0)), .inl (0, 8, .inl (fun _ => 0)), .inr (0, [.ref 59, .int 0, .int 0]), .inl (0, 40, .inl (fun _ => 0)), .inr (0, [.ref 61, .int 0, .int 0]), .inl (0, 40, .inl (fun _ => 0)), .inr (0, [.ref 63, .int 0, .int 0]), .inl (0, 40, .inl (fun _ => 0))])) ++ [.inr (0, mDf 0)]) rfl ?_
  refine x_dup hm rfl rfl ?_
  refine x_callI hm rfl (mCallN (by decide) rfl rfl rfl rfl rfl (nw_at (hd_la R4_l (k := 10) rfl))) (c4 (D0 := .inr (3, [.ref 1, .ref 18, .ref 35, .ref 52, .ref 54, .ref 55, .int 0, .ref 56, .ref 57]) :: (R4 ++ [.inl (2, 4, .inr (.inr (.inr (.inr (va_up (va_up (va_up (fun _ => none) 0 (some 58)) 1 (some 60)) 2 (some 62)))))), .inl (0, 7, .inl (fun _ => 0)), .inl (0, 8, .inl (fun _ => 0)), .inl (0, 8, .inl (fun _ => 0)), .inr (0, [.ref 59, .int 0, .int 0]), .inl (0, 40, .inl (fun _ => 0)), .inr (0, [.ref 61, .int 0, .int 0]), .inl (0, 40, .inl (fun _ => 0)), .inr (0, [.ref 63, .int 0, .int 0]), .inl (0, 40, .inl (fun _ => 0))])) (i := 64) (hd_la R4_l (k := 10) rfl)) ?_
  rw [show ∀ z : mHp, (.inr (3, [.ref 1, .ref 18, .ref 35, .ref 52, .ref 54, .ref 55, .int 0, .ref 56, .ref 57]) :: (R4 ++ [.inl (2, 4, .inr (.inr (.inr (.inr (va_up (va_up (va_up (fun _ => none) 0 (some 58)) 1 (some 60)) 2 (some 62)))))), .inl (0, 7, .inl (fun _ => 0)), .inl (0, 8, .inl (fun _ => 0)), .inl (0, 8, .inl (fun _ => 0)), .inr (0, [.ref 59, .int 0, .int 0]), .inl (0, 40, .inl (fun _ => 0)), .inr (0, [.ref 61, .int 0, .int 0]), .inl (0, 40, .inl (fun _ => 0)), .inr (0, [.ref 63, .int 0, .int 0]), .inl (0, 40, .inl (fun _ => 0))])) ++ z = .inr (3, [.ref 1, .ref 18, .ref 35, .ref 52, .ref 54, .ref 55, .int 0, .ref 56, .ref 57]) :: (R4 ++ ([.inl (2, 4, .inr (.inr (.inr (.inr (va_up (va_up (va_up (fun _ => none) 0 (some 58)) 1 (some 60)) 2 (some 62)))))), .inl (0, 7, .inl (fun _ => 0)), .inl (0, 8, .inl (fun _ => 0)), .inl (0, 8, .inl (fun _ => 0)), .inr (0, [.ref 59, .int 0, .int 0]), .inl (0, 40, .inl (fun _ => 0)), .inr (0, [.ref 61, .int 0, .int 0]), .inl (0, 40, .inl (fun _ => 0)), .inr (0, [.ref 63, .int 0, .int 0]), .inl (0, 40, .inl (fun _ => 0))] ++ z)) from fun z => hd_sn rfl]
  refine x_aast hm rfl (D1 := .inr (3, [.ref 1, .ref 18, .ref 35, .ref 52, .ref 54, .ref 55, .int 0, .ref 56, .ref 57]) :: (R4 ++ [.inl (2, 4, .inr (.inr (.inr (.inr (va_up (va_up (va_up (va_up (fun _ => none) 0 (some 58)) 1 (some 60)) 2 (some 62)) 3 (some 64)))))), .inl (0, 7, .inl (fun _ => 0)), .inl (0, 8, .inl (fun _ => 0)), .inl (0, 8, .inl (fun _ => 0)), .inr (0, [.ref 59, .int 0, .int 0]), .inl (0, 40, .inl (fun _ => 0)), .inr (0, [.ref 61, .int 0, .int 0]), .inl (0, 40, .inl (fun _ => 0)), .inr (0, [.ref 63, .int 0, .int 0]), .inl (0, 40, .inl (fun _ => 0)), .inr (0, [.ref 65, .int 0, .int 0]), .inl (0, 40, .inl (fun _ => 0))])) (e_stq (q := 10) R4_l rfl rfl rfl rfl (by decide) (by decide)) ?_
  refine x_iinc hm rfl rfl (v := nI 1) (by decide) rfl ?_
  rw [jI_add]
  refine x_goto hm rfl (t := 87) rfl ?_
  refine x_iload_n hm rfl rfl ?_
  refine x_iconst hm rfl (v := nI 4) (by decide) ?_
  refine x_icmp_ge hm rfl (t := 111) rfl (fun _ => ?_) (fun h => absurd (by decide) h)
  refine x_ret hm rfl rfl ?_
  exact ⟨rfl, rfl⟩
def M0 (a b : Nat) : Int32 := if a = 1 ∨ a = 18 ∨ a = 35 then (if b = 6 then 1 else if b = 7 then -1 else 0) else if a = 17 ∨ a = 34 ∨ a = 51 then (if b < 10 then -1 else 0) else if a = 52 ∨ a = 66 then (if b = 6 then -1 else 0) else if a = 67 then (if b = 3 then 1 else if 4 ≤ b ∧ b < 14 then -1 else 0) else 0

noncomputable def DL : mHp := [.inr (3, [.ref 1, .ref 18, .ref 35, .ref 52, .ref 54, .ref 55, .int 0, .ref 56, .ref 57]),
  .inr (2, [.ref 2, .ref 9, .ref 17, .int 0, .int 0, .int 0, .int 1, .int (-1)]),
  .inl (3, 6, .inr (.inr (.inr (.inr (mrL [3, 4, 5, 6, 7, 8]))))),
  .inl (0, 8, .inl (fun _ => 0)),
  .inl (0, 8, .inl (fun _ => 0)),
  .inl (0, 8, .inl (fun _ => 0)),
  .inl (0, 8, .inl (fun _ => 0)),
  .inl (0, 8, .inl (fun _ => 0)),
  .inl (0, 8, .inl (fun _ => 0)),
  .inl (3, 7, .inr (.inr (.inr (.inr (mrL [10, 11, 12, 13, 14, 15, 16]))))),
  .inl (0, 8, .inl (fun _ => 0)),
  .inl (0, 8, .inl (fun _ => 0)),
  .inl (0, 8, .inl (fun _ => 0)),
  .inl (0, 8, .inl (fun _ => 0)),
  .inl (0, 8, .inl (fun _ => 0)),
  .inl (0, 8, .inl (fun _ => 0)),
  .inl (0, 8, .inl (fun _ => 0)),
  .inl (0, 10, .inl (spF 10)),
  .inr (2, [.ref 19, .ref 26, .ref 34, .int 0, .int 0, .int 0, .int 1, .int (-1)]),
  .inl (3, 6, .inr (.inr (.inr (.inr (mrL [20, 21, 22, 23, 24, 25]))))),
  .inl (0, 8, .inl (fun _ => 0)),
  .inl (0, 8, .inl (fun _ => 0)),
  .inl (0, 8, .inl (fun _ => 0)),
  .inl (0, 8, .inl (fun _ => 0)),
  .inl (0, 8, .inl (fun _ => 0)),
  .inl (0, 8, .inl (fun _ => 0)),
  .inl (3, 7, .inr (.inr (.inr (.inr (mrL [27, 28, 29, 30, 31, 32, 33]))))),
  .inl (0, 8, .inl (fun _ => 0)),
  .inl (0, 8, .inl (fun _ => 0)),
  .inl (0, 8, .inl (fun _ => 0)),
  .inl (0, 8, .inl (fun _ => 0)),
  .inl (0, 8, .inl (fun _ => 0)),
  .inl (0, 8, .inl (fun _ => 0)),
  .inl (0, 8, .inl (fun _ => 0)),
  .inl (0, 10, .inl (spF 10)),
  .inr (2, [.ref 36, .ref 43, .ref 51, .int 0, .int 0, .int 0, .int 1, .int (-1)]),
  .inl (3, 6, .inr (.inr (.inr (.inr (mrL [37, 38, 39, 40, 41, 42]))))),
  .inl (0, 8, .inl (fun _ => 0)),
  .inl (0, 8, .inl (fun _ => 0)),
  .inl (0, 8, .inl (fun _ => 0)),
  .inl (0, 8, .inl (fun _ => 0)),
  .inl (0, 8, .inl (fun _ => 0)),
  .inl (0, 8, .inl (fun _ => 0)),
  .inl (3, 7, .inr (.inr (.inr (.inr (mrL [44, 45, 46, 47, 48, 49, 50]))))),
  .inl (0, 8, .inl (fun _ => 0)),
  .inl (0, 8, .inl (fun _ => 0)),
  .inl (0, 8, .inl (fun _ => 0)),
  .inl (0, 8, .inl (fun _ => 0)),
  .inl (0, 8, .inl (fun _ => 0)),
  .inl (0, 8, .inl (fun _ => 0)),
  .inl (0, 8, .inl (fun _ => 0)),
  .inl (0, 10, .inl (spF 10)),
  .inr (1, [.ref 53, .int 0, .int 0, .int 0, .int 0, .int 0, .int (-1)]),
  .inl (1, 120, .inl (fun _ => 0)),
  .inl (2, 4, .inr (.inr (.inr (.inr (mrL [58, 60, 62, 64]))))),
  .inl (0, 7, .inl (fun _ => 0)),
  .inl (0, 8, .inl (fun _ => 0)),
  .inl (0, 8, .inl (fun _ => 0)),
  .inr (0, [.ref 59, .int 0, .int 0]),
  .inl (0, 40, .inl (fun _ => 0)),
  .inr (0, [.ref 61, .int 0, .int 0]),
  .inl (0, 40, .inl (fun _ => 0)),
  .inr (0, [.ref 63, .int 0, .int 0]),
  .inl (0, 40, .inl (fun _ => 0)),
  .inr (0, [.ref 65, .int 0, .int 0]),
  .inl (0, 40, .inl (fun _ => 0)),
  .inr (4, [.ref 67, .ref 68, .ref 69, .int 0, .ref 70, .ref 71, .int (-1), .ref 72, .ref 73, .int 0, .int 0, .int 0, .int 0, .int 0, .int 0, .ref 74, .ref 75, .int 0, .int 0, .int 0, .ref 76, .ref 77, .ref 78, .ref 79]),
  .inl (0, 118, .inl (nwF 10)),
  .inl (0, 118, .inl (fun _ => 0)),
  .inl (0, 118, .inl (fun _ => 0)),
  .inl (0, 8, .inl (fun _ => 0)),
  .inl (0, 8, .inl (fun _ => 0)),
  .inl (0, 8, .inl (fun _ => 0)),
  .inl (0, 120, .inl (fun _ => 0)),
  .inl (4, 7, .inr (.inr (.inr (.inr (mrL [1000007, 1000001, 1000002, 1000003, 1000004, 1000005, 1000006]))))),
  .inl (0, 840, .inl (fun _ => 0)),
  .inl (0, 4, .inl (fun _ => 0)),
  .inl (0, 4, .inl (fun _ => 0)),
  .inl (0, 160, .inl (fun _ => 0)),
  .inl (0, 40, .inl (fun _ => 0))]
theorem con_ext {M : mM} {l : mHp} (hl : l.length = 80) (h : ∀ k q, mSp[k]? = some q → l[k]? = some (mCellv M k q)) : l = con M := by
  refine List.ext_getElem? fun k => ?_
  have hs : mSp.length = 80 := rfl
  by_cases hk : k < 80
  · have e : mSp[k]? = some mSp[k] := List.getElem?_eq_getElem (by omega)
    rw [h k _ e, con_get e]
  · rw [con_none (by omega), List.getElem?_eq_none (by omega)]
theorem E66_l : E66.length = 66 := hd_la R4_l rfl
theorem D_eq : E66 ++ modL 66 (nwF 10) = DL := by
  unfold E66
  rw [show va_up (va_up (va_up (va_up (fun _ => none : Nat → Option Nat) 0 (some 58)) 1 (some 60)) 2 (some 62)) 3 (some 64) = mrL [58, 60, 62, 64] from sh4]
  rfl
theorem DL_con : DL = con M0 := by
  refine con_ext rfl fun k q hk => ?_
  match k, hk with
  | 0, rfl => rfl
  | 1, rfl => rfl
  | 2, rfl => rfl
  | 3, rfl => rfl
  | 4, rfl => rfl
  | 5, rfl => rfl
  | 6, rfl => rfl
  | 7, rfl => rfl
  | 8, rfl => rfl
  | 9, rfl => rfl
  | 10, rfl => rfl
  | 11, rfl => rfl
  | 12, rfl => rfl
  | 13, rfl => rfl
  | 14, rfl => rfl
  | 15, rfl => rfl
  | 16, rfl => rfl
  | 17, rfl => rfl
  | 18, rfl => rfl
  | 19, rfl => rfl
  | 20, rfl => rfl
  | 21, rfl => rfl
  | 22, rfl => rfl
  | 23, rfl => rfl
  | 24, rfl => rfl
  | 25, rfl => rfl
  | 26, rfl => rfl
  | 27, rfl => rfl
  | 28, rfl => rfl
  | 29, rfl => rfl
  | 30, rfl => rfl
  | 31, rfl => rfl
  | 32, rfl => rfl
  | 33, rfl => rfl
  | 34, rfl => rfl
  | 35, rfl => rfl
  | 36, rfl => rfl
  | 37, rfl => rfl
  | 38, rfl => rfl
  | 39, rfl => rfl
  | 40, rfl => rfl
  | 41, rfl => rfl
  | 42, rfl => rfl
  | 43, rfl => rfl
  | 44, rfl => rfl
  | 45, rfl => rfl
  | 46, rfl => rfl
  | 47, rfl => rfl
  | 48, rfl => rfl
  | 49, rfl => rfl
  | 50, rfl => rfl
  | 51, rfl => rfl
  | 52, rfl => rfl
  | 53, rfl => rfl
  | 54, rfl => rfl
  | 55, rfl => rfl
  | 56, rfl => rfl
  | 57, rfl => rfl
  | 58, rfl => rfl
  | 59, rfl => rfl
  | 60, rfl => rfl
  | 61, rfl => rfl
  | 62, rfl => rfl
  | 63, rfl => rfl
  | 64, rfl => rfl
  | 65, rfl => rfl
  | 66, rfl => rfl
  | 67, rfl => rfl
  | 68, rfl => rfl
  | 69, rfl => rfl
  | 70, rfl => rfl
  | 71, rfl => rfl
  | 72, rfl => rfl
  | 73, rfl => rfl
  | 74, rfl => rfl
  | 75, rfl => rfl
  | 76, rfl => rfl
  | 77, rfl => rfl
  | 78, rfl => rfl
  | 79, rfl => rfl
  | n + 80, hk => exact absurd hk (by simp [mSp])
theorem D_con : E66 ++ modL 66 (nwF 10) = con M0 := D_eq.trans DL_con
theorem M0_wf : Wf M0 := by
  intro a b
  have h0 : ∀ k, okx k 0 := fun k => by
    unfold okx
    split <;> first | trivial | decide
  unfold M0
  by_cases h1 : a = 1 ∨ a = 18 ∨ a = 35
  · rw [if_pos h1, kdO h1]
    by_cases h6 : b = 6
    · subst h6; trivial
    · rw [if_neg h6]
      by_cases h7 : b = 7
      · subst h7; trivial
      · rw [if_neg h7]; exact h0 _
  · rw [if_neg h1]
    by_cases h2 : a = 17 ∨ a = 34 ∨ a = 51
    · rw [if_pos h2]
      split
      · have e : kd a b = 2 := by
          rcases h2 with rfl | rfl | rfl <;> rfl
        rw [e]
        exact okM1
      · exact h0 _
    · rw [if_neg h2]
      by_cases h3 : a = 52 ∨ a = 66
      · rw [if_pos h3]
        split
        · rename_i h6
          subst h6
          have e : kd a 6 = 0 := by
            rcases h3 with rfl | rfl <;> rfl
          rw [e]
          trivial
        · exact h0 _
      · rw [if_neg h3]
        by_cases h4 : a = 67
        · subst h4
          rw [if_pos rfl]
          by_cases h6 : b = 3
          · subst h6; trivial
          · rw [if_neg h6]
            split
            · rename_i h7
              have e : kd 67 b = 2 := by
                unfold kd
                rw [if_pos (by decide), if_neg (by omega), if_pos (by omega)]
              rw [e]
              exact okM1
            · exact h0 _
        · rw [if_neg h4]
          exact h0 _
theorem M0_inv : Inv M0 := by
  refine ⟨M0_wf, ?_, ?_⟩ <;>
  · intro n hn e
    have e0 : n = 0 := by
      have h2 := congrArg Int32.toInt e
      rw [jI_int (by omega)] at h2
      have h3 : (0 : Int) = (n : Int) := h2
      omega
    subst e0
    exact ⟨fun _ => 0, fun t u ht => absurd ht (Nat.not_lt_zero _)⟩
theorem Ck.inv {M M1 : mM} (h : Ck M M1) (hI : Inv M) : Inv M1 := ⟨h.1, by rw [h.2 67 (by decide)]; exact hI.2.1, by rw [h.2 68 (by decide)]; exact hI.2.2⟩
end CV
end
section
/-! ===== sheet(): its answers ===== -/
section SX
variable {X : mSc} {Q : Option Value → mHp → Prop} {M : mM} {s : Nat}
def okb (b : Int32) : Bool := decide (b = 0) || decide (b = nI 8) || decide (b = nI 16) || decide (b = nI 32)
def shS (s b n : Int32) : Int32 := if bI (nI 0 ≤ s ∧ s ≤ nI 3) = 0 then -1000001 else if okb b = false then -1000001 else if 0 ≤ n then (if n ≤ nI 40 then (if b = 0 then nI 0 else n) else -1000001) else -1000007
theorem okb_f {b : Int32} (h1 : ¬ b = 0) (h2 : ¬ b = nI 8) (h3 : ¬ b = nI 16) (h4 : ¬ b = nI 32) : okb b = false := by simp [okb, h1, h2, h3, h4]
theorem okb_t {b : Int32} (h : b = 0 ∨ b = nI 8 ∨ b = nI 16 ∨ b = nI 32) : ¬ okb b = false := by
  rcases h with rfl | rfl | rfl | rfl <;> decide
theorem shA {s b n : Int32} (h : bI (nI 0 ≤ s ∧ s ≤ nI 3) = 0) : (-1000001 : Int32) = shS s b n := by rw [shS, if_pos h]
theorem shB {s b n : Int32} (h : ¬ bI (nI 0 ≤ s ∧ s ≤ nI 3) = 0) (hb : okb b = false) : (-1000001 : Int32) = shS s b n := by rw [shS, if_neg h, if_pos hb]
theorem shC {s b n : Int32} (h : ¬ bI (nI 0 ≤ s ∧ s ≤ nI 3) = 0) (hb : ¬ okb b = false) (hn : ¬ 0 ≤ n) : (-1000007 : Int32) = shS s b n := by rw [shS, if_neg h, if_neg hb, if_neg hn]
theorem shD {s b n : Int32} (h : ¬ bI (nI 0 ≤ s ∧ s ≤ nI 3) = 0) (hb : ¬ okb b = false) (hn : 0 ≤ n) (hm : ¬ n ≤ nI 40) : (-1000001 : Int32) = shS s b n := by rw [shS, if_neg h, if_neg hb, if_pos hn, if_neg hm]
theorem shE {s b n : Int32} (h : ¬ bI (nI 0 ≤ s ∧ s ≤ nI 3) = 0) (hb : ¬ okb b = false) (hn : 0 ≤ n) (hm : n ≤ nI 40) : (if b = 0 then nI 0 else n) = shS s b n := by rw [shS, if_neg h, if_neg hb, if_pos hn, if_pos hm]
theorem v117 {a1 a2 w : Int32} (hs : s ≤ 3) : ∀ (n k : Nat) (M1 : mM), 40 - k < n → k ≤ 40 → Tw 58 M M1 → M1 (2 * s + 58) 2 = w → mEv X (QV (fun M' => Tw 58 M M' ∧ M' (2 * s + 58) 2 = w)) 117 20 [some (.ref (2 * s + 58)), some (.int a1), some (.int a2), some (.int (nI k))] [] (con M1) := by
  have hm : mMet 117 = some _ := rfl
  intro n
  induction n with
  | zero =>
    intro k M1 hkn hkb hT hw
    omega
  | succ n ih =>
    intro k M1 hkn hkb hT hw
    refine x_iload_n hm rfl rfl ?_
    refine x_bipush hm rfl (v := nI 40) (by decide) ?_
    refine x_icmp_ge hm rfl (t := 39) rfl (fun h1 => ?_) (fun h1 => ?_)
    · refine x_ret hm rfl rfl ?_
      exact ⟨_, rfl, rfl, hT, hw⟩
    · have hk : k < 40 := Nat.lt_of_not_le fun h => h1 (nI_le h (by omega))
      refine x_aload_n hm rfl rfl ?_
      refine x_getf hm rfl (by first | exact gR (sO hs) rfl) ?_
      refine x_iload_n hm rfl rfl ?_
      refine x_iconst hm rfl (v := nI 0) (by decide) ?_
      refine x_iast hm rfl (by first | exact sI (sRow hs) (by omega) (by decide) | exact sI rfl (by omega) (by decide)) ?_
      refine x_iinc hm rfl rfl (v := nI 1) (by decide) rfl ?_
      rw [jI_add]
      refine x_goto hm rfl (t := 20) rfl ?_
      exact ih _ _ (by omega) (by omega) (hT.trans (Tw.row39 hs)) ((mpn (by omega)).trans hw)
theorem u117 {z : Nat} {a1 : Int32} (hs : s ≤ 3) (hz : z ≤ 40) : ∃ M', mT X 117 [.ref (2 * s + 58), .int a1, .int (nI z)] (con M) none (con M') ∧ Tw 58 M M' ∧ M' (2 * s + 58) 2 = if a1 = 0 then nI 0 else nI z := by
  refine tv_of (row := _) rfl (Nat.le_of_ble_eq_true rfl) ?_
  have hm : mMet 117 = some _ := rfl
  refine x_aload_n hm rfl rfl ?_
  refine x_iload_n hm rfl rfl ?_
  refine x_putf hm rfl (pI (sO hs) rfl (by decide) (by first | exact mFit_int | rfl | decide) rfl) ?_
  refine x_aload_n hm rfl rfl ?_
  refine x_iload_n hm rfl rfl ?_
  refine x_if_ne hm rfl (t := 14) rfl (fun h1 => ?_) (fun h1 => ?_)
  · have hv : nI z = if a1 = 0 then nI 0 else nI z := (if_neg h1).symm
    refine x_iload_n hm rfl rfl ?_
    refine x_putf hm rfl (pI (sO hs) rfl (by decide) (by first | exact mFit_int | rfl | decide) rfl) ?_
    refine x_iconst hm rfl (v := nI 0) (by decide) ?_
    refine x_istore_n hm rfl rfl ?_
    exact v117 hs _ 0 _ (Nat.lt_succ_self _) (Nat.zero_le _) ((Tw.sh (c := 1) hs trivial).trans (Tw.sh (c := 2) hs (okI5 (by omega)))) (mp0.trans hv)
  · have hv : nI 0 = if a1 = 0 then nI 0 else nI z := (if_pos h1).symm
    refine x_iconst hm rfl (v := nI 0) (by decide) ?_
    refine x_goto hm rfl (t := 15) rfl ?_
    refine x_putf hm rfl (pI (sO hs) rfl (by decide) (by first | exact mFit_int | rfl | decide) rfl) ?_
    refine x_iconst hm rfl (v := nI 0) (by decide) ?_
    refine x_istore_n hm rfl rfl ?_
    exact v117 hs _ 0 _ (Nat.lt_succ_self _) (Nat.zero_le _) ((Tw.sh (c := 1) hs trivial).trans (Tw.sh (c := 2) hs (okI5 (by omega)))) (mp0.trans hv)
/-- the class -/
theorem u116e {z : Nat} {a2 : Int32} (hW : Wf M) (hs : s ≤ 3) (hz : z ≤ 40) : mEv X (QI (fun v M' => v = (if a2 = 0 then nI 0 else nI z) ∧ Ck M M')) 116 60 [some (.ref 0), some (.int (nI s)), some (.int a2), some (.int (nI z))] [] (con M) := by
  have hm : mMet 116 = some _ := rfl
  refine x_aload_n hm rfl rfl ?_
  refine x_getf hm rfl (gR rfl rfl) ?_
  refine x_iload_n hm rfl rfl ?_
  refine x_aald hm rfl (by first | exact lQ 2 (Or.inl rfl) rfl (shk hs) (by omega) (by decide) | exact lQ 3 (Or.inr (Or.inl rfl)) rfl rfl (by omega) (by decide)) ?_
  refine x_iload_n hm rfl rfl ?_
  refine x_iload_n hm rfl rfl ?_
  refine x_cVv hm rfl (by first | exact mCallSh hs (by decide) rfl rfl rfl rfl rfl) (u117 hs hz) (fun M1 r1 => ?_)
  refine x_aload_n hm rfl rfl ?_
  refine x_getf hm rfl (gR rfl rfl) ?_
  refine x_iload_n hm rfl rfl ?_
  refine x_aald hm rfl (by first | exact lQ 2 (Or.inl rfl) rfl (shk hs) (by omega) (by decide) | exact lQ 3 (Or.inr (Or.inl rfl)) rfl rfl (by omega) (by decide)) ?_
  refine x_getf hm rfl (by first | exact gI (sO hs) rfl) ?_
  refine x_iret hm rfl rfl (by first | rfl | exact bI_nar | decide) ?_
  first
    | exact ⟨_, _, rfl, rfl, r1.2, r1.1.ck hW⟩
    | exact ⟨_, _, rfl, rfl, r2.2, r2.1.ck hW⟩
    | exact ⟨_, _, rfl, rfl, r3.2, r3.1.ck hW⟩
theorem u116 {a1 a2 a3 : Int32} (hW : Wf M) : ∃ v M', mT X 116 [.ref 0, .int a1, .int a2, .int a3] (con M) (some (.int v)) (con M') ∧ v = shS a1 a2 a3 ∧ Ck M M' := by
  refine ti_of (row := _) rfl (Nat.le_of_ble_eq_true rfl) ?_
  have hm : mMet 116 = some _ := rfl
  refine x_iload_n hm rfl rfl ?_
  refine x_callS hm rfl rfl (t78) ?_
  refine x_if_eq hm rfl (t := 29) rfl (fun h1 => ?_) (fun h1 => ?_)
  · refine x_aload_n hm rfl rfl ?_
    refine x_ldcI hm rfl (v := (-1000001 : Int32)) (by decide +kernel) ?_
    refine x_cVi hm rfl rfl (t7 (by decide +kernel)) (fun v2 M2 r2 => ?_)
    refine x_iret hm rfl rfl (by first | rfl | exact bI_nar | decide) ?_
    first
      | exact ⟨_, _, rfl, rfl, r2.1.trans (shA h1), r2.2.ck hW⟩
      | exact ⟨_, _, rfl, rfl, r2.1.trans (shB h1 (okb_f (by assumption) (by assumption) (by assumption) (by assumption))), r2.2.ck hW⟩
      | exact ⟨_, _, rfl, rfl, r1.1.trans (shA h1), r1.2.ck hW⟩
      | exact ⟨_, _, rfl, rfl, r1.1.trans (shB h1 (okb_f (by assumption) (by assumption) (by assumption) (by assumption))), r1.2.ck hW⟩
      | exact ⟨_, _, rfl, rfl, r3.1.trans (shA h1), r3.2.ck hW⟩
      | exact ⟨_, _, rfl, rfl, r3.1.trans (shB h1 (okb_f (by assumption) (by assumption) (by assumption) (by assumption))), r3.2.ck hW⟩
      | exact ⟨_, _, rfl, rfl, r4.1.trans (shA h1), r4.2.ck hW⟩
      | exact ⟨_, _, rfl, rfl, r4.1.trans (shB h1 (okb_f (by assumption) (by assumption) (by assumption) (by assumption))), r4.2.ck hW⟩
      | exact ⟨_, _, rfl, rfl, r5.1.trans (shA h1), r5.2.ck hW⟩
      | exact ⟨_, _, rfl, rfl, r5.1.trans (shB h1 (okb_f (by assumption) (by assumption) (by assumption) (by assumption))), r5.2.ck hW⟩
      | exact ⟨_, _, rfl, rfl, r6.1.trans (shA h1), r6.2.ck hW⟩
      | exact ⟨_, _, rfl, rfl, r6.1.trans (shB h1 (okb_f (by assumption) (by assumption) (by assumption) (by assumption))), r6.2.ck hW⟩
      | exact ⟨_, _, rfl, rfl, r7.1.trans (shA h1), r7.2.ck hW⟩
      | exact ⟨_, _, rfl, rfl, r7.1.trans (shB h1 (okb_f (by assumption) (by assumption) (by assumption) (by assumption))), r7.2.ck hW⟩
      | exact ⟨_, _, rfl, rfl, r8.1.trans (shA h1), r8.2.ck hW⟩
      | exact ⟨_, _, rfl, rfl, r8.1.trans (shB h1 (okb_f (by assumption) (by assumption) (by assumption) (by assumption))), r8.2.ck hW⟩
      | exact ⟨_, _, rfl, rfl, r9.1.trans (shA h1), r9.2.ck hW⟩
      | exact ⟨_, _, rfl, rfl, r9.1.trans (shB h1 (okb_f (by assumption) (by assumption) (by assumption) (by assumption))), r9.2.ck hW⟩
      | exact ⟨_, _, rfl, rfl, r10.1.trans (shA h1), r10.2.ck hW⟩
      | exact ⟨_, _, rfl, rfl, r10.1.trans (shB h1 (okb_f (by assumption) (by assumption) (by assumption) (by assumption))), r10.2.ck hW⟩
      | exact ⟨_, _, rfl, rfl, r11.1.trans (shA h1), r11.2.ck hW⟩
      | exact ⟨_, _, rfl, rfl, r11.1.trans (shB h1 (okb_f (by assumption) (by assumption) (by assumption) (by assumption))), r11.2.ck hW⟩
      | exact ⟨_, _, rfl, rfl, r12.1.trans (shA h1), r12.2.ck hW⟩
      | exact ⟨_, _, rfl, rfl, r12.1.trans (shB h1 (okb_f (by assumption) (by assumption) (by assumption) (by assumption))), r12.2.ck hW⟩
      | exact ⟨_, _, rfl, rfl, r13.1.trans (shA h1), r13.2.ck hW⟩
      | exact ⟨_, _, rfl, rfl, r13.1.trans (shB h1 (okb_f (by assumption) (by assumption) (by assumption) (by assumption))), r13.2.ck hW⟩
      | exact ⟨_, _, rfl, rfl, r14.1.trans (shA h1), r14.2.ck hW⟩
      | exact ⟨_, _, rfl, rfl, r14.1.trans (shB h1 (okb_f (by assumption) (by assumption) (by assumption) (by assumption))), r14.2.ck hW⟩
      | exact ⟨_, _, rfl, rfl, r15.1.trans (shA h1), r15.2.ck hW⟩
      | exact ⟨_, _, rfl, rfl, r15.1.trans (shB h1 (okb_f (by assumption) (by assumption) (by assumption) (by assumption))), r15.2.ck hW⟩
      | exact ⟨_, _, rfl, rfl, r16.1.trans (shA h1), r16.2.ck hW⟩
      | exact ⟨_, _, rfl, rfl, r16.1.trans (shB h1 (okb_f (by assumption) (by assumption) (by assumption) (by assumption))), r16.2.ck hW⟩
      | exact ⟨_, _, rfl, rfl, r17.1.trans (shA h1), r17.2.ck hW⟩
      | exact ⟨_, _, rfl, rfl, r17.1.trans (shB h1 (okb_f (by assumption) (by assumption) (by assumption) (by assumption))), r17.2.ck hW⟩
      | exact ⟨_, _, rfl, rfl, r18.1.trans (shA h1), r18.2.ck hW⟩
      | exact ⟨_, _, rfl, rfl, r18.1.trans (shB h1 (okb_f (by assumption) (by assumption) (by assumption) (by assumption))), r18.2.ck hW⟩
      | exact ⟨_, _, rfl, rfl, r19.1.trans (shA h1), r19.2.ck hW⟩
      | exact ⟨_, _, rfl, rfl, r19.1.trans (shB h1 (okb_f (by assumption) (by assumption) (by assumption) (by assumption))), r19.2.ck hW⟩
      | exact ⟨_, _, rfl, rfl, r20.1.trans (shA h1), r20.2.ck hW⟩
      | exact ⟨_, _, rfl, rfl, r20.1.trans (shB h1 (okb_f (by assumption) (by assumption) (by assumption) (by assumption))), r20.2.ck hW⟩
      | exact ⟨_, _, rfl, rfl, r21.1.trans (shA h1), r21.2.ck hW⟩
      | exact ⟨_, _, rfl, rfl, r21.1.trans (shB h1 (okb_f (by assumption) (by assumption) (by assumption) (by assumption))), r21.2.ck hW⟩
      | exact ⟨_, _, rfl, rfl, r22.1.trans (shA h1), r22.2.ck hW⟩
      | exact ⟨_, _, rfl, rfl, r22.1.trans (shB h1 (okb_f (by assumption) (by assumption) (by assumption) (by assumption))), r22.2.ck hW⟩
      | exact ⟨_, _, rfl, rfl, r23.1.trans (shA h1), r23.2.ck hW⟩
      | exact ⟨_, _, rfl, rfl, r23.1.trans (shB h1 (okb_f (by assumption) (by assumption) (by assumption) (by assumption))), r23.2.ck hW⟩
      | exact ⟨_, _, rfl, rfl, r24.1.trans (shA h1), r24.2.ck hW⟩
      | exact ⟨_, _, rfl, rfl, r24.1.trans (shB h1 (okb_f (by assumption) (by assumption) (by assumption) (by assumption))), r24.2.ck hW⟩
      | exact ⟨_, _, rfl, rfl, r25.1.trans (shA h1), r25.2.ck hW⟩
      | exact ⟨_, _, rfl, rfl, r25.1.trans (shB h1 (okb_f (by assumption) (by assumption) (by assumption) (by assumption))), r25.2.ck hW⟩
      | exact ⟨_, _, rfl, rfl, r26.1.trans (shA h1), r26.2.ck hW⟩
      | exact ⟨_, _, rfl, rfl, r26.1.trans (shB h1 (okb_f (by assumption) (by assumption) (by assumption) (by assumption))), r26.2.ck hW⟩
      | exact ⟨_, _, rfl, rfl, r27.1.trans (shA h1), r27.2.ck hW⟩
      | exact ⟨_, _, rfl, rfl, r27.1.trans (shB h1 (okb_f (by assumption) (by assumption) (by assumption) (by assumption))), r27.2.ck hW⟩
      | exact ⟨_, _, rfl, rfl, r28.1.trans (shA h1), r28.2.ck hW⟩
      | exact ⟨_, _, rfl, rfl, r28.1.trans (shB h1 (okb_f (by assumption) (by assumption) (by assumption) (by assumption))), r28.2.ck hW⟩
      | exact ⟨_, _, rfl, rfl, r29.1.trans (shA h1), r29.2.ck hW⟩
      | exact ⟨_, _, rfl, rfl, r29.1.trans (shB h1 (okb_f (by assumption) (by assumption) (by assumption) (by assumption))), r29.2.ck hW⟩
      | exact ⟨_, _, rfl, rfl, r30.1.trans (shA h1), r30.2.ck hW⟩
      | exact ⟨_, _, rfl, rfl, r30.1.trans (shB h1 (okb_f (by assumption) (by assumption) (by assumption) (by assumption))), r30.2.ck hW⟩
      | exact ⟨_, _, rfl, rfl, r31.1.trans (shA h1), r31.2.ck hW⟩
      | exact ⟨_, _, rfl, rfl, r31.1.trans (shB h1 (okb_f (by assumption) (by assumption) (by assumption) (by assumption))), r31.2.ck hW⟩
      | exact ⟨_, _, rfl, rfl, r32.1.trans (shA h1), r32.2.ck hW⟩
      | exact ⟨_, _, rfl, rfl, r32.1.trans (shB h1 (okb_f (by assumption) (by assumption) (by assumption) (by assumption))), r32.2.ck hW⟩
      | exact ⟨_, _, rfl, rfl, r33.1.trans (shA h1), r33.2.ck hW⟩
      | exact ⟨_, _, rfl, rfl, r33.1.trans (shB h1 (okb_f (by assumption) (by assumption) (by assumption) (by assumption))), r33.2.ck hW⟩
      | exact ⟨_, _, rfl, rfl, r34.1.trans (shA h1), r34.2.ck hW⟩
      | exact ⟨_, _, rfl, rfl, r34.1.trans (shB h1 (okb_f (by assumption) (by assumption) (by assumption) (by assumption))), r34.2.ck hW⟩
      | exact ⟨_, _, rfl, rfl, r35.1.trans (shA h1), r35.2.ck hW⟩
      | exact ⟨_, _, rfl, rfl, r35.1.trans (shB h1 (okb_f (by assumption) (by assumption) (by assumption) (by assumption))), r35.2.ck hW⟩
      | exact ⟨_, _, rfl, rfl, r36.1.trans (shA h1), r36.2.ck hW⟩
      | exact ⟨_, _, rfl, rfl, r36.1.trans (shB h1 (okb_f (by assumption) (by assumption) (by assumption) (by assumption))), r36.2.ck hW⟩
      | exact ⟨_, _, rfl, rfl, r37.1.trans (shA h1), r37.2.ck hW⟩
      | exact ⟨_, _, rfl, rfl, r37.1.trans (shB h1 (okb_f (by assumption) (by assumption) (by assumption) (by assumption))), r37.2.ck hW⟩
      | exact ⟨_, _, rfl, rfl, r38.1.trans (shA h1), r38.2.ck hW⟩
      | exact ⟨_, _, rfl, rfl, r38.1.trans (shB h1 (okb_f (by assumption) (by assumption) (by assumption) (by assumption))), r38.2.ck hW⟩
      | exact ⟨_, _, rfl, rfl, r39.1.trans (shA h1), r39.2.ck hW⟩
      | exact ⟨_, _, rfl, rfl, r39.1.trans (shB h1 (okb_f (by assumption) (by assumption) (by assumption) (by assumption))), r39.2.ck hW⟩
  · refine x_iload_n hm rfl rfl ?_
    refine x_if_eq hm rfl (t := 36) rfl (fun h3 => ?_) (fun h3 => ?_)
    · have hb := okb_t (Or.inl h3)
      refine x_iload_n hm rfl rfl ?_
      refine x_if_ge hm rfl (t := 47) rfl (fun h4 => ?_) (fun h4 => ?_)
      · have hn0 := h4
        refine x_iload_n hm rfl rfl ?_
        refine x_bipush hm rfl (v := nI 40) (by decide) ?_
        refine x_icmp_le hm rfl (t := 60) rfl (fun h5 => ?_) (fun h5 => ?_)
        · have hn4 := h5
          obtain ⟨z, hz, hz3⟩ : ∃ z, z ≤ 40 ∧ a3 = nI z := by
            obtain ⟨z, hz, e⟩ := jI_of (v := a3) (fun q => Int32.not_lt.mpr hn0 q)
            exact ⟨z, (jI_le hz (by decide)).mp (by rw [← e]; exact hn4), e⟩
          obtain ⟨s, hs, hs3⟩ := le_k (by omega) (bI_ne0 h1)
          subst hz3
          subst hs3
          exact ev_mono (u116e hW hs hz) (fun r D ⟨v, M2, g1, g2, g3, g4⟩ => ⟨v, M2, g1, g2, g3.trans (shE h1 hb hn0 hn4), g4⟩)
        · refine x_aload_n hm rfl rfl ?_
          refine x_ldcI hm rfl (v := (-1000001 : Int32)) (by decide +kernel) ?_
          refine x_cVi hm rfl rfl (t7 (by decide +kernel)) (fun v6 M6 r6 => ?_)
          refine x_iret hm rfl rfl (by first | rfl | exact bI_nar | decide) ?_
          first
            | exact ⟨_, _, rfl, rfl, r6.1.trans (shD h1 hb hn0 (by assumption)), r6.2.ck hW⟩
            | exact ⟨_, _, rfl, rfl, r1.1.trans (shD h1 hb hn0 (by assumption)), r1.2.ck hW⟩
            | exact ⟨_, _, rfl, rfl, r2.1.trans (shD h1 hb hn0 (by assumption)), r2.2.ck hW⟩
            | exact ⟨_, _, rfl, rfl, r3.1.trans (shD h1 hb hn0 (by assumption)), r3.2.ck hW⟩
            | exact ⟨_, _, rfl, rfl, r4.1.trans (shD h1 hb hn0 (by assumption)), r4.2.ck hW⟩
            | exact ⟨_, _, rfl, rfl, r5.1.trans (shD h1 hb hn0 (by assumption)), r5.2.ck hW⟩
            | exact ⟨_, _, rfl, rfl, r7.1.trans (shD h1 hb hn0 (by assumption)), r7.2.ck hW⟩
            | exact ⟨_, _, rfl, rfl, r8.1.trans (shD h1 hb hn0 (by assumption)), r8.2.ck hW⟩
            | exact ⟨_, _, rfl, rfl, r9.1.trans (shD h1 hb hn0 (by assumption)), r9.2.ck hW⟩
            | exact ⟨_, _, rfl, rfl, r10.1.trans (shD h1 hb hn0 (by assumption)), r10.2.ck hW⟩
            | exact ⟨_, _, rfl, rfl, r11.1.trans (shD h1 hb hn0 (by assumption)), r11.2.ck hW⟩
            | exact ⟨_, _, rfl, rfl, r12.1.trans (shD h1 hb hn0 (by assumption)), r12.2.ck hW⟩
            | exact ⟨_, _, rfl, rfl, r13.1.trans (shD h1 hb hn0 (by assumption)), r13.2.ck hW⟩
            | exact ⟨_, _, rfl, rfl, r14.1.trans (shD h1 hb hn0 (by assumption)), r14.2.ck hW⟩
            | exact ⟨_, _, rfl, rfl, r15.1.trans (shD h1 hb hn0 (by assumption)), r15.2.ck hW⟩
            | exact ⟨_, _, rfl, rfl, r16.1.trans (shD h1 hb hn0 (by assumption)), r16.2.ck hW⟩
            | exact ⟨_, _, rfl, rfl, r17.1.trans (shD h1 hb hn0 (by assumption)), r17.2.ck hW⟩
            | exact ⟨_, _, rfl, rfl, r18.1.trans (shD h1 hb hn0 (by assumption)), r18.2.ck hW⟩
            | exact ⟨_, _, rfl, rfl, r19.1.trans (shD h1 hb hn0 (by assumption)), r19.2.ck hW⟩
            | exact ⟨_, _, rfl, rfl, r20.1.trans (shD h1 hb hn0 (by assumption)), r20.2.ck hW⟩
            | exact ⟨_, _, rfl, rfl, r21.1.trans (shD h1 hb hn0 (by assumption)), r21.2.ck hW⟩
            | exact ⟨_, _, rfl, rfl, r22.1.trans (shD h1 hb hn0 (by assumption)), r22.2.ck hW⟩
            | exact ⟨_, _, rfl, rfl, r23.1.trans (shD h1 hb hn0 (by assumption)), r23.2.ck hW⟩
            | exact ⟨_, _, rfl, rfl, r24.1.trans (shD h1 hb hn0 (by assumption)), r24.2.ck hW⟩
            | exact ⟨_, _, rfl, rfl, r25.1.trans (shD h1 hb hn0 (by assumption)), r25.2.ck hW⟩
            | exact ⟨_, _, rfl, rfl, r26.1.trans (shD h1 hb hn0 (by assumption)), r26.2.ck hW⟩
            | exact ⟨_, _, rfl, rfl, r27.1.trans (shD h1 hb hn0 (by assumption)), r27.2.ck hW⟩
            | exact ⟨_, _, rfl, rfl, r28.1.trans (shD h1 hb hn0 (by assumption)), r28.2.ck hW⟩
            | exact ⟨_, _, rfl, rfl, r29.1.trans (shD h1 hb hn0 (by assumption)), r29.2.ck hW⟩
            | exact ⟨_, _, rfl, rfl, r30.1.trans (shD h1 hb hn0 (by assumption)), r30.2.ck hW⟩
            | exact ⟨_, _, rfl, rfl, r31.1.trans (shD h1 hb hn0 (by assumption)), r31.2.ck hW⟩
            | exact ⟨_, _, rfl, rfl, r32.1.trans (shD h1 hb hn0 (by assumption)), r32.2.ck hW⟩
            | exact ⟨_, _, rfl, rfl, r33.1.trans (shD h1 hb hn0 (by assumption)), r33.2.ck hW⟩
            | exact ⟨_, _, rfl, rfl, r34.1.trans (shD h1 hb hn0 (by assumption)), r34.2.ck hW⟩
            | exact ⟨_, _, rfl, rfl, r35.1.trans (shD h1 hb hn0 (by assumption)), r35.2.ck hW⟩
            | exact ⟨_, _, rfl, rfl, r36.1.trans (shD h1 hb hn0 (by assumption)), r36.2.ck hW⟩
            | exact ⟨_, _, rfl, rfl, r37.1.trans (shD h1 hb hn0 (by assumption)), r37.2.ck hW⟩
            | exact ⟨_, _, rfl, rfl, r38.1.trans (shD h1 hb hn0 (by assumption)), r38.2.ck hW⟩
            | exact ⟨_, _, rfl, rfl, r39.1.trans (shD h1 hb hn0 (by assumption)), r39.2.ck hW⟩
      · refine x_aload_n hm rfl rfl ?_
        refine x_ldcI hm rfl (v := (-1000007 : Int32)) (by decide +kernel) ?_
        refine x_cVi hm rfl rfl (t7 (by decide +kernel)) (fun v7 M7 r7 => ?_)
        refine x_iret hm rfl rfl (by first | rfl | exact bI_nar | decide) ?_
        first
          | exact ⟨_, _, rfl, rfl, r7.1.trans (shC h1 hb (by assumption)), r7.2.ck hW⟩
          | exact ⟨_, _, rfl, rfl, r1.1.trans (shC h1 hb (by assumption)), r1.2.ck hW⟩
          | exact ⟨_, _, rfl, rfl, r2.1.trans (shC h1 hb (by assumption)), r2.2.ck hW⟩
          | exact ⟨_, _, rfl, rfl, r3.1.trans (shC h1 hb (by assumption)), r3.2.ck hW⟩
          | exact ⟨_, _, rfl, rfl, r4.1.trans (shC h1 hb (by assumption)), r4.2.ck hW⟩
          | exact ⟨_, _, rfl, rfl, r5.1.trans (shC h1 hb (by assumption)), r5.2.ck hW⟩
          | exact ⟨_, _, rfl, rfl, r6.1.trans (shC h1 hb (by assumption)), r6.2.ck hW⟩
          | exact ⟨_, _, rfl, rfl, r8.1.trans (shC h1 hb (by assumption)), r8.2.ck hW⟩
          | exact ⟨_, _, rfl, rfl, r9.1.trans (shC h1 hb (by assumption)), r9.2.ck hW⟩
          | exact ⟨_, _, rfl, rfl, r10.1.trans (shC h1 hb (by assumption)), r10.2.ck hW⟩
          | exact ⟨_, _, rfl, rfl, r11.1.trans (shC h1 hb (by assumption)), r11.2.ck hW⟩
          | exact ⟨_, _, rfl, rfl, r12.1.trans (shC h1 hb (by assumption)), r12.2.ck hW⟩
          | exact ⟨_, _, rfl, rfl, r13.1.trans (shC h1 hb (by assumption)), r13.2.ck hW⟩
          | exact ⟨_, _, rfl, rfl, r14.1.trans (shC h1 hb (by assumption)), r14.2.ck hW⟩
          | exact ⟨_, _, rfl, rfl, r15.1.trans (shC h1 hb (by assumption)), r15.2.ck hW⟩
          | exact ⟨_, _, rfl, rfl, r16.1.trans (shC h1 hb (by assumption)), r16.2.ck hW⟩
          | exact ⟨_, _, rfl, rfl, r17.1.trans (shC h1 hb (by assumption)), r17.2.ck hW⟩
          | exact ⟨_, _, rfl, rfl, r18.1.trans (shC h1 hb (by assumption)), r18.2.ck hW⟩
          | exact ⟨_, _, rfl, rfl, r19.1.trans (shC h1 hb (by assumption)), r19.2.ck hW⟩
          | exact ⟨_, _, rfl, rfl, r20.1.trans (shC h1 hb (by assumption)), r20.2.ck hW⟩
          | exact ⟨_, _, rfl, rfl, r21.1.trans (shC h1 hb (by assumption)), r21.2.ck hW⟩
          | exact ⟨_, _, rfl, rfl, r22.1.trans (shC h1 hb (by assumption)), r22.2.ck hW⟩
          | exact ⟨_, _, rfl, rfl, r23.1.trans (shC h1 hb (by assumption)), r23.2.ck hW⟩
          | exact ⟨_, _, rfl, rfl, r24.1.trans (shC h1 hb (by assumption)), r24.2.ck hW⟩
          | exact ⟨_, _, rfl, rfl, r25.1.trans (shC h1 hb (by assumption)), r25.2.ck hW⟩
          | exact ⟨_, _, rfl, rfl, r26.1.trans (shC h1 hb (by assumption)), r26.2.ck hW⟩
          | exact ⟨_, _, rfl, rfl, r27.1.trans (shC h1 hb (by assumption)), r27.2.ck hW⟩
          | exact ⟨_, _, rfl, rfl, r28.1.trans (shC h1 hb (by assumption)), r28.2.ck hW⟩
          | exact ⟨_, _, rfl, rfl, r29.1.trans (shC h1 hb (by assumption)), r29.2.ck hW⟩
          | exact ⟨_, _, rfl, rfl, r30.1.trans (shC h1 hb (by assumption)), r30.2.ck hW⟩
          | exact ⟨_, _, rfl, rfl, r31.1.trans (shC h1 hb (by assumption)), r31.2.ck hW⟩
          | exact ⟨_, _, rfl, rfl, r32.1.trans (shC h1 hb (by assumption)), r32.2.ck hW⟩
          | exact ⟨_, _, rfl, rfl, r33.1.trans (shC h1 hb (by assumption)), r33.2.ck hW⟩
          | exact ⟨_, _, rfl, rfl, r34.1.trans (shC h1 hb (by assumption)), r34.2.ck hW⟩
          | exact ⟨_, _, rfl, rfl, r35.1.trans (shC h1 hb (by assumption)), r35.2.ck hW⟩
          | exact ⟨_, _, rfl, rfl, r36.1.trans (shC h1 hb (by assumption)), r36.2.ck hW⟩
          | exact ⟨_, _, rfl, rfl, r37.1.trans (shC h1 hb (by assumption)), r37.2.ck hW⟩
          | exact ⟨_, _, rfl, rfl, r38.1.trans (shC h1 hb (by assumption)), r38.2.ck hW⟩
          | exact ⟨_, _, rfl, rfl, r39.1.trans (shC h1 hb (by assumption)), r39.2.ck hW⟩
    · refine x_iload_n hm rfl rfl ?_
      refine x_bipush hm rfl (v := nI 8) (by decide) ?_
      refine x_icmp_eq hm rfl (t := 36) rfl (fun h8 => ?_) (fun h8 => ?_)
      · have hb := okb_t (Or.inr (Or.inl h8))
        refine x_iload_n hm rfl rfl ?_
        refine x_if_ge hm rfl (t := 47) rfl (fun h9 => ?_) (fun h9 => ?_)
        · have hn0 := h9
          refine x_iload_n hm rfl rfl ?_
          refine x_bipush hm rfl (v := nI 40) (by decide) ?_
          refine x_icmp_le hm rfl (t := 60) rfl (fun h10 => ?_) (fun h10 => ?_)
          · have hn4 := h10
            obtain ⟨z, hz, hz3⟩ : ∃ z, z ≤ 40 ∧ a3 = nI z := by
              obtain ⟨z, hz, e⟩ := jI_of (v := a3) (fun q => Int32.not_lt.mpr hn0 q)
              exact ⟨z, (jI_le hz (by decide)).mp (by rw [← e]; exact hn4), e⟩
            obtain ⟨s, hs, hs3⟩ := le_k (by omega) (bI_ne0 h1)
            subst hz3
            subst hs3
            exact ev_mono (u116e hW hs hz) (fun r D ⟨v, M2, g1, g2, g3, g4⟩ => ⟨v, M2, g1, g2, g3.trans (shE h1 hb hn0 hn4), g4⟩)
          · refine x_aload_n hm rfl rfl ?_
            refine x_ldcI hm rfl (v := (-1000001 : Int32)) (by decide +kernel) ?_
            refine x_cVi hm rfl rfl (t7 (by decide +kernel)) (fun v11 M11 r11 => ?_)
            refine x_iret hm rfl rfl (by first | rfl | exact bI_nar | decide) ?_
            first
              | exact ⟨_, _, rfl, rfl, r11.1.trans (shD h1 hb hn0 (by assumption)), r11.2.ck hW⟩
              | exact ⟨_, _, rfl, rfl, r1.1.trans (shD h1 hb hn0 (by assumption)), r1.2.ck hW⟩
              | exact ⟨_, _, rfl, rfl, r2.1.trans (shD h1 hb hn0 (by assumption)), r2.2.ck hW⟩
              | exact ⟨_, _, rfl, rfl, r3.1.trans (shD h1 hb hn0 (by assumption)), r3.2.ck hW⟩
              | exact ⟨_, _, rfl, rfl, r4.1.trans (shD h1 hb hn0 (by assumption)), r4.2.ck hW⟩
              | exact ⟨_, _, rfl, rfl, r5.1.trans (shD h1 hb hn0 (by assumption)), r5.2.ck hW⟩
              | exact ⟨_, _, rfl, rfl, r6.1.trans (shD h1 hb hn0 (by assumption)), r6.2.ck hW⟩
              | exact ⟨_, _, rfl, rfl, r7.1.trans (shD h1 hb hn0 (by assumption)), r7.2.ck hW⟩
              | exact ⟨_, _, rfl, rfl, r8.1.trans (shD h1 hb hn0 (by assumption)), r8.2.ck hW⟩
              | exact ⟨_, _, rfl, rfl, r9.1.trans (shD h1 hb hn0 (by assumption)), r9.2.ck hW⟩
              | exact ⟨_, _, rfl, rfl, r10.1.trans (shD h1 hb hn0 (by assumption)), r10.2.ck hW⟩
              | exact ⟨_, _, rfl, rfl, r12.1.trans (shD h1 hb hn0 (by assumption)), r12.2.ck hW⟩
              | exact ⟨_, _, rfl, rfl, r13.1.trans (shD h1 hb hn0 (by assumption)), r13.2.ck hW⟩
              | exact ⟨_, _, rfl, rfl, r14.1.trans (shD h1 hb hn0 (by assumption)), r14.2.ck hW⟩
              | exact ⟨_, _, rfl, rfl, r15.1.trans (shD h1 hb hn0 (by assumption)), r15.2.ck hW⟩
              | exact ⟨_, _, rfl, rfl, r16.1.trans (shD h1 hb hn0 (by assumption)), r16.2.ck hW⟩
              | exact ⟨_, _, rfl, rfl, r17.1.trans (shD h1 hb hn0 (by assumption)), r17.2.ck hW⟩
              | exact ⟨_, _, rfl, rfl, r18.1.trans (shD h1 hb hn0 (by assumption)), r18.2.ck hW⟩
              | exact ⟨_, _, rfl, rfl, r19.1.trans (shD h1 hb hn0 (by assumption)), r19.2.ck hW⟩
              | exact ⟨_, _, rfl, rfl, r20.1.trans (shD h1 hb hn0 (by assumption)), r20.2.ck hW⟩
              | exact ⟨_, _, rfl, rfl, r21.1.trans (shD h1 hb hn0 (by assumption)), r21.2.ck hW⟩
              | exact ⟨_, _, rfl, rfl, r22.1.trans (shD h1 hb hn0 (by assumption)), r22.2.ck hW⟩
              | exact ⟨_, _, rfl, rfl, r23.1.trans (shD h1 hb hn0 (by assumption)), r23.2.ck hW⟩
              | exact ⟨_, _, rfl, rfl, r24.1.trans (shD h1 hb hn0 (by assumption)), r24.2.ck hW⟩
              | exact ⟨_, _, rfl, rfl, r25.1.trans (shD h1 hb hn0 (by assumption)), r25.2.ck hW⟩
              | exact ⟨_, _, rfl, rfl, r26.1.trans (shD h1 hb hn0 (by assumption)), r26.2.ck hW⟩
              | exact ⟨_, _, rfl, rfl, r27.1.trans (shD h1 hb hn0 (by assumption)), r27.2.ck hW⟩
              | exact ⟨_, _, rfl, rfl, r28.1.trans (shD h1 hb hn0 (by assumption)), r28.2.ck hW⟩
              | exact ⟨_, _, rfl, rfl, r29.1.trans (shD h1 hb hn0 (by assumption)), r29.2.ck hW⟩
              | exact ⟨_, _, rfl, rfl, r30.1.trans (shD h1 hb hn0 (by assumption)), r30.2.ck hW⟩
              | exact ⟨_, _, rfl, rfl, r31.1.trans (shD h1 hb hn0 (by assumption)), r31.2.ck hW⟩
              | exact ⟨_, _, rfl, rfl, r32.1.trans (shD h1 hb hn0 (by assumption)), r32.2.ck hW⟩
              | exact ⟨_, _, rfl, rfl, r33.1.trans (shD h1 hb hn0 (by assumption)), r33.2.ck hW⟩
              | exact ⟨_, _, rfl, rfl, r34.1.trans (shD h1 hb hn0 (by assumption)), r34.2.ck hW⟩
              | exact ⟨_, _, rfl, rfl, r35.1.trans (shD h1 hb hn0 (by assumption)), r35.2.ck hW⟩
              | exact ⟨_, _, rfl, rfl, r36.1.trans (shD h1 hb hn0 (by assumption)), r36.2.ck hW⟩
              | exact ⟨_, _, rfl, rfl, r37.1.trans (shD h1 hb hn0 (by assumption)), r37.2.ck hW⟩
              | exact ⟨_, _, rfl, rfl, r38.1.trans (shD h1 hb hn0 (by assumption)), r38.2.ck hW⟩
              | exact ⟨_, _, rfl, rfl, r39.1.trans (shD h1 hb hn0 (by assumption)), r39.2.ck hW⟩
        · refine x_aload_n hm rfl rfl ?_
          refine x_ldcI hm rfl (v := (-1000007 : Int32)) (by decide +kernel) ?_
          refine x_cVi hm rfl rfl (t7 (by decide +kernel)) (fun v12 M12 r12 => ?_)
          refine x_iret hm rfl rfl (by first | rfl | exact bI_nar | decide) ?_
          first
            | exact ⟨_, _, rfl, rfl, r12.1.trans (shC h1 hb (by assumption)), r12.2.ck hW⟩
            | exact ⟨_, _, rfl, rfl, r1.1.trans (shC h1 hb (by assumption)), r1.2.ck hW⟩
            | exact ⟨_, _, rfl, rfl, r2.1.trans (shC h1 hb (by assumption)), r2.2.ck hW⟩
            | exact ⟨_, _, rfl, rfl, r3.1.trans (shC h1 hb (by assumption)), r3.2.ck hW⟩
            | exact ⟨_, _, rfl, rfl, r4.1.trans (shC h1 hb (by assumption)), r4.2.ck hW⟩
            | exact ⟨_, _, rfl, rfl, r5.1.trans (shC h1 hb (by assumption)), r5.2.ck hW⟩
            | exact ⟨_, _, rfl, rfl, r6.1.trans (shC h1 hb (by assumption)), r6.2.ck hW⟩
            | exact ⟨_, _, rfl, rfl, r7.1.trans (shC h1 hb (by assumption)), r7.2.ck hW⟩
            | exact ⟨_, _, rfl, rfl, r8.1.trans (shC h1 hb (by assumption)), r8.2.ck hW⟩
            | exact ⟨_, _, rfl, rfl, r9.1.trans (shC h1 hb (by assumption)), r9.2.ck hW⟩
            | exact ⟨_, _, rfl, rfl, r10.1.trans (shC h1 hb (by assumption)), r10.2.ck hW⟩
            | exact ⟨_, _, rfl, rfl, r11.1.trans (shC h1 hb (by assumption)), r11.2.ck hW⟩
            | exact ⟨_, _, rfl, rfl, r13.1.trans (shC h1 hb (by assumption)), r13.2.ck hW⟩
            | exact ⟨_, _, rfl, rfl, r14.1.trans (shC h1 hb (by assumption)), r14.2.ck hW⟩
            | exact ⟨_, _, rfl, rfl, r15.1.trans (shC h1 hb (by assumption)), r15.2.ck hW⟩
            | exact ⟨_, _, rfl, rfl, r16.1.trans (shC h1 hb (by assumption)), r16.2.ck hW⟩
            | exact ⟨_, _, rfl, rfl, r17.1.trans (shC h1 hb (by assumption)), r17.2.ck hW⟩
            | exact ⟨_, _, rfl, rfl, r18.1.trans (shC h1 hb (by assumption)), r18.2.ck hW⟩
            | exact ⟨_, _, rfl, rfl, r19.1.trans (shC h1 hb (by assumption)), r19.2.ck hW⟩
            | exact ⟨_, _, rfl, rfl, r20.1.trans (shC h1 hb (by assumption)), r20.2.ck hW⟩
            | exact ⟨_, _, rfl, rfl, r21.1.trans (shC h1 hb (by assumption)), r21.2.ck hW⟩
            | exact ⟨_, _, rfl, rfl, r22.1.trans (shC h1 hb (by assumption)), r22.2.ck hW⟩
            | exact ⟨_, _, rfl, rfl, r23.1.trans (shC h1 hb (by assumption)), r23.2.ck hW⟩
            | exact ⟨_, _, rfl, rfl, r24.1.trans (shC h1 hb (by assumption)), r24.2.ck hW⟩
            | exact ⟨_, _, rfl, rfl, r25.1.trans (shC h1 hb (by assumption)), r25.2.ck hW⟩
            | exact ⟨_, _, rfl, rfl, r26.1.trans (shC h1 hb (by assumption)), r26.2.ck hW⟩
            | exact ⟨_, _, rfl, rfl, r27.1.trans (shC h1 hb (by assumption)), r27.2.ck hW⟩
            | exact ⟨_, _, rfl, rfl, r28.1.trans (shC h1 hb (by assumption)), r28.2.ck hW⟩
            | exact ⟨_, _, rfl, rfl, r29.1.trans (shC h1 hb (by assumption)), r29.2.ck hW⟩
            | exact ⟨_, _, rfl, rfl, r30.1.trans (shC h1 hb (by assumption)), r30.2.ck hW⟩
            | exact ⟨_, _, rfl, rfl, r31.1.trans (shC h1 hb (by assumption)), r31.2.ck hW⟩
            | exact ⟨_, _, rfl, rfl, r32.1.trans (shC h1 hb (by assumption)), r32.2.ck hW⟩
            | exact ⟨_, _, rfl, rfl, r33.1.trans (shC h1 hb (by assumption)), r33.2.ck hW⟩
            | exact ⟨_, _, rfl, rfl, r34.1.trans (shC h1 hb (by assumption)), r34.2.ck hW⟩
            | exact ⟨_, _, rfl, rfl, r35.1.trans (shC h1 hb (by assumption)), r35.2.ck hW⟩
            | exact ⟨_, _, rfl, rfl, r36.1.trans (shC h1 hb (by assumption)), r36.2.ck hW⟩
            | exact ⟨_, _, rfl, rfl, r37.1.trans (shC h1 hb (by assumption)), r37.2.ck hW⟩
            | exact ⟨_, _, rfl, rfl, r38.1.trans (shC h1 hb (by assumption)), r38.2.ck hW⟩
            | exact ⟨_, _, rfl, rfl, r39.1.trans (shC h1 hb (by assumption)), r39.2.ck hW⟩
      · refine x_iload_n hm rfl rfl ?_
        refine x_bipush hm rfl (v := nI 16) (by decide) ?_
        refine x_icmp_eq hm rfl (t := 36) rfl (fun h13 => ?_) (fun h13 => ?_)
        · have hb := okb_t (Or.inr (Or.inr (Or.inl h13)))
          refine x_iload_n hm rfl rfl ?_
          refine x_if_ge hm rfl (t := 47) rfl (fun h14 => ?_) (fun h14 => ?_)
          · have hn0 := h14
            refine x_iload_n hm rfl rfl ?_
            refine x_bipush hm rfl (v := nI 40) (by decide) ?_
            refine x_icmp_le hm rfl (t := 60) rfl (fun h15 => ?_) (fun h15 => ?_)
            · have hn4 := h15
              obtain ⟨z, hz, hz3⟩ : ∃ z, z ≤ 40 ∧ a3 = nI z := by
                obtain ⟨z, hz, e⟩ := jI_of (v := a3) (fun q => Int32.not_lt.mpr hn0 q)
                exact ⟨z, (jI_le hz (by decide)).mp (by rw [← e]; exact hn4), e⟩
              obtain ⟨s, hs, hs3⟩ := le_k (by omega) (bI_ne0 h1)
              subst hz3
              subst hs3
              exact ev_mono (u116e hW hs hz) (fun r D ⟨v, M2, g1, g2, g3, g4⟩ => ⟨v, M2, g1, g2, g3.trans (shE h1 hb hn0 hn4), g4⟩)
            · refine x_aload_n hm rfl rfl ?_
              refine x_ldcI hm rfl (v := (-1000001 : Int32)) (by decide +kernel) ?_
              refine x_cVi hm rfl rfl (t7 (by decide +kernel)) (fun v16 M16 r16 => ?_)
              refine x_iret hm rfl rfl (by first | rfl | exact bI_nar | decide) ?_
              first
                | exact ⟨_, _, rfl, rfl, r16.1.trans (shD h1 hb hn0 (by assumption)), r16.2.ck hW⟩
                | exact ⟨_, _, rfl, rfl, r1.1.trans (shD h1 hb hn0 (by assumption)), r1.2.ck hW⟩
                | exact ⟨_, _, rfl, rfl, r2.1.trans (shD h1 hb hn0 (by assumption)), r2.2.ck hW⟩
                | exact ⟨_, _, rfl, rfl, r3.1.trans (shD h1 hb hn0 (by assumption)), r3.2.ck hW⟩
                | exact ⟨_, _, rfl, rfl, r4.1.trans (shD h1 hb hn0 (by assumption)), r4.2.ck hW⟩
                | exact ⟨_, _, rfl, rfl, r5.1.trans (shD h1 hb hn0 (by assumption)), r5.2.ck hW⟩
                | exact ⟨_, _, rfl, rfl, r6.1.trans (shD h1 hb hn0 (by assumption)), r6.2.ck hW⟩
                | exact ⟨_, _, rfl, rfl, r7.1.trans (shD h1 hb hn0 (by assumption)), r7.2.ck hW⟩
                | exact ⟨_, _, rfl, rfl, r8.1.trans (shD h1 hb hn0 (by assumption)), r8.2.ck hW⟩
                | exact ⟨_, _, rfl, rfl, r9.1.trans (shD h1 hb hn0 (by assumption)), r9.2.ck hW⟩
                | exact ⟨_, _, rfl, rfl, r10.1.trans (shD h1 hb hn0 (by assumption)), r10.2.ck hW⟩
                | exact ⟨_, _, rfl, rfl, r11.1.trans (shD h1 hb hn0 (by assumption)), r11.2.ck hW⟩
                | exact ⟨_, _, rfl, rfl, r12.1.trans (shD h1 hb hn0 (by assumption)), r12.2.ck hW⟩
                | exact ⟨_, _, rfl, rfl, r13.1.trans (shD h1 hb hn0 (by assumption)), r13.2.ck hW⟩
                | exact ⟨_, _, rfl, rfl, r14.1.trans (shD h1 hb hn0 (by assumption)), r14.2.ck hW⟩
                | exact ⟨_, _, rfl, rfl, r15.1.trans (shD h1 hb hn0 (by assumption)), r15.2.ck hW⟩
                | exact ⟨_, _, rfl, rfl, r17.1.trans (shD h1 hb hn0 (by assumption)), r17.2.ck hW⟩
                | exact ⟨_, _, rfl, rfl, r18.1.trans (shD h1 hb hn0 (by assumption)), r18.2.ck hW⟩
                | exact ⟨_, _, rfl, rfl, r19.1.trans (shD h1 hb hn0 (by assumption)), r19.2.ck hW⟩
                | exact ⟨_, _, rfl, rfl, r20.1.trans (shD h1 hb hn0 (by assumption)), r20.2.ck hW⟩
                | exact ⟨_, _, rfl, rfl, r21.1.trans (shD h1 hb hn0 (by assumption)), r21.2.ck hW⟩
                | exact ⟨_, _, rfl, rfl, r22.1.trans (shD h1 hb hn0 (by assumption)), r22.2.ck hW⟩
                | exact ⟨_, _, rfl, rfl, r23.1.trans (shD h1 hb hn0 (by assumption)), r23.2.ck hW⟩
                | exact ⟨_, _, rfl, rfl, r24.1.trans (shD h1 hb hn0 (by assumption)), r24.2.ck hW⟩
                | exact ⟨_, _, rfl, rfl, r25.1.trans (shD h1 hb hn0 (by assumption)), r25.2.ck hW⟩
                | exact ⟨_, _, rfl, rfl, r26.1.trans (shD h1 hb hn0 (by assumption)), r26.2.ck hW⟩
                | exact ⟨_, _, rfl, rfl, r27.1.trans (shD h1 hb hn0 (by assumption)), r27.2.ck hW⟩
                | exact ⟨_, _, rfl, rfl, r28.1.trans (shD h1 hb hn0 (by assumption)), r28.2.ck hW⟩
                | exact ⟨_, _, rfl, rfl, r29.1.trans (shD h1 hb hn0 (by assumption)), r29.2.ck hW⟩
                | exact ⟨_, _, rfl, rfl, r30.1.trans (shD h1 hb hn0 (by assumption)), r30.2.ck hW⟩
                | exact ⟨_, _, rfl, rfl, r31.1.trans (shD h1 hb hn0 (by assumption)), r31.2.ck hW⟩
                | exact ⟨_, _, rfl, rfl, r32.1.trans (shD h1 hb hn0 (by assumption)), r32.2.ck hW⟩
                | exact ⟨_, _, rfl, rfl, r33.1.trans (shD h1 hb hn0 (by assumption)), r33.2.ck hW⟩
                | exact ⟨_, _, rfl, rfl, r34.1.trans (shD h1 hb hn0 (by assumption)), r34.2.ck hW⟩
                | exact ⟨_, _, rfl, rfl, r35.1.trans (shD h1 hb hn0 (by assumption)), r35.2.ck hW⟩
                | exact ⟨_, _, rfl, rfl, r36.1.trans (shD h1 hb hn0 (by assumption)), r36.2.ck hW⟩
                | exact ⟨_, _, rfl, rfl, r37.1.trans (shD h1 hb hn0 (by assumption)), r37.2.ck hW⟩
                | exact ⟨_, _, rfl, rfl, r38.1.trans (shD h1 hb hn0 (by assumption)), r38.2.ck hW⟩
                | exact ⟨_, _, rfl, rfl, r39.1.trans (shD h1 hb hn0 (by assumption)), r39.2.ck hW⟩
          · refine x_aload_n hm rfl rfl ?_
            refine x_ldcI hm rfl (v := (-1000007 : Int32)) (by decide +kernel) ?_
            refine x_cVi hm rfl rfl (t7 (by decide +kernel)) (fun v17 M17 r17 => ?_)
            refine x_iret hm rfl rfl (by first | rfl | exact bI_nar | decide) ?_
            first
              | exact ⟨_, _, rfl, rfl, r17.1.trans (shC h1 hb (by assumption)), r17.2.ck hW⟩
              | exact ⟨_, _, rfl, rfl, r1.1.trans (shC h1 hb (by assumption)), r1.2.ck hW⟩
              | exact ⟨_, _, rfl, rfl, r2.1.trans (shC h1 hb (by assumption)), r2.2.ck hW⟩
              | exact ⟨_, _, rfl, rfl, r3.1.trans (shC h1 hb (by assumption)), r3.2.ck hW⟩
              | exact ⟨_, _, rfl, rfl, r4.1.trans (shC h1 hb (by assumption)), r4.2.ck hW⟩
              | exact ⟨_, _, rfl, rfl, r5.1.trans (shC h1 hb (by assumption)), r5.2.ck hW⟩
              | exact ⟨_, _, rfl, rfl, r6.1.trans (shC h1 hb (by assumption)), r6.2.ck hW⟩
              | exact ⟨_, _, rfl, rfl, r7.1.trans (shC h1 hb (by assumption)), r7.2.ck hW⟩
              | exact ⟨_, _, rfl, rfl, r8.1.trans (shC h1 hb (by assumption)), r8.2.ck hW⟩
              | exact ⟨_, _, rfl, rfl, r9.1.trans (shC h1 hb (by assumption)), r9.2.ck hW⟩
              | exact ⟨_, _, rfl, rfl, r10.1.trans (shC h1 hb (by assumption)), r10.2.ck hW⟩
              | exact ⟨_, _, rfl, rfl, r11.1.trans (shC h1 hb (by assumption)), r11.2.ck hW⟩
              | exact ⟨_, _, rfl, rfl, r12.1.trans (shC h1 hb (by assumption)), r12.2.ck hW⟩
              | exact ⟨_, _, rfl, rfl, r13.1.trans (shC h1 hb (by assumption)), r13.2.ck hW⟩
              | exact ⟨_, _, rfl, rfl, r14.1.trans (shC h1 hb (by assumption)), r14.2.ck hW⟩
              | exact ⟨_, _, rfl, rfl, r15.1.trans (shC h1 hb (by assumption)), r15.2.ck hW⟩
              | exact ⟨_, _, rfl, rfl, r16.1.trans (shC h1 hb (by assumption)), r16.2.ck hW⟩
              | exact ⟨_, _, rfl, rfl, r18.1.trans (shC h1 hb (by assumption)), r18.2.ck hW⟩
              | exact ⟨_, _, rfl, rfl, r19.1.trans (shC h1 hb (by assumption)), r19.2.ck hW⟩
              | exact ⟨_, _, rfl, rfl, r20.1.trans (shC h1 hb (by assumption)), r20.2.ck hW⟩
              | exact ⟨_, _, rfl, rfl, r21.1.trans (shC h1 hb (by assumption)), r21.2.ck hW⟩
              | exact ⟨_, _, rfl, rfl, r22.1.trans (shC h1 hb (by assumption)), r22.2.ck hW⟩
              | exact ⟨_, _, rfl, rfl, r23.1.trans (shC h1 hb (by assumption)), r23.2.ck hW⟩
              | exact ⟨_, _, rfl, rfl, r24.1.trans (shC h1 hb (by assumption)), r24.2.ck hW⟩
              | exact ⟨_, _, rfl, rfl, r25.1.trans (shC h1 hb (by assumption)), r25.2.ck hW⟩
              | exact ⟨_, _, rfl, rfl, r26.1.trans (shC h1 hb (by assumption)), r26.2.ck hW⟩
              | exact ⟨_, _, rfl, rfl, r27.1.trans (shC h1 hb (by assumption)), r27.2.ck hW⟩
              | exact ⟨_, _, rfl, rfl, r28.1.trans (shC h1 hb (by assumption)), r28.2.ck hW⟩
              | exact ⟨_, _, rfl, rfl, r29.1.trans (shC h1 hb (by assumption)), r29.2.ck hW⟩
              | exact ⟨_, _, rfl, rfl, r30.1.trans (shC h1 hb (by assumption)), r30.2.ck hW⟩
              | exact ⟨_, _, rfl, rfl, r31.1.trans (shC h1 hb (by assumption)), r31.2.ck hW⟩
              | exact ⟨_, _, rfl, rfl, r32.1.trans (shC h1 hb (by assumption)), r32.2.ck hW⟩
              | exact ⟨_, _, rfl, rfl, r33.1.trans (shC h1 hb (by assumption)), r33.2.ck hW⟩
              | exact ⟨_, _, rfl, rfl, r34.1.trans (shC h1 hb (by assumption)), r34.2.ck hW⟩
              | exact ⟨_, _, rfl, rfl, r35.1.trans (shC h1 hb (by assumption)), r35.2.ck hW⟩
              | exact ⟨_, _, rfl, rfl, r36.1.trans (shC h1 hb (by assumption)), r36.2.ck hW⟩
              | exact ⟨_, _, rfl, rfl, r37.1.trans (shC h1 hb (by assumption)), r37.2.ck hW⟩
              | exact ⟨_, _, rfl, rfl, r38.1.trans (shC h1 hb (by assumption)), r38.2.ck hW⟩
              | exact ⟨_, _, rfl, rfl, r39.1.trans (shC h1 hb (by assumption)), r39.2.ck hW⟩
        · refine x_iload_n hm rfl rfl ?_
          refine x_bipush hm rfl (v := nI 32) (by decide) ?_
          refine x_icmp_eq hm rfl (t := 36) rfl (fun h18 => ?_) (fun h18 => ?_)
          · have hb := okb_t (Or.inr (Or.inr (Or.inr h18)))
            refine x_iload_n hm rfl rfl ?_
            refine x_if_ge hm rfl (t := 47) rfl (fun h19 => ?_) (fun h19 => ?_)
            · have hn0 := h19
              refine x_iload_n hm rfl rfl ?_
              refine x_bipush hm rfl (v := nI 40) (by decide) ?_
              refine x_icmp_le hm rfl (t := 60) rfl (fun h20 => ?_) (fun h20 => ?_)
              · have hn4 := h20
                obtain ⟨z, hz, hz3⟩ : ∃ z, z ≤ 40 ∧ a3 = nI z := by
                  obtain ⟨z, hz, e⟩ := jI_of (v := a3) (fun q => Int32.not_lt.mpr hn0 q)
                  exact ⟨z, (jI_le hz (by decide)).mp (by rw [← e]; exact hn4), e⟩
                obtain ⟨s, hs, hs3⟩ := le_k (by omega) (bI_ne0 h1)
                subst hz3
                subst hs3
                exact ev_mono (u116e hW hs hz) (fun r D ⟨v, M2, g1, g2, g3, g4⟩ => ⟨v, M2, g1, g2, g3.trans (shE h1 hb hn0 hn4), g4⟩)
              · refine x_aload_n hm rfl rfl ?_
                refine x_ldcI hm rfl (v := (-1000001 : Int32)) (by decide +kernel) ?_
                refine x_cVi hm rfl rfl (t7 (by decide +kernel)) (fun v21 M21 r21 => ?_)
                refine x_iret hm rfl rfl (by first | rfl | exact bI_nar | decide) ?_
                first
                  | exact ⟨_, _, rfl, rfl, r21.1.trans (shD h1 hb hn0 (by assumption)), r21.2.ck hW⟩
                  | exact ⟨_, _, rfl, rfl, r1.1.trans (shD h1 hb hn0 (by assumption)), r1.2.ck hW⟩
                  | exact ⟨_, _, rfl, rfl, r2.1.trans (shD h1 hb hn0 (by assumption)), r2.2.ck hW⟩
                  | exact ⟨_, _, rfl, rfl, r3.1.trans (shD h1 hb hn0 (by assumption)), r3.2.ck hW⟩
                  | exact ⟨_, _, rfl, rfl, r4.1.trans (shD h1 hb hn0 (by assumption)), r4.2.ck hW⟩
                  | exact ⟨_, _, rfl, rfl, r5.1.trans (shD h1 hb hn0 (by assumption)), r5.2.ck hW⟩
                  | exact ⟨_, _, rfl, rfl, r6.1.trans (shD h1 hb hn0 (by assumption)), r6.2.ck hW⟩
                  | exact ⟨_, _, rfl, rfl, r7.1.trans (shD h1 hb hn0 (by assumption)), r7.2.ck hW⟩
                  | exact ⟨_, _, rfl, rfl, r8.1.trans (shD h1 hb hn0 (by assumption)), r8.2.ck hW⟩
                  | exact ⟨_, _, rfl, rfl, r9.1.trans (shD h1 hb hn0 (by assumption)), r9.2.ck hW⟩
                  | exact ⟨_, _, rfl, rfl, r10.1.trans (shD h1 hb hn0 (by assumption)), r10.2.ck hW⟩
                  | exact ⟨_, _, rfl, rfl, r11.1.trans (shD h1 hb hn0 (by assumption)), r11.2.ck hW⟩
                  | exact ⟨_, _, rfl, rfl, r12.1.trans (shD h1 hb hn0 (by assumption)), r12.2.ck hW⟩
                  | exact ⟨_, _, rfl, rfl, r13.1.trans (shD h1 hb hn0 (by assumption)), r13.2.ck hW⟩
                  | exact ⟨_, _, rfl, rfl, r14.1.trans (shD h1 hb hn0 (by assumption)), r14.2.ck hW⟩
                  | exact ⟨_, _, rfl, rfl, r15.1.trans (shD h1 hb hn0 (by assumption)), r15.2.ck hW⟩
                  | exact ⟨_, _, rfl, rfl, r16.1.trans (shD h1 hb hn0 (by assumption)), r16.2.ck hW⟩
                  | exact ⟨_, _, rfl, rfl, r17.1.trans (shD h1 hb hn0 (by assumption)), r17.2.ck hW⟩
                  | exact ⟨_, _, rfl, rfl, r18.1.trans (shD h1 hb hn0 (by assumption)), r18.2.ck hW⟩
                  | exact ⟨_, _, rfl, rfl, r19.1.trans (shD h1 hb hn0 (by assumption)), r19.2.ck hW⟩
                  | exact ⟨_, _, rfl, rfl, r20.1.trans (shD h1 hb hn0 (by assumption)), r20.2.ck hW⟩
                  | exact ⟨_, _, rfl, rfl, r22.1.trans (shD h1 hb hn0 (by assumption)), r22.2.ck hW⟩
                  | exact ⟨_, _, rfl, rfl, r23.1.trans (shD h1 hb hn0 (by assumption)), r23.2.ck hW⟩
                  | exact ⟨_, _, rfl, rfl, r24.1.trans (shD h1 hb hn0 (by assumption)), r24.2.ck hW⟩
                  | exact ⟨_, _, rfl, rfl, r25.1.trans (shD h1 hb hn0 (by assumption)), r25.2.ck hW⟩
                  | exact ⟨_, _, rfl, rfl, r26.1.trans (shD h1 hb hn0 (by assumption)), r26.2.ck hW⟩
                  | exact ⟨_, _, rfl, rfl, r27.1.trans (shD h1 hb hn0 (by assumption)), r27.2.ck hW⟩
                  | exact ⟨_, _, rfl, rfl, r28.1.trans (shD h1 hb hn0 (by assumption)), r28.2.ck hW⟩
                  | exact ⟨_, _, rfl, rfl, r29.1.trans (shD h1 hb hn0 (by assumption)), r29.2.ck hW⟩
                  | exact ⟨_, _, rfl, rfl, r30.1.trans (shD h1 hb hn0 (by assumption)), r30.2.ck hW⟩
                  | exact ⟨_, _, rfl, rfl, r31.1.trans (shD h1 hb hn0 (by assumption)), r31.2.ck hW⟩
                  | exact ⟨_, _, rfl, rfl, r32.1.trans (shD h1 hb hn0 (by assumption)), r32.2.ck hW⟩
                  | exact ⟨_, _, rfl, rfl, r33.1.trans (shD h1 hb hn0 (by assumption)), r33.2.ck hW⟩
                  | exact ⟨_, _, rfl, rfl, r34.1.trans (shD h1 hb hn0 (by assumption)), r34.2.ck hW⟩
                  | exact ⟨_, _, rfl, rfl, r35.1.trans (shD h1 hb hn0 (by assumption)), r35.2.ck hW⟩
                  | exact ⟨_, _, rfl, rfl, r36.1.trans (shD h1 hb hn0 (by assumption)), r36.2.ck hW⟩
                  | exact ⟨_, _, rfl, rfl, r37.1.trans (shD h1 hb hn0 (by assumption)), r37.2.ck hW⟩
                  | exact ⟨_, _, rfl, rfl, r38.1.trans (shD h1 hb hn0 (by assumption)), r38.2.ck hW⟩
                  | exact ⟨_, _, rfl, rfl, r39.1.trans (shD h1 hb hn0 (by assumption)), r39.2.ck hW⟩
            · refine x_aload_n hm rfl rfl ?_
              refine x_ldcI hm rfl (v := (-1000007 : Int32)) (by decide +kernel) ?_
              refine x_cVi hm rfl rfl (t7 (by decide +kernel)) (fun v22 M22 r22 => ?_)
              refine x_iret hm rfl rfl (by first | rfl | exact bI_nar | decide) ?_
              first
                | exact ⟨_, _, rfl, rfl, r22.1.trans (shC h1 hb (by assumption)), r22.2.ck hW⟩
                | exact ⟨_, _, rfl, rfl, r1.1.trans (shC h1 hb (by assumption)), r1.2.ck hW⟩
                | exact ⟨_, _, rfl, rfl, r2.1.trans (shC h1 hb (by assumption)), r2.2.ck hW⟩
                | exact ⟨_, _, rfl, rfl, r3.1.trans (shC h1 hb (by assumption)), r3.2.ck hW⟩
                | exact ⟨_, _, rfl, rfl, r4.1.trans (shC h1 hb (by assumption)), r4.2.ck hW⟩
                | exact ⟨_, _, rfl, rfl, r5.1.trans (shC h1 hb (by assumption)), r5.2.ck hW⟩
                | exact ⟨_, _, rfl, rfl, r6.1.trans (shC h1 hb (by assumption)), r6.2.ck hW⟩
                | exact ⟨_, _, rfl, rfl, r7.1.trans (shC h1 hb (by assumption)), r7.2.ck hW⟩
                | exact ⟨_, _, rfl, rfl, r8.1.trans (shC h1 hb (by assumption)), r8.2.ck hW⟩
                | exact ⟨_, _, rfl, rfl, r9.1.trans (shC h1 hb (by assumption)), r9.2.ck hW⟩
                | exact ⟨_, _, rfl, rfl, r10.1.trans (shC h1 hb (by assumption)), r10.2.ck hW⟩
                | exact ⟨_, _, rfl, rfl, r11.1.trans (shC h1 hb (by assumption)), r11.2.ck hW⟩
                | exact ⟨_, _, rfl, rfl, r12.1.trans (shC h1 hb (by assumption)), r12.2.ck hW⟩
                | exact ⟨_, _, rfl, rfl, r13.1.trans (shC h1 hb (by assumption)), r13.2.ck hW⟩
                | exact ⟨_, _, rfl, rfl, r14.1.trans (shC h1 hb (by assumption)), r14.2.ck hW⟩
                | exact ⟨_, _, rfl, rfl, r15.1.trans (shC h1 hb (by assumption)), r15.2.ck hW⟩
                | exact ⟨_, _, rfl, rfl, r16.1.trans (shC h1 hb (by assumption)), r16.2.ck hW⟩
                | exact ⟨_, _, rfl, rfl, r17.1.trans (shC h1 hb (by assumption)), r17.2.ck hW⟩
                | exact ⟨_, _, rfl, rfl, r18.1.trans (shC h1 hb (by assumption)), r18.2.ck hW⟩
                | exact ⟨_, _, rfl, rfl, r19.1.trans (shC h1 hb (by assumption)), r19.2.ck hW⟩
                | exact ⟨_, _, rfl, rfl, r20.1.trans (shC h1 hb (by assumption)), r20.2.ck hW⟩
                | exact ⟨_, _, rfl, rfl, r21.1.trans (shC h1 hb (by assumption)), r21.2.ck hW⟩
                | exact ⟨_, _, rfl, rfl, r23.1.trans (shC h1 hb (by assumption)), r23.2.ck hW⟩
                | exact ⟨_, _, rfl, rfl, r24.1.trans (shC h1 hb (by assumption)), r24.2.ck hW⟩
                | exact ⟨_, _, rfl, rfl, r25.1.trans (shC h1 hb (by assumption)), r25.2.ck hW⟩
                | exact ⟨_, _, rfl, rfl, r26.1.trans (shC h1 hb (by assumption)), r26.2.ck hW⟩
                | exact ⟨_, _, rfl, rfl, r27.1.trans (shC h1 hb (by assumption)), r27.2.ck hW⟩
                | exact ⟨_, _, rfl, rfl, r28.1.trans (shC h1 hb (by assumption)), r28.2.ck hW⟩
                | exact ⟨_, _, rfl, rfl, r29.1.trans (shC h1 hb (by assumption)), r29.2.ck hW⟩
                | exact ⟨_, _, rfl, rfl, r30.1.trans (shC h1 hb (by assumption)), r30.2.ck hW⟩
                | exact ⟨_, _, rfl, rfl, r31.1.trans (shC h1 hb (by assumption)), r31.2.ck hW⟩
                | exact ⟨_, _, rfl, rfl, r32.1.trans (shC h1 hb (by assumption)), r32.2.ck hW⟩
                | exact ⟨_, _, rfl, rfl, r33.1.trans (shC h1 hb (by assumption)), r33.2.ck hW⟩
                | exact ⟨_, _, rfl, rfl, r34.1.trans (shC h1 hb (by assumption)), r34.2.ck hW⟩
                | exact ⟨_, _, rfl, rfl, r35.1.trans (shC h1 hb (by assumption)), r35.2.ck hW⟩
                | exact ⟨_, _, rfl, rfl, r36.1.trans (shC h1 hb (by assumption)), r36.2.ck hW⟩
                | exact ⟨_, _, rfl, rfl, r37.1.trans (shC h1 hb (by assumption)), r37.2.ck hW⟩
                | exact ⟨_, _, rfl, rfl, r38.1.trans (shC h1 hb (by assumption)), r38.2.ck hW⟩
                | exact ⟨_, _, rfl, rfl, r39.1.trans (shC h1 hb (by assumption)), r39.2.ck hW⟩
          · refine x_aload_n hm rfl rfl ?_
            refine x_ldcI hm rfl (v := (-1000001 : Int32)) (by decide +kernel) ?_
            refine x_cVi hm rfl rfl (t7 (by decide +kernel)) (fun v23 M23 r23 => ?_)
            refine x_iret hm rfl rfl (by first | rfl | exact bI_nar | decide) ?_
            first
              | exact ⟨_, _, rfl, rfl, r23.1.trans (shA h1), r23.2.ck hW⟩
              | exact ⟨_, _, rfl, rfl, r23.1.trans (shB h1 (okb_f (by assumption) (by assumption) (by assumption) (by assumption))), r23.2.ck hW⟩
              | exact ⟨_, _, rfl, rfl, r1.1.trans (shA h1), r1.2.ck hW⟩
              | exact ⟨_, _, rfl, rfl, r1.1.trans (shB h1 (okb_f (by assumption) (by assumption) (by assumption) (by assumption))), r1.2.ck hW⟩
              | exact ⟨_, _, rfl, rfl, r2.1.trans (shA h1), r2.2.ck hW⟩
              | exact ⟨_, _, rfl, rfl, r2.1.trans (shB h1 (okb_f (by assumption) (by assumption) (by assumption) (by assumption))), r2.2.ck hW⟩
              | exact ⟨_, _, rfl, rfl, r3.1.trans (shA h1), r3.2.ck hW⟩
              | exact ⟨_, _, rfl, rfl, r3.1.trans (shB h1 (okb_f (by assumption) (by assumption) (by assumption) (by assumption))), r3.2.ck hW⟩
              | exact ⟨_, _, rfl, rfl, r4.1.trans (shA h1), r4.2.ck hW⟩
              | exact ⟨_, _, rfl, rfl, r4.1.trans (shB h1 (okb_f (by assumption) (by assumption) (by assumption) (by assumption))), r4.2.ck hW⟩
              | exact ⟨_, _, rfl, rfl, r5.1.trans (shA h1), r5.2.ck hW⟩
              | exact ⟨_, _, rfl, rfl, r5.1.trans (shB h1 (okb_f (by assumption) (by assumption) (by assumption) (by assumption))), r5.2.ck hW⟩
              | exact ⟨_, _, rfl, rfl, r6.1.trans (shA h1), r6.2.ck hW⟩
              | exact ⟨_, _, rfl, rfl, r6.1.trans (shB h1 (okb_f (by assumption) (by assumption) (by assumption) (by assumption))), r6.2.ck hW⟩
              | exact ⟨_, _, rfl, rfl, r7.1.trans (shA h1), r7.2.ck hW⟩
              | exact ⟨_, _, rfl, rfl, r7.1.trans (shB h1 (okb_f (by assumption) (by assumption) (by assumption) (by assumption))), r7.2.ck hW⟩
              | exact ⟨_, _, rfl, rfl, r8.1.trans (shA h1), r8.2.ck hW⟩
              | exact ⟨_, _, rfl, rfl, r8.1.trans (shB h1 (okb_f (by assumption) (by assumption) (by assumption) (by assumption))), r8.2.ck hW⟩
              | exact ⟨_, _, rfl, rfl, r9.1.trans (shA h1), r9.2.ck hW⟩
              | exact ⟨_, _, rfl, rfl, r9.1.trans (shB h1 (okb_f (by assumption) (by assumption) (by assumption) (by assumption))), r9.2.ck hW⟩
              | exact ⟨_, _, rfl, rfl, r10.1.trans (shA h1), r10.2.ck hW⟩
              | exact ⟨_, _, rfl, rfl, r10.1.trans (shB h1 (okb_f (by assumption) (by assumption) (by assumption) (by assumption))), r10.2.ck hW⟩
              | exact ⟨_, _, rfl, rfl, r11.1.trans (shA h1), r11.2.ck hW⟩
              | exact ⟨_, _, rfl, rfl, r11.1.trans (shB h1 (okb_f (by assumption) (by assumption) (by assumption) (by assumption))), r11.2.ck hW⟩
              | exact ⟨_, _, rfl, rfl, r12.1.trans (shA h1), r12.2.ck hW⟩
              | exact ⟨_, _, rfl, rfl, r12.1.trans (shB h1 (okb_f (by assumption) (by assumption) (by assumption) (by assumption))), r12.2.ck hW⟩
              | exact ⟨_, _, rfl, rfl, r13.1.trans (shA h1), r13.2.ck hW⟩
              | exact ⟨_, _, rfl, rfl, r13.1.trans (shB h1 (okb_f (by assumption) (by assumption) (by assumption) (by assumption))), r13.2.ck hW⟩
              | exact ⟨_, _, rfl, rfl, r14.1.trans (shA h1), r14.2.ck hW⟩
              | exact ⟨_, _, rfl, rfl, r14.1.trans (shB h1 (okb_f (by assumption) (by assumption) (by assumption) (by assumption))), r14.2.ck hW⟩
              | exact ⟨_, _, rfl, rfl, r15.1.trans (shA h1), r15.2.ck hW⟩
              | exact ⟨_, _, rfl, rfl, r15.1.trans (shB h1 (okb_f (by assumption) (by assumption) (by assumption) (by assumption))), r15.2.ck hW⟩
              | exact ⟨_, _, rfl, rfl, r16.1.trans (shA h1), r16.2.ck hW⟩
              | exact ⟨_, _, rfl, rfl, r16.1.trans (shB h1 (okb_f (by assumption) (by assumption) (by assumption) (by assumption))), r16.2.ck hW⟩
              | exact ⟨_, _, rfl, rfl, r17.1.trans (shA h1), r17.2.ck hW⟩
              | exact ⟨_, _, rfl, rfl, r17.1.trans (shB h1 (okb_f (by assumption) (by assumption) (by assumption) (by assumption))), r17.2.ck hW⟩
              | exact ⟨_, _, rfl, rfl, r18.1.trans (shA h1), r18.2.ck hW⟩
              | exact ⟨_, _, rfl, rfl, r18.1.trans (shB h1 (okb_f (by assumption) (by assumption) (by assumption) (by assumption))), r18.2.ck hW⟩
              | exact ⟨_, _, rfl, rfl, r19.1.trans (shA h1), r19.2.ck hW⟩
              | exact ⟨_, _, rfl, rfl, r19.1.trans (shB h1 (okb_f (by assumption) (by assumption) (by assumption) (by assumption))), r19.2.ck hW⟩
              | exact ⟨_, _, rfl, rfl, r20.1.trans (shA h1), r20.2.ck hW⟩
              | exact ⟨_, _, rfl, rfl, r20.1.trans (shB h1 (okb_f (by assumption) (by assumption) (by assumption) (by assumption))), r20.2.ck hW⟩
              | exact ⟨_, _, rfl, rfl, r21.1.trans (shA h1), r21.2.ck hW⟩
              | exact ⟨_, _, rfl, rfl, r21.1.trans (shB h1 (okb_f (by assumption) (by assumption) (by assumption) (by assumption))), r21.2.ck hW⟩
              | exact ⟨_, _, rfl, rfl, r22.1.trans (shA h1), r22.2.ck hW⟩
              | exact ⟨_, _, rfl, rfl, r22.1.trans (shB h1 (okb_f (by assumption) (by assumption) (by assumption) (by assumption))), r22.2.ck hW⟩
              | exact ⟨_, _, rfl, rfl, r24.1.trans (shA h1), r24.2.ck hW⟩
              | exact ⟨_, _, rfl, rfl, r24.1.trans (shB h1 (okb_f (by assumption) (by assumption) (by assumption) (by assumption))), r24.2.ck hW⟩
              | exact ⟨_, _, rfl, rfl, r25.1.trans (shA h1), r25.2.ck hW⟩
              | exact ⟨_, _, rfl, rfl, r25.1.trans (shB h1 (okb_f (by assumption) (by assumption) (by assumption) (by assumption))), r25.2.ck hW⟩
              | exact ⟨_, _, rfl, rfl, r26.1.trans (shA h1), r26.2.ck hW⟩
              | exact ⟨_, _, rfl, rfl, r26.1.trans (shB h1 (okb_f (by assumption) (by assumption) (by assumption) (by assumption))), r26.2.ck hW⟩
              | exact ⟨_, _, rfl, rfl, r27.1.trans (shA h1), r27.2.ck hW⟩
              | exact ⟨_, _, rfl, rfl, r27.1.trans (shB h1 (okb_f (by assumption) (by assumption) (by assumption) (by assumption))), r27.2.ck hW⟩
              | exact ⟨_, _, rfl, rfl, r28.1.trans (shA h1), r28.2.ck hW⟩
              | exact ⟨_, _, rfl, rfl, r28.1.trans (shB h1 (okb_f (by assumption) (by assumption) (by assumption) (by assumption))), r28.2.ck hW⟩
              | exact ⟨_, _, rfl, rfl, r29.1.trans (shA h1), r29.2.ck hW⟩
              | exact ⟨_, _, rfl, rfl, r29.1.trans (shB h1 (okb_f (by assumption) (by assumption) (by assumption) (by assumption))), r29.2.ck hW⟩
              | exact ⟨_, _, rfl, rfl, r30.1.trans (shA h1), r30.2.ck hW⟩
              | exact ⟨_, _, rfl, rfl, r30.1.trans (shB h1 (okb_f (by assumption) (by assumption) (by assumption) (by assumption))), r30.2.ck hW⟩
              | exact ⟨_, _, rfl, rfl, r31.1.trans (shA h1), r31.2.ck hW⟩
              | exact ⟨_, _, rfl, rfl, r31.1.trans (shB h1 (okb_f (by assumption) (by assumption) (by assumption) (by assumption))), r31.2.ck hW⟩
              | exact ⟨_, _, rfl, rfl, r32.1.trans (shA h1), r32.2.ck hW⟩
              | exact ⟨_, _, rfl, rfl, r32.1.trans (shB h1 (okb_f (by assumption) (by assumption) (by assumption) (by assumption))), r32.2.ck hW⟩
              | exact ⟨_, _, rfl, rfl, r33.1.trans (shA h1), r33.2.ck hW⟩
              | exact ⟨_, _, rfl, rfl, r33.1.trans (shB h1 (okb_f (by assumption) (by assumption) (by assumption) (by assumption))), r33.2.ck hW⟩
              | exact ⟨_, _, rfl, rfl, r34.1.trans (shA h1), r34.2.ck hW⟩
              | exact ⟨_, _, rfl, rfl, r34.1.trans (shB h1 (okb_f (by assumption) (by assumption) (by assumption) (by assumption))), r34.2.ck hW⟩
              | exact ⟨_, _, rfl, rfl, r35.1.trans (shA h1), r35.2.ck hW⟩
              | exact ⟨_, _, rfl, rfl, r35.1.trans (shB h1 (okb_f (by assumption) (by assumption) (by assumption) (by assumption))), r35.2.ck hW⟩
              | exact ⟨_, _, rfl, rfl, r36.1.trans (shA h1), r36.2.ck hW⟩
              | exact ⟨_, _, rfl, rfl, r36.1.trans (shB h1 (okb_f (by assumption) (by assumption) (by assumption) (by assumption))), r36.2.ck hW⟩
              | exact ⟨_, _, rfl, rfl, r37.1.trans (shA h1), r37.2.ck hW⟩
              | exact ⟨_, _, rfl, rfl, r37.1.trans (shB h1 (okb_f (by assumption) (by assumption) (by assumption) (by assumption))), r37.2.ck hW⟩
              | exact ⟨_, _, rfl, rfl, r38.1.trans (shA h1), r38.2.ck hW⟩
              | exact ⟨_, _, rfl, rfl, r38.1.trans (shB h1 (okb_f (by assumption) (by assumption) (by assumption) (by assumption))), r38.2.ck hW⟩
              | exact ⟨_, _, rfl, rfl, r39.1.trans (shA h1), r39.2.ck hW⟩
              | exact ⟨_, _, rfl, rfl, r39.1.trans (shB h1 (okb_f (by assumption) (by assumption) (by assumption) (by assumption))), r39.2.ck hW⟩
theorem v234 {a2 a3 w : Int32} (hs : s ≤ 3) : ∀ (n k : Nat) (M1 : mM), 40 - k < n → k ≤ 40 → Sf M M1 → M1 77 s = w → mEv X (QI (fun v M' => v = w ∧ Sf M M')) 234 86 [some (.ref 66), some (.int (nI s)), some (.int a2), some (.int a3), some (.int (nI k))] [] (con M1) := by
  have hm : mMet 234 = some _ := rfl
  intro n
  induction n with
  | zero =>
    intro k M1 hkn hkb hS hw
    omega
  | succ n ih =>
    intro k M1 hkn hkb hS hw
    refine x_iload hm rfl rfl ?_
    refine x_bipush hm rfl (v := nI 40) (by decide) ?_
    refine x_icmp_ge hm rfl (t := 112) rfl (fun h1 => ?_) (fun h1 => ?_)
    · refine x_aload_n hm rfl rfl ?_
      refine x_getf hm rfl (gR rfl rfl) ?_
      refine x_iload_n hm rfl rfl ?_
      refine x_iald hm rfl (lI rfl (by omega) (by decide)) ?_
      refine x_iret hm rfl rfl (by first | rfl | exact bI_nar | decide) ?_
      exact ⟨_, _, rfl, rfl, hw, hS⟩
    · have hk : k < 40 := Nat.lt_of_not_le fun h => h1 (nI_le h (by omega))
      refine x_aload_n hm rfl rfl ?_
      refine x_getf hm rfl (gR rfl rfl) ?_
      refine x_bipush hm rfl (v := nI 40) (by decide) ?_
      refine x_iload_n hm rfl rfl ?_
      refine x_imul hm rfl ?_
      rw [jI_mul]
      refine x_iload hm rfl rfl ?_
      refine x_iadd hm rfl ?_
      rw [jI_add]
      refine x_iconst hm rfl (v := nI 0) (by decide) ?_
      refine x_iast hm rfl (sI rfl (by omega) (by decide)) ?_
      refine x_iinc hm rfl rfl (v := nI 1) (by decide) rfl ?_
      rw [jI_add]
      refine x_goto hm rfl (t := 86) rfl ?_
      exact ih _ _ (by omega) (by omega) (hS.trans Sf.w78) ((mpn (by omega)).trans hw)
theorem u234e {z : Nat} {a2 : Int32} (hI : Inv M) (hs : s ≤ 3) (hz : z ≤ 40) : mEv X (QI (fun v M' => v = (if a2 = 0 then nI 0 else nI z) ∧ Inv M')) 234 61 [some (.ref 66), some (.int (nI s)), some (.int a2), some (.int (nI z)), none] [] (con M) := by
  have hm : mMet 234 = some _ := rfl
  refine x_aload_n hm rfl rfl ?_
  refine x_getf hm rfl (gR rfl rfl) ?_
  refine x_iload_n hm rfl rfl ?_
  refine x_iload_n hm rfl rfl ?_
  refine x_iast hm rfl (sI rfl (by omega) (by decide)) ?_
  refine x_aload_n hm rfl rfl ?_
  refine x_getf hm rfl (gR rfl rfl) ?_
  refine x_iload_n hm rfl rfl ?_
  refine x_iload_n hm rfl rfl ?_
  refine x_if_ne hm rfl (t := 81) rfl (fun h1 => ?_) (fun h1 => ?_)
  · have hv : nI z = if a2 = 0 then nI 0 else nI z := (if_neg h1).symm
    refine x_iload_n hm rfl rfl ?_
    refine x_iast hm rfl (sI rfl (by omega) (by decide)) ?_
    refine x_iconst hm rfl (v := nI 0) (by decide) ?_
    refine x_istore hm rfl rfl ?_
    exact ev_mono (v234 hs _ 0 _ (Nat.lt_succ_self _) (Nat.zero_le _) (Sf.w76.trans (Sf.w77 (okI5 (by omega)))) mp0) (fun r D ⟨v, M2, g1, g2, g3, g4⟩ => ⟨v, M2, g1, g2, g3.trans hv, g4.inv hI⟩)
  · have hv : nI 0 = if a2 = 0 then nI 0 else nI z := (if_pos h1).symm
    refine x_iconst hm rfl (v := nI 0) (by decide) ?_
    refine x_goto hm rfl (t := 82) rfl ?_
    refine x_iast hm rfl (sI rfl (by omega) (by decide)) ?_
    refine x_iconst hm rfl (v := nI 0) (by decide) ?_
    refine x_istore hm rfl rfl ?_
    exact ev_mono (v234 hs _ 0 _ (Nat.lt_succ_self _) (Nat.zero_le _) (Sf.w76.trans (Sf.w77 (okI5 (by omega)))) mp0) (fun r D ⟨v, M2, g1, g2, g3, g4⟩ => ⟨v, M2, g1, g2, g3.trans hv, g4.inv hI⟩)
theorem u234 {a1 a2 a3 : Int32} (hI : Inv M) : ∃ v M', mT X 234 [.ref 66, .int a1, .int a2, .int a3] (con M) (some (.int v)) (con M') ∧ v = shS a1 a2 a3 ∧ Inv M' := by
  refine ti_of (row := _) rfl (Nat.le_of_ble_eq_true rfl) ?_
  have hm : mMet 234 = some _ := rfl
  refine x_iload_n hm rfl rfl ?_
  refine x_callS hm rfl rfl (t210) ?_
  refine x_if_eq hm rfl (t := 29) rfl (fun h1 => ?_) (fun h1 => ?_)
  · refine x_aload_n hm rfl rfl ?_
    refine x_ldcI hm rfl (v := (-1000001 : Int32)) (by decide +kernel) ?_
    refine x_cVi hm rfl rfl (t135 (by decide +kernel)) (fun v2 M2 r2 => ?_)
    refine x_iret hm rfl rfl (by first | rfl | exact bI_nar | decide) ?_
    first
      | exact ⟨_, _, rfl, rfl, r2.1.trans (shA h1), r2.2.inv hI⟩
      | exact ⟨_, _, rfl, rfl, r2.1.trans (shB h1 (okb_f (by assumption) (by assumption) (by assumption) (by assumption))), r2.2.inv hI⟩
      | exact ⟨_, _, rfl, rfl, r1.1.trans (shA h1), r1.2.inv hI⟩
      | exact ⟨_, _, rfl, rfl, r1.1.trans (shB h1 (okb_f (by assumption) (by assumption) (by assumption) (by assumption))), r1.2.inv hI⟩
      | exact ⟨_, _, rfl, rfl, r3.1.trans (shA h1), r3.2.inv hI⟩
      | exact ⟨_, _, rfl, rfl, r3.1.trans (shB h1 (okb_f (by assumption) (by assumption) (by assumption) (by assumption))), r3.2.inv hI⟩
      | exact ⟨_, _, rfl, rfl, r4.1.trans (shA h1), r4.2.inv hI⟩
      | exact ⟨_, _, rfl, rfl, r4.1.trans (shB h1 (okb_f (by assumption) (by assumption) (by assumption) (by assumption))), r4.2.inv hI⟩
      | exact ⟨_, _, rfl, rfl, r5.1.trans (shA h1), r5.2.inv hI⟩
      | exact ⟨_, _, rfl, rfl, r5.1.trans (shB h1 (okb_f (by assumption) (by assumption) (by assumption) (by assumption))), r5.2.inv hI⟩
      | exact ⟨_, _, rfl, rfl, r6.1.trans (shA h1), r6.2.inv hI⟩
      | exact ⟨_, _, rfl, rfl, r6.1.trans (shB h1 (okb_f (by assumption) (by assumption) (by assumption) (by assumption))), r6.2.inv hI⟩
      | exact ⟨_, _, rfl, rfl, r7.1.trans (shA h1), r7.2.inv hI⟩
      | exact ⟨_, _, rfl, rfl, r7.1.trans (shB h1 (okb_f (by assumption) (by assumption) (by assumption) (by assumption))), r7.2.inv hI⟩
      | exact ⟨_, _, rfl, rfl, r8.1.trans (shA h1), r8.2.inv hI⟩
      | exact ⟨_, _, rfl, rfl, r8.1.trans (shB h1 (okb_f (by assumption) (by assumption) (by assumption) (by assumption))), r8.2.inv hI⟩
      | exact ⟨_, _, rfl, rfl, r9.1.trans (shA h1), r9.2.inv hI⟩
      | exact ⟨_, _, rfl, rfl, r9.1.trans (shB h1 (okb_f (by assumption) (by assumption) (by assumption) (by assumption))), r9.2.inv hI⟩
      | exact ⟨_, _, rfl, rfl, r10.1.trans (shA h1), r10.2.inv hI⟩
      | exact ⟨_, _, rfl, rfl, r10.1.trans (shB h1 (okb_f (by assumption) (by assumption) (by assumption) (by assumption))), r10.2.inv hI⟩
      | exact ⟨_, _, rfl, rfl, r11.1.trans (shA h1), r11.2.inv hI⟩
      | exact ⟨_, _, rfl, rfl, r11.1.trans (shB h1 (okb_f (by assumption) (by assumption) (by assumption) (by assumption))), r11.2.inv hI⟩
      | exact ⟨_, _, rfl, rfl, r12.1.trans (shA h1), r12.2.inv hI⟩
      | exact ⟨_, _, rfl, rfl, r12.1.trans (shB h1 (okb_f (by assumption) (by assumption) (by assumption) (by assumption))), r12.2.inv hI⟩
      | exact ⟨_, _, rfl, rfl, r13.1.trans (shA h1), r13.2.inv hI⟩
      | exact ⟨_, _, rfl, rfl, r13.1.trans (shB h1 (okb_f (by assumption) (by assumption) (by assumption) (by assumption))), r13.2.inv hI⟩
      | exact ⟨_, _, rfl, rfl, r14.1.trans (shA h1), r14.2.inv hI⟩
      | exact ⟨_, _, rfl, rfl, r14.1.trans (shB h1 (okb_f (by assumption) (by assumption) (by assumption) (by assumption))), r14.2.inv hI⟩
      | exact ⟨_, _, rfl, rfl, r15.1.trans (shA h1), r15.2.inv hI⟩
      | exact ⟨_, _, rfl, rfl, r15.1.trans (shB h1 (okb_f (by assumption) (by assumption) (by assumption) (by assumption))), r15.2.inv hI⟩
      | exact ⟨_, _, rfl, rfl, r16.1.trans (shA h1), r16.2.inv hI⟩
      | exact ⟨_, _, rfl, rfl, r16.1.trans (shB h1 (okb_f (by assumption) (by assumption) (by assumption) (by assumption))), r16.2.inv hI⟩
      | exact ⟨_, _, rfl, rfl, r17.1.trans (shA h1), r17.2.inv hI⟩
      | exact ⟨_, _, rfl, rfl, r17.1.trans (shB h1 (okb_f (by assumption) (by assumption) (by assumption) (by assumption))), r17.2.inv hI⟩
      | exact ⟨_, _, rfl, rfl, r18.1.trans (shA h1), r18.2.inv hI⟩
      | exact ⟨_, _, rfl, rfl, r18.1.trans (shB h1 (okb_f (by assumption) (by assumption) (by assumption) (by assumption))), r18.2.inv hI⟩
      | exact ⟨_, _, rfl, rfl, r19.1.trans (shA h1), r19.2.inv hI⟩
      | exact ⟨_, _, rfl, rfl, r19.1.trans (shB h1 (okb_f (by assumption) (by assumption) (by assumption) (by assumption))), r19.2.inv hI⟩
      | exact ⟨_, _, rfl, rfl, r20.1.trans (shA h1), r20.2.inv hI⟩
      | exact ⟨_, _, rfl, rfl, r20.1.trans (shB h1 (okb_f (by assumption) (by assumption) (by assumption) (by assumption))), r20.2.inv hI⟩
      | exact ⟨_, _, rfl, rfl, r21.1.trans (shA h1), r21.2.inv hI⟩
      | exact ⟨_, _, rfl, rfl, r21.1.trans (shB h1 (okb_f (by assumption) (by assumption) (by assumption) (by assumption))), r21.2.inv hI⟩
      | exact ⟨_, _, rfl, rfl, r22.1.trans (shA h1), r22.2.inv hI⟩
      | exact ⟨_, _, rfl, rfl, r22.1.trans (shB h1 (okb_f (by assumption) (by assumption) (by assumption) (by assumption))), r22.2.inv hI⟩
      | exact ⟨_, _, rfl, rfl, r23.1.trans (shA h1), r23.2.inv hI⟩
      | exact ⟨_, _, rfl, rfl, r23.1.trans (shB h1 (okb_f (by assumption) (by assumption) (by assumption) (by assumption))), r23.2.inv hI⟩
      | exact ⟨_, _, rfl, rfl, r24.1.trans (shA h1), r24.2.inv hI⟩
      | exact ⟨_, _, rfl, rfl, r24.1.trans (shB h1 (okb_f (by assumption) (by assumption) (by assumption) (by assumption))), r24.2.inv hI⟩
      | exact ⟨_, _, rfl, rfl, r25.1.trans (shA h1), r25.2.inv hI⟩
      | exact ⟨_, _, rfl, rfl, r25.1.trans (shB h1 (okb_f (by assumption) (by assumption) (by assumption) (by assumption))), r25.2.inv hI⟩
      | exact ⟨_, _, rfl, rfl, r26.1.trans (shA h1), r26.2.inv hI⟩
      | exact ⟨_, _, rfl, rfl, r26.1.trans (shB h1 (okb_f (by assumption) (by assumption) (by assumption) (by assumption))), r26.2.inv hI⟩
      | exact ⟨_, _, rfl, rfl, r27.1.trans (shA h1), r27.2.inv hI⟩
      | exact ⟨_, _, rfl, rfl, r27.1.trans (shB h1 (okb_f (by assumption) (by assumption) (by assumption) (by assumption))), r27.2.inv hI⟩
      | exact ⟨_, _, rfl, rfl, r28.1.trans (shA h1), r28.2.inv hI⟩
      | exact ⟨_, _, rfl, rfl, r28.1.trans (shB h1 (okb_f (by assumption) (by assumption) (by assumption) (by assumption))), r28.2.inv hI⟩
      | exact ⟨_, _, rfl, rfl, r29.1.trans (shA h1), r29.2.inv hI⟩
      | exact ⟨_, _, rfl, rfl, r29.1.trans (shB h1 (okb_f (by assumption) (by assumption) (by assumption) (by assumption))), r29.2.inv hI⟩
      | exact ⟨_, _, rfl, rfl, r30.1.trans (shA h1), r30.2.inv hI⟩
      | exact ⟨_, _, rfl, rfl, r30.1.trans (shB h1 (okb_f (by assumption) (by assumption) (by assumption) (by assumption))), r30.2.inv hI⟩
      | exact ⟨_, _, rfl, rfl, r31.1.trans (shA h1), r31.2.inv hI⟩
      | exact ⟨_, _, rfl, rfl, r31.1.trans (shB h1 (okb_f (by assumption) (by assumption) (by assumption) (by assumption))), r31.2.inv hI⟩
      | exact ⟨_, _, rfl, rfl, r32.1.trans (shA h1), r32.2.inv hI⟩
      | exact ⟨_, _, rfl, rfl, r32.1.trans (shB h1 (okb_f (by assumption) (by assumption) (by assumption) (by assumption))), r32.2.inv hI⟩
      | exact ⟨_, _, rfl, rfl, r33.1.trans (shA h1), r33.2.inv hI⟩
      | exact ⟨_, _, rfl, rfl, r33.1.trans (shB h1 (okb_f (by assumption) (by assumption) (by assumption) (by assumption))), r33.2.inv hI⟩
      | exact ⟨_, _, rfl, rfl, r34.1.trans (shA h1), r34.2.inv hI⟩
      | exact ⟨_, _, rfl, rfl, r34.1.trans (shB h1 (okb_f (by assumption) (by assumption) (by assumption) (by assumption))), r34.2.inv hI⟩
      | exact ⟨_, _, rfl, rfl, r35.1.trans (shA h1), r35.2.inv hI⟩
      | exact ⟨_, _, rfl, rfl, r35.1.trans (shB h1 (okb_f (by assumption) (by assumption) (by assumption) (by assumption))), r35.2.inv hI⟩
      | exact ⟨_, _, rfl, rfl, r36.1.trans (shA h1), r36.2.inv hI⟩
      | exact ⟨_, _, rfl, rfl, r36.1.trans (shB h1 (okb_f (by assumption) (by assumption) (by assumption) (by assumption))), r36.2.inv hI⟩
      | exact ⟨_, _, rfl, rfl, r37.1.trans (shA h1), r37.2.inv hI⟩
      | exact ⟨_, _, rfl, rfl, r37.1.trans (shB h1 (okb_f (by assumption) (by assumption) (by assumption) (by assumption))), r37.2.inv hI⟩
      | exact ⟨_, _, rfl, rfl, r38.1.trans (shA h1), r38.2.inv hI⟩
      | exact ⟨_, _, rfl, rfl, r38.1.trans (shB h1 (okb_f (by assumption) (by assumption) (by assumption) (by assumption))), r38.2.inv hI⟩
      | exact ⟨_, _, rfl, rfl, r39.1.trans (shA h1), r39.2.inv hI⟩
      | exact ⟨_, _, rfl, rfl, r39.1.trans (shB h1 (okb_f (by assumption) (by assumption) (by assumption) (by assumption))), r39.2.inv hI⟩
  · refine x_iload_n hm rfl rfl ?_
    refine x_if_eq hm rfl (t := 36) rfl (fun h3 => ?_) (fun h3 => ?_)
    · have hb := okb_t (Or.inl h3)
      refine x_iload_n hm rfl rfl ?_
      refine x_if_ge hm rfl (t := 48) rfl (fun h4 => ?_) (fun h4 => ?_)
      · have hn0 := h4
        refine x_iload_n hm rfl rfl ?_
        refine x_bipush hm rfl (v := nI 40) (by decide) ?_
        refine x_icmp_le hm rfl (t := 61) rfl (fun h5 => ?_) (fun h5 => ?_)
        · have hn4 := h5
          obtain ⟨z, hz, hz3⟩ : ∃ z, z ≤ 40 ∧ a3 = nI z := by
            obtain ⟨z, hz, e⟩ := jI_of (v := a3) (fun q => Int32.not_lt.mpr hn0 q)
            exact ⟨z, (jI_le hz (by decide)).mp (by rw [← e]; exact hn4), e⟩
          obtain ⟨s, hs, hs3⟩ := le_k (by omega) (bI_ne0 h1)
          subst hz3
          subst hs3
          exact ev_mono (u234e hI hs hz) (fun r D ⟨v, M2, g1, g2, g3, g4⟩ => ⟨v, M2, g1, g2, g3.trans (shE h1 hb hn0 hn4), g4⟩)
        · refine x_aload_n hm rfl rfl ?_
          refine x_ldcI hm rfl (v := (-1000001 : Int32)) (by decide +kernel) ?_
          refine x_cVi hm rfl rfl (t135 (by decide +kernel)) (fun v6 M6 r6 => ?_)
          refine x_iret hm rfl rfl (by first | rfl | exact bI_nar | decide) ?_
          first
            | exact ⟨_, _, rfl, rfl, r6.1.trans (shD h1 hb hn0 (by assumption)), r6.2.inv hI⟩
            | exact ⟨_, _, rfl, rfl, r1.1.trans (shD h1 hb hn0 (by assumption)), r1.2.inv hI⟩
            | exact ⟨_, _, rfl, rfl, r2.1.trans (shD h1 hb hn0 (by assumption)), r2.2.inv hI⟩
            | exact ⟨_, _, rfl, rfl, r3.1.trans (shD h1 hb hn0 (by assumption)), r3.2.inv hI⟩
            | exact ⟨_, _, rfl, rfl, r4.1.trans (shD h1 hb hn0 (by assumption)), r4.2.inv hI⟩
            | exact ⟨_, _, rfl, rfl, r5.1.trans (shD h1 hb hn0 (by assumption)), r5.2.inv hI⟩
            | exact ⟨_, _, rfl, rfl, r7.1.trans (shD h1 hb hn0 (by assumption)), r7.2.inv hI⟩
            | exact ⟨_, _, rfl, rfl, r8.1.trans (shD h1 hb hn0 (by assumption)), r8.2.inv hI⟩
            | exact ⟨_, _, rfl, rfl, r9.1.trans (shD h1 hb hn0 (by assumption)), r9.2.inv hI⟩
            | exact ⟨_, _, rfl, rfl, r10.1.trans (shD h1 hb hn0 (by assumption)), r10.2.inv hI⟩
            | exact ⟨_, _, rfl, rfl, r11.1.trans (shD h1 hb hn0 (by assumption)), r11.2.inv hI⟩
            | exact ⟨_, _, rfl, rfl, r12.1.trans (shD h1 hb hn0 (by assumption)), r12.2.inv hI⟩
            | exact ⟨_, _, rfl, rfl, r13.1.trans (shD h1 hb hn0 (by assumption)), r13.2.inv hI⟩
            | exact ⟨_, _, rfl, rfl, r14.1.trans (shD h1 hb hn0 (by assumption)), r14.2.inv hI⟩
            | exact ⟨_, _, rfl, rfl, r15.1.trans (shD h1 hb hn0 (by assumption)), r15.2.inv hI⟩
            | exact ⟨_, _, rfl, rfl, r16.1.trans (shD h1 hb hn0 (by assumption)), r16.2.inv hI⟩
            | exact ⟨_, _, rfl, rfl, r17.1.trans (shD h1 hb hn0 (by assumption)), r17.2.inv hI⟩
            | exact ⟨_, _, rfl, rfl, r18.1.trans (shD h1 hb hn0 (by assumption)), r18.2.inv hI⟩
            | exact ⟨_, _, rfl, rfl, r19.1.trans (shD h1 hb hn0 (by assumption)), r19.2.inv hI⟩
            | exact ⟨_, _, rfl, rfl, r20.1.trans (shD h1 hb hn0 (by assumption)), r20.2.inv hI⟩
            | exact ⟨_, _, rfl, rfl, r21.1.trans (shD h1 hb hn0 (by assumption)), r21.2.inv hI⟩
            | exact ⟨_, _, rfl, rfl, r22.1.trans (shD h1 hb hn0 (by assumption)), r22.2.inv hI⟩
            | exact ⟨_, _, rfl, rfl, r23.1.trans (shD h1 hb hn0 (by assumption)), r23.2.inv hI⟩
            | exact ⟨_, _, rfl, rfl, r24.1.trans (shD h1 hb hn0 (by assumption)), r24.2.inv hI⟩
            | exact ⟨_, _, rfl, rfl, r25.1.trans (shD h1 hb hn0 (by assumption)), r25.2.inv hI⟩
            | exact ⟨_, _, rfl, rfl, r26.1.trans (shD h1 hb hn0 (by assumption)), r26.2.inv hI⟩
            | exact ⟨_, _, rfl, rfl, r27.1.trans (shD h1 hb hn0 (by assumption)), r27.2.inv hI⟩
            | exact ⟨_, _, rfl, rfl, r28.1.trans (shD h1 hb hn0 (by assumption)), r28.2.inv hI⟩
            | exact ⟨_, _, rfl, rfl, r29.1.trans (shD h1 hb hn0 (by assumption)), r29.2.inv hI⟩
            | exact ⟨_, _, rfl, rfl, r30.1.trans (shD h1 hb hn0 (by assumption)), r30.2.inv hI⟩
            | exact ⟨_, _, rfl, rfl, r31.1.trans (shD h1 hb hn0 (by assumption)), r31.2.inv hI⟩
            | exact ⟨_, _, rfl, rfl, r32.1.trans (shD h1 hb hn0 (by assumption)), r32.2.inv hI⟩
            | exact ⟨_, _, rfl, rfl, r33.1.trans (shD h1 hb hn0 (by assumption)), r33.2.inv hI⟩
            | exact ⟨_, _, rfl, rfl, r34.1.trans (shD h1 hb hn0 (by assumption)), r34.2.inv hI⟩
            | exact ⟨_, _, rfl, rfl, r35.1.trans (shD h1 hb hn0 (by assumption)), r35.2.inv hI⟩
            | exact ⟨_, _, rfl, rfl, r36.1.trans (shD h1 hb hn0 (by assumption)), r36.2.inv hI⟩
            | exact ⟨_, _, rfl, rfl, r37.1.trans (shD h1 hb hn0 (by assumption)), r37.2.inv hI⟩
            | exact ⟨_, _, rfl, rfl, r38.1.trans (shD h1 hb hn0 (by assumption)), r38.2.inv hI⟩
            | exact ⟨_, _, rfl, rfl, r39.1.trans (shD h1 hb hn0 (by assumption)), r39.2.inv hI⟩
      · refine x_aload_n hm rfl rfl ?_
        refine x_ldc_wI hm rfl (v := (-1000007 : Int32)) (by decide) ?_
        refine x_cVi hm rfl rfl (t135 (by decide +kernel)) (fun v7 M7 r7 => ?_)
        refine x_iret hm rfl rfl (by first | rfl | exact bI_nar | decide) ?_
        first
          | exact ⟨_, _, rfl, rfl, r7.1.trans (shC h1 hb (by assumption)), r7.2.inv hI⟩
          | exact ⟨_, _, rfl, rfl, r1.1.trans (shC h1 hb (by assumption)), r1.2.inv hI⟩
          | exact ⟨_, _, rfl, rfl, r2.1.trans (shC h1 hb (by assumption)), r2.2.inv hI⟩
          | exact ⟨_, _, rfl, rfl, r3.1.trans (shC h1 hb (by assumption)), r3.2.inv hI⟩
          | exact ⟨_, _, rfl, rfl, r4.1.trans (shC h1 hb (by assumption)), r4.2.inv hI⟩
          | exact ⟨_, _, rfl, rfl, r5.1.trans (shC h1 hb (by assumption)), r5.2.inv hI⟩
          | exact ⟨_, _, rfl, rfl, r6.1.trans (shC h1 hb (by assumption)), r6.2.inv hI⟩
          | exact ⟨_, _, rfl, rfl, r8.1.trans (shC h1 hb (by assumption)), r8.2.inv hI⟩
          | exact ⟨_, _, rfl, rfl, r9.1.trans (shC h1 hb (by assumption)), r9.2.inv hI⟩
          | exact ⟨_, _, rfl, rfl, r10.1.trans (shC h1 hb (by assumption)), r10.2.inv hI⟩
          | exact ⟨_, _, rfl, rfl, r11.1.trans (shC h1 hb (by assumption)), r11.2.inv hI⟩
          | exact ⟨_, _, rfl, rfl, r12.1.trans (shC h1 hb (by assumption)), r12.2.inv hI⟩
          | exact ⟨_, _, rfl, rfl, r13.1.trans (shC h1 hb (by assumption)), r13.2.inv hI⟩
          | exact ⟨_, _, rfl, rfl, r14.1.trans (shC h1 hb (by assumption)), r14.2.inv hI⟩
          | exact ⟨_, _, rfl, rfl, r15.1.trans (shC h1 hb (by assumption)), r15.2.inv hI⟩
          | exact ⟨_, _, rfl, rfl, r16.1.trans (shC h1 hb (by assumption)), r16.2.inv hI⟩
          | exact ⟨_, _, rfl, rfl, r17.1.trans (shC h1 hb (by assumption)), r17.2.inv hI⟩
          | exact ⟨_, _, rfl, rfl, r18.1.trans (shC h1 hb (by assumption)), r18.2.inv hI⟩
          | exact ⟨_, _, rfl, rfl, r19.1.trans (shC h1 hb (by assumption)), r19.2.inv hI⟩
          | exact ⟨_, _, rfl, rfl, r20.1.trans (shC h1 hb (by assumption)), r20.2.inv hI⟩
          | exact ⟨_, _, rfl, rfl, r21.1.trans (shC h1 hb (by assumption)), r21.2.inv hI⟩
          | exact ⟨_, _, rfl, rfl, r22.1.trans (shC h1 hb (by assumption)), r22.2.inv hI⟩
          | exact ⟨_, _, rfl, rfl, r23.1.trans (shC h1 hb (by assumption)), r23.2.inv hI⟩
          | exact ⟨_, _, rfl, rfl, r24.1.trans (shC h1 hb (by assumption)), r24.2.inv hI⟩
          | exact ⟨_, _, rfl, rfl, r25.1.trans (shC h1 hb (by assumption)), r25.2.inv hI⟩
          | exact ⟨_, _, rfl, rfl, r26.1.trans (shC h1 hb (by assumption)), r26.2.inv hI⟩
          | exact ⟨_, _, rfl, rfl, r27.1.trans (shC h1 hb (by assumption)), r27.2.inv hI⟩
          | exact ⟨_, _, rfl, rfl, r28.1.trans (shC h1 hb (by assumption)), r28.2.inv hI⟩
          | exact ⟨_, _, rfl, rfl, r29.1.trans (shC h1 hb (by assumption)), r29.2.inv hI⟩
          | exact ⟨_, _, rfl, rfl, r30.1.trans (shC h1 hb (by assumption)), r30.2.inv hI⟩
          | exact ⟨_, _, rfl, rfl, r31.1.trans (shC h1 hb (by assumption)), r31.2.inv hI⟩
          | exact ⟨_, _, rfl, rfl, r32.1.trans (shC h1 hb (by assumption)), r32.2.inv hI⟩
          | exact ⟨_, _, rfl, rfl, r33.1.trans (shC h1 hb (by assumption)), r33.2.inv hI⟩
          | exact ⟨_, _, rfl, rfl, r34.1.trans (shC h1 hb (by assumption)), r34.2.inv hI⟩
          | exact ⟨_, _, rfl, rfl, r35.1.trans (shC h1 hb (by assumption)), r35.2.inv hI⟩
          | exact ⟨_, _, rfl, rfl, r36.1.trans (shC h1 hb (by assumption)), r36.2.inv hI⟩
          | exact ⟨_, _, rfl, rfl, r37.1.trans (shC h1 hb (by assumption)), r37.2.inv hI⟩
          | exact ⟨_, _, rfl, rfl, r38.1.trans (shC h1 hb (by assumption)), r38.2.inv hI⟩
          | exact ⟨_, _, rfl, rfl, r39.1.trans (shC h1 hb (by assumption)), r39.2.inv hI⟩
    · refine x_iload_n hm rfl rfl ?_
      refine x_bipush hm rfl (v := nI 8) (by decide) ?_
      refine x_icmp_eq hm rfl (t := 36) rfl (fun h8 => ?_) (fun h8 => ?_)
      · have hb := okb_t (Or.inr (Or.inl h8))
        refine x_iload_n hm rfl rfl ?_
        refine x_if_ge hm rfl (t := 48) rfl (fun h9 => ?_) (fun h9 => ?_)
        · have hn0 := h9
          refine x_iload_n hm rfl rfl ?_
          refine x_bipush hm rfl (v := nI 40) (by decide) ?_
          refine x_icmp_le hm rfl (t := 61) rfl (fun h10 => ?_) (fun h10 => ?_)
          · have hn4 := h10
            obtain ⟨z, hz, hz3⟩ : ∃ z, z ≤ 40 ∧ a3 = nI z := by
              obtain ⟨z, hz, e⟩ := jI_of (v := a3) (fun q => Int32.not_lt.mpr hn0 q)
              exact ⟨z, (jI_le hz (by decide)).mp (by rw [← e]; exact hn4), e⟩
            obtain ⟨s, hs, hs3⟩ := le_k (by omega) (bI_ne0 h1)
            subst hz3
            subst hs3
            exact ev_mono (u234e hI hs hz) (fun r D ⟨v, M2, g1, g2, g3, g4⟩ => ⟨v, M2, g1, g2, g3.trans (shE h1 hb hn0 hn4), g4⟩)
          · refine x_aload_n hm rfl rfl ?_
            refine x_ldcI hm rfl (v := (-1000001 : Int32)) (by decide +kernel) ?_
            refine x_cVi hm rfl rfl (t135 (by decide +kernel)) (fun v11 M11 r11 => ?_)
            refine x_iret hm rfl rfl (by first | rfl | exact bI_nar | decide) ?_
            first
              | exact ⟨_, _, rfl, rfl, r11.1.trans (shD h1 hb hn0 (by assumption)), r11.2.inv hI⟩
              | exact ⟨_, _, rfl, rfl, r1.1.trans (shD h1 hb hn0 (by assumption)), r1.2.inv hI⟩
              | exact ⟨_, _, rfl, rfl, r2.1.trans (shD h1 hb hn0 (by assumption)), r2.2.inv hI⟩
              | exact ⟨_, _, rfl, rfl, r3.1.trans (shD h1 hb hn0 (by assumption)), r3.2.inv hI⟩
              | exact ⟨_, _, rfl, rfl, r4.1.trans (shD h1 hb hn0 (by assumption)), r4.2.inv hI⟩
              | exact ⟨_, _, rfl, rfl, r5.1.trans (shD h1 hb hn0 (by assumption)), r5.2.inv hI⟩
              | exact ⟨_, _, rfl, rfl, r6.1.trans (shD h1 hb hn0 (by assumption)), r6.2.inv hI⟩
              | exact ⟨_, _, rfl, rfl, r7.1.trans (shD h1 hb hn0 (by assumption)), r7.2.inv hI⟩
              | exact ⟨_, _, rfl, rfl, r8.1.trans (shD h1 hb hn0 (by assumption)), r8.2.inv hI⟩
              | exact ⟨_, _, rfl, rfl, r9.1.trans (shD h1 hb hn0 (by assumption)), r9.2.inv hI⟩
              | exact ⟨_, _, rfl, rfl, r10.1.trans (shD h1 hb hn0 (by assumption)), r10.2.inv hI⟩
              | exact ⟨_, _, rfl, rfl, r12.1.trans (shD h1 hb hn0 (by assumption)), r12.2.inv hI⟩
              | exact ⟨_, _, rfl, rfl, r13.1.trans (shD h1 hb hn0 (by assumption)), r13.2.inv hI⟩
              | exact ⟨_, _, rfl, rfl, r14.1.trans (shD h1 hb hn0 (by assumption)), r14.2.inv hI⟩
              | exact ⟨_, _, rfl, rfl, r15.1.trans (shD h1 hb hn0 (by assumption)), r15.2.inv hI⟩
              | exact ⟨_, _, rfl, rfl, r16.1.trans (shD h1 hb hn0 (by assumption)), r16.2.inv hI⟩
              | exact ⟨_, _, rfl, rfl, r17.1.trans (shD h1 hb hn0 (by assumption)), r17.2.inv hI⟩
              | exact ⟨_, _, rfl, rfl, r18.1.trans (shD h1 hb hn0 (by assumption)), r18.2.inv hI⟩
              | exact ⟨_, _, rfl, rfl, r19.1.trans (shD h1 hb hn0 (by assumption)), r19.2.inv hI⟩
              | exact ⟨_, _, rfl, rfl, r20.1.trans (shD h1 hb hn0 (by assumption)), r20.2.inv hI⟩
              | exact ⟨_, _, rfl, rfl, r21.1.trans (shD h1 hb hn0 (by assumption)), r21.2.inv hI⟩
              | exact ⟨_, _, rfl, rfl, r22.1.trans (shD h1 hb hn0 (by assumption)), r22.2.inv hI⟩
              | exact ⟨_, _, rfl, rfl, r23.1.trans (shD h1 hb hn0 (by assumption)), r23.2.inv hI⟩
              | exact ⟨_, _, rfl, rfl, r24.1.trans (shD h1 hb hn0 (by assumption)), r24.2.inv hI⟩
              | exact ⟨_, _, rfl, rfl, r25.1.trans (shD h1 hb hn0 (by assumption)), r25.2.inv hI⟩
              | exact ⟨_, _, rfl, rfl, r26.1.trans (shD h1 hb hn0 (by assumption)), r26.2.inv hI⟩
              | exact ⟨_, _, rfl, rfl, r27.1.trans (shD h1 hb hn0 (by assumption)), r27.2.inv hI⟩
              | exact ⟨_, _, rfl, rfl, r28.1.trans (shD h1 hb hn0 (by assumption)), r28.2.inv hI⟩
              | exact ⟨_, _, rfl, rfl, r29.1.trans (shD h1 hb hn0 (by assumption)), r29.2.inv hI⟩
              | exact ⟨_, _, rfl, rfl, r30.1.trans (shD h1 hb hn0 (by assumption)), r30.2.inv hI⟩
              | exact ⟨_, _, rfl, rfl, r31.1.trans (shD h1 hb hn0 (by assumption)), r31.2.inv hI⟩
              | exact ⟨_, _, rfl, rfl, r32.1.trans (shD h1 hb hn0 (by assumption)), r32.2.inv hI⟩
              | exact ⟨_, _, rfl, rfl, r33.1.trans (shD h1 hb hn0 (by assumption)), r33.2.inv hI⟩
              | exact ⟨_, _, rfl, rfl, r34.1.trans (shD h1 hb hn0 (by assumption)), r34.2.inv hI⟩
              | exact ⟨_, _, rfl, rfl, r35.1.trans (shD h1 hb hn0 (by assumption)), r35.2.inv hI⟩
              | exact ⟨_, _, rfl, rfl, r36.1.trans (shD h1 hb hn0 (by assumption)), r36.2.inv hI⟩
              | exact ⟨_, _, rfl, rfl, r37.1.trans (shD h1 hb hn0 (by assumption)), r37.2.inv hI⟩
              | exact ⟨_, _, rfl, rfl, r38.1.trans (shD h1 hb hn0 (by assumption)), r38.2.inv hI⟩
              | exact ⟨_, _, rfl, rfl, r39.1.trans (shD h1 hb hn0 (by assumption)), r39.2.inv hI⟩
        · refine x_aload_n hm rfl rfl ?_
          refine x_ldc_wI hm rfl (v := (-1000007 : Int32)) (by decide) ?_
          refine x_cVi hm rfl rfl (t135 (by decide +kernel)) (fun v12 M12 r12 => ?_)
          refine x_iret hm rfl rfl (by first | rfl | exact bI_nar | decide) ?_
          first
            | exact ⟨_, _, rfl, rfl, r12.1.trans (shC h1 hb (by assumption)), r12.2.inv hI⟩
            | exact ⟨_, _, rfl, rfl, r1.1.trans (shC h1 hb (by assumption)), r1.2.inv hI⟩
            | exact ⟨_, _, rfl, rfl, r2.1.trans (shC h1 hb (by assumption)), r2.2.inv hI⟩
            | exact ⟨_, _, rfl, rfl, r3.1.trans (shC h1 hb (by assumption)), r3.2.inv hI⟩
            | exact ⟨_, _, rfl, rfl, r4.1.trans (shC h1 hb (by assumption)), r4.2.inv hI⟩
            | exact ⟨_, _, rfl, rfl, r5.1.trans (shC h1 hb (by assumption)), r5.2.inv hI⟩
            | exact ⟨_, _, rfl, rfl, r6.1.trans (shC h1 hb (by assumption)), r6.2.inv hI⟩
            | exact ⟨_, _, rfl, rfl, r7.1.trans (shC h1 hb (by assumption)), r7.2.inv hI⟩
            | exact ⟨_, _, rfl, rfl, r8.1.trans (shC h1 hb (by assumption)), r8.2.inv hI⟩
            | exact ⟨_, _, rfl, rfl, r9.1.trans (shC h1 hb (by assumption)), r9.2.inv hI⟩
            | exact ⟨_, _, rfl, rfl, r10.1.trans (shC h1 hb (by assumption)), r10.2.inv hI⟩
            | exact ⟨_, _, rfl, rfl, r11.1.trans (shC h1 hb (by assumption)), r11.2.inv hI⟩
            | exact ⟨_, _, rfl, rfl, r13.1.trans (shC h1 hb (by assumption)), r13.2.inv hI⟩
            | exact ⟨_, _, rfl, rfl, r14.1.trans (shC h1 hb (by assumption)), r14.2.inv hI⟩
            | exact ⟨_, _, rfl, rfl, r15.1.trans (shC h1 hb (by assumption)), r15.2.inv hI⟩
            | exact ⟨_, _, rfl, rfl, r16.1.trans (shC h1 hb (by assumption)), r16.2.inv hI⟩
            | exact ⟨_, _, rfl, rfl, r17.1.trans (shC h1 hb (by assumption)), r17.2.inv hI⟩
            | exact ⟨_, _, rfl, rfl, r18.1.trans (shC h1 hb (by assumption)), r18.2.inv hI⟩
            | exact ⟨_, _, rfl, rfl, r19.1.trans (shC h1 hb (by assumption)), r19.2.inv hI⟩
            | exact ⟨_, _, rfl, rfl, r20.1.trans (shC h1 hb (by assumption)), r20.2.inv hI⟩
            | exact ⟨_, _, rfl, rfl, r21.1.trans (shC h1 hb (by assumption)), r21.2.inv hI⟩
            | exact ⟨_, _, rfl, rfl, r22.1.trans (shC h1 hb (by assumption)), r22.2.inv hI⟩
            | exact ⟨_, _, rfl, rfl, r23.1.trans (shC h1 hb (by assumption)), r23.2.inv hI⟩
            | exact ⟨_, _, rfl, rfl, r24.1.trans (shC h1 hb (by assumption)), r24.2.inv hI⟩
            | exact ⟨_, _, rfl, rfl, r25.1.trans (shC h1 hb (by assumption)), r25.2.inv hI⟩
            | exact ⟨_, _, rfl, rfl, r26.1.trans (shC h1 hb (by assumption)), r26.2.inv hI⟩
            | exact ⟨_, _, rfl, rfl, r27.1.trans (shC h1 hb (by assumption)), r27.2.inv hI⟩
            | exact ⟨_, _, rfl, rfl, r28.1.trans (shC h1 hb (by assumption)), r28.2.inv hI⟩
            | exact ⟨_, _, rfl, rfl, r29.1.trans (shC h1 hb (by assumption)), r29.2.inv hI⟩
            | exact ⟨_, _, rfl, rfl, r30.1.trans (shC h1 hb (by assumption)), r30.2.inv hI⟩
            | exact ⟨_, _, rfl, rfl, r31.1.trans (shC h1 hb (by assumption)), r31.2.inv hI⟩
            | exact ⟨_, _, rfl, rfl, r32.1.trans (shC h1 hb (by assumption)), r32.2.inv hI⟩
            | exact ⟨_, _, rfl, rfl, r33.1.trans (shC h1 hb (by assumption)), r33.2.inv hI⟩
            | exact ⟨_, _, rfl, rfl, r34.1.trans (shC h1 hb (by assumption)), r34.2.inv hI⟩
            | exact ⟨_, _, rfl, rfl, r35.1.trans (shC h1 hb (by assumption)), r35.2.inv hI⟩
            | exact ⟨_, _, rfl, rfl, r36.1.trans (shC h1 hb (by assumption)), r36.2.inv hI⟩
            | exact ⟨_, _, rfl, rfl, r37.1.trans (shC h1 hb (by assumption)), r37.2.inv hI⟩
            | exact ⟨_, _, rfl, rfl, r38.1.trans (shC h1 hb (by assumption)), r38.2.inv hI⟩
            | exact ⟨_, _, rfl, rfl, r39.1.trans (shC h1 hb (by assumption)), r39.2.inv hI⟩
      · refine x_iload_n hm rfl rfl ?_
        refine x_bipush hm rfl (v := nI 16) (by decide) ?_
        refine x_icmp_eq hm rfl (t := 36) rfl (fun h13 => ?_) (fun h13 => ?_)
        · have hb := okb_t (Or.inr (Or.inr (Or.inl h13)))
          refine x_iload_n hm rfl rfl ?_
          refine x_if_ge hm rfl (t := 48) rfl (fun h14 => ?_) (fun h14 => ?_)
          · have hn0 := h14
            refine x_iload_n hm rfl rfl ?_
            refine x_bipush hm rfl (v := nI 40) (by decide) ?_
            refine x_icmp_le hm rfl (t := 61) rfl (fun h15 => ?_) (fun h15 => ?_)
            · have hn4 := h15
              obtain ⟨z, hz, hz3⟩ : ∃ z, z ≤ 40 ∧ a3 = nI z := by
                obtain ⟨z, hz, e⟩ := jI_of (v := a3) (fun q => Int32.not_lt.mpr hn0 q)
                exact ⟨z, (jI_le hz (by decide)).mp (by rw [← e]; exact hn4), e⟩
              obtain ⟨s, hs, hs3⟩ := le_k (by omega) (bI_ne0 h1)
              subst hz3
              subst hs3
              exact ev_mono (u234e hI hs hz) (fun r D ⟨v, M2, g1, g2, g3, g4⟩ => ⟨v, M2, g1, g2, g3.trans (shE h1 hb hn0 hn4), g4⟩)
            · refine x_aload_n hm rfl rfl ?_
              refine x_ldcI hm rfl (v := (-1000001 : Int32)) (by decide +kernel) ?_
              refine x_cVi hm rfl rfl (t135 (by decide +kernel)) (fun v16 M16 r16 => ?_)
              refine x_iret hm rfl rfl (by first | rfl | exact bI_nar | decide) ?_
              first
                | exact ⟨_, _, rfl, rfl, r16.1.trans (shD h1 hb hn0 (by assumption)), r16.2.inv hI⟩
                | exact ⟨_, _, rfl, rfl, r1.1.trans (shD h1 hb hn0 (by assumption)), r1.2.inv hI⟩
                | exact ⟨_, _, rfl, rfl, r2.1.trans (shD h1 hb hn0 (by assumption)), r2.2.inv hI⟩
                | exact ⟨_, _, rfl, rfl, r3.1.trans (shD h1 hb hn0 (by assumption)), r3.2.inv hI⟩
                | exact ⟨_, _, rfl, rfl, r4.1.trans (shD h1 hb hn0 (by assumption)), r4.2.inv hI⟩
                | exact ⟨_, _, rfl, rfl, r5.1.trans (shD h1 hb hn0 (by assumption)), r5.2.inv hI⟩
                | exact ⟨_, _, rfl, rfl, r6.1.trans (shD h1 hb hn0 (by assumption)), r6.2.inv hI⟩
                | exact ⟨_, _, rfl, rfl, r7.1.trans (shD h1 hb hn0 (by assumption)), r7.2.inv hI⟩
                | exact ⟨_, _, rfl, rfl, r8.1.trans (shD h1 hb hn0 (by assumption)), r8.2.inv hI⟩
                | exact ⟨_, _, rfl, rfl, r9.1.trans (shD h1 hb hn0 (by assumption)), r9.2.inv hI⟩
                | exact ⟨_, _, rfl, rfl, r10.1.trans (shD h1 hb hn0 (by assumption)), r10.2.inv hI⟩
                | exact ⟨_, _, rfl, rfl, r11.1.trans (shD h1 hb hn0 (by assumption)), r11.2.inv hI⟩
                | exact ⟨_, _, rfl, rfl, r12.1.trans (shD h1 hb hn0 (by assumption)), r12.2.inv hI⟩
                | exact ⟨_, _, rfl, rfl, r13.1.trans (shD h1 hb hn0 (by assumption)), r13.2.inv hI⟩
                | exact ⟨_, _, rfl, rfl, r14.1.trans (shD h1 hb hn0 (by assumption)), r14.2.inv hI⟩
                | exact ⟨_, _, rfl, rfl, r15.1.trans (shD h1 hb hn0 (by assumption)), r15.2.inv hI⟩
                | exact ⟨_, _, rfl, rfl, r17.1.trans (shD h1 hb hn0 (by assumption)), r17.2.inv hI⟩
                | exact ⟨_, _, rfl, rfl, r18.1.trans (shD h1 hb hn0 (by assumption)), r18.2.inv hI⟩
                | exact ⟨_, _, rfl, rfl, r19.1.trans (shD h1 hb hn0 (by assumption)), r19.2.inv hI⟩
                | exact ⟨_, _, rfl, rfl, r20.1.trans (shD h1 hb hn0 (by assumption)), r20.2.inv hI⟩
                | exact ⟨_, _, rfl, rfl, r21.1.trans (shD h1 hb hn0 (by assumption)), r21.2.inv hI⟩
                | exact ⟨_, _, rfl, rfl, r22.1.trans (shD h1 hb hn0 (by assumption)), r22.2.inv hI⟩
                | exact ⟨_, _, rfl, rfl, r23.1.trans (shD h1 hb hn0 (by assumption)), r23.2.inv hI⟩
                | exact ⟨_, _, rfl, rfl, r24.1.trans (shD h1 hb hn0 (by assumption)), r24.2.inv hI⟩
                | exact ⟨_, _, rfl, rfl, r25.1.trans (shD h1 hb hn0 (by assumption)), r25.2.inv hI⟩
                | exact ⟨_, _, rfl, rfl, r26.1.trans (shD h1 hb hn0 (by assumption)), r26.2.inv hI⟩
                | exact ⟨_, _, rfl, rfl, r27.1.trans (shD h1 hb hn0 (by assumption)), r27.2.inv hI⟩
                | exact ⟨_, _, rfl, rfl, r28.1.trans (shD h1 hb hn0 (by assumption)), r28.2.inv hI⟩
                | exact ⟨_, _, rfl, rfl, r29.1.trans (shD h1 hb hn0 (by assumption)), r29.2.inv hI⟩
                | exact ⟨_, _, rfl, rfl, r30.1.trans (shD h1 hb hn0 (by assumption)), r30.2.inv hI⟩
                | exact ⟨_, _, rfl, rfl, r31.1.trans (shD h1 hb hn0 (by assumption)), r31.2.inv hI⟩
                | exact ⟨_, _, rfl, rfl, r32.1.trans (shD h1 hb hn0 (by assumption)), r32.2.inv hI⟩
                | exact ⟨_, _, rfl, rfl, r33.1.trans (shD h1 hb hn0 (by assumption)), r33.2.inv hI⟩
                | exact ⟨_, _, rfl, rfl, r34.1.trans (shD h1 hb hn0 (by assumption)), r34.2.inv hI⟩
                | exact ⟨_, _, rfl, rfl, r35.1.trans (shD h1 hb hn0 (by assumption)), r35.2.inv hI⟩
                | exact ⟨_, _, rfl, rfl, r36.1.trans (shD h1 hb hn0 (by assumption)), r36.2.inv hI⟩
                | exact ⟨_, _, rfl, rfl, r37.1.trans (shD h1 hb hn0 (by assumption)), r37.2.inv hI⟩
                | exact ⟨_, _, rfl, rfl, r38.1.trans (shD h1 hb hn0 (by assumption)), r38.2.inv hI⟩
                | exact ⟨_, _, rfl, rfl, r39.1.trans (shD h1 hb hn0 (by assumption)), r39.2.inv hI⟩
          · refine x_aload_n hm rfl rfl ?_
            refine x_ldc_wI hm rfl (v := (-1000007 : Int32)) (by decide) ?_
            refine x_cVi hm rfl rfl (t135 (by decide +kernel)) (fun v17 M17 r17 => ?_)
            refine x_iret hm rfl rfl (by first | rfl | exact bI_nar | decide) ?_
            first
              | exact ⟨_, _, rfl, rfl, r17.1.trans (shC h1 hb (by assumption)), r17.2.inv hI⟩
              | exact ⟨_, _, rfl, rfl, r1.1.trans (shC h1 hb (by assumption)), r1.2.inv hI⟩
              | exact ⟨_, _, rfl, rfl, r2.1.trans (shC h1 hb (by assumption)), r2.2.inv hI⟩
              | exact ⟨_, _, rfl, rfl, r3.1.trans (shC h1 hb (by assumption)), r3.2.inv hI⟩
              | exact ⟨_, _, rfl, rfl, r4.1.trans (shC h1 hb (by assumption)), r4.2.inv hI⟩
              | exact ⟨_, _, rfl, rfl, r5.1.trans (shC h1 hb (by assumption)), r5.2.inv hI⟩
              | exact ⟨_, _, rfl, rfl, r6.1.trans (shC h1 hb (by assumption)), r6.2.inv hI⟩
              | exact ⟨_, _, rfl, rfl, r7.1.trans (shC h1 hb (by assumption)), r7.2.inv hI⟩
              | exact ⟨_, _, rfl, rfl, r8.1.trans (shC h1 hb (by assumption)), r8.2.inv hI⟩
              | exact ⟨_, _, rfl, rfl, r9.1.trans (shC h1 hb (by assumption)), r9.2.inv hI⟩
              | exact ⟨_, _, rfl, rfl, r10.1.trans (shC h1 hb (by assumption)), r10.2.inv hI⟩
              | exact ⟨_, _, rfl, rfl, r11.1.trans (shC h1 hb (by assumption)), r11.2.inv hI⟩
              | exact ⟨_, _, rfl, rfl, r12.1.trans (shC h1 hb (by assumption)), r12.2.inv hI⟩
              | exact ⟨_, _, rfl, rfl, r13.1.trans (shC h1 hb (by assumption)), r13.2.inv hI⟩
              | exact ⟨_, _, rfl, rfl, r14.1.trans (shC h1 hb (by assumption)), r14.2.inv hI⟩
              | exact ⟨_, _, rfl, rfl, r15.1.trans (shC h1 hb (by assumption)), r15.2.inv hI⟩
              | exact ⟨_, _, rfl, rfl, r16.1.trans (shC h1 hb (by assumption)), r16.2.inv hI⟩
              | exact ⟨_, _, rfl, rfl, r18.1.trans (shC h1 hb (by assumption)), r18.2.inv hI⟩
              | exact ⟨_, _, rfl, rfl, r19.1.trans (shC h1 hb (by assumption)), r19.2.inv hI⟩
              | exact ⟨_, _, rfl, rfl, r20.1.trans (shC h1 hb (by assumption)), r20.2.inv hI⟩
              | exact ⟨_, _, rfl, rfl, r21.1.trans (shC h1 hb (by assumption)), r21.2.inv hI⟩
              | exact ⟨_, _, rfl, rfl, r22.1.trans (shC h1 hb (by assumption)), r22.2.inv hI⟩
              | exact ⟨_, _, rfl, rfl, r23.1.trans (shC h1 hb (by assumption)), r23.2.inv hI⟩
              | exact ⟨_, _, rfl, rfl, r24.1.trans (shC h1 hb (by assumption)), r24.2.inv hI⟩
              | exact ⟨_, _, rfl, rfl, r25.1.trans (shC h1 hb (by assumption)), r25.2.inv hI⟩
              | exact ⟨_, _, rfl, rfl, r26.1.trans (shC h1 hb (by assumption)), r26.2.inv hI⟩
              | exact ⟨_, _, rfl, rfl, r27.1.trans (shC h1 hb (by assumption)), r27.2.inv hI⟩
              | exact ⟨_, _, rfl, rfl, r28.1.trans (shC h1 hb (by assumption)), r28.2.inv hI⟩
              | exact ⟨_, _, rfl, rfl, r29.1.trans (shC h1 hb (by assumption)), r29.2.inv hI⟩
              | exact ⟨_, _, rfl, rfl, r30.1.trans (shC h1 hb (by assumption)), r30.2.inv hI⟩
              | exact ⟨_, _, rfl, rfl, r31.1.trans (shC h1 hb (by assumption)), r31.2.inv hI⟩
              | exact ⟨_, _, rfl, rfl, r32.1.trans (shC h1 hb (by assumption)), r32.2.inv hI⟩
              | exact ⟨_, _, rfl, rfl, r33.1.trans (shC h1 hb (by assumption)), r33.2.inv hI⟩
              | exact ⟨_, _, rfl, rfl, r34.1.trans (shC h1 hb (by assumption)), r34.2.inv hI⟩
              | exact ⟨_, _, rfl, rfl, r35.1.trans (shC h1 hb (by assumption)), r35.2.inv hI⟩
              | exact ⟨_, _, rfl, rfl, r36.1.trans (shC h1 hb (by assumption)), r36.2.inv hI⟩
              | exact ⟨_, _, rfl, rfl, r37.1.trans (shC h1 hb (by assumption)), r37.2.inv hI⟩
              | exact ⟨_, _, rfl, rfl, r38.1.trans (shC h1 hb (by assumption)), r38.2.inv hI⟩
              | exact ⟨_, _, rfl, rfl, r39.1.trans (shC h1 hb (by assumption)), r39.2.inv hI⟩
        · refine x_iload_n hm rfl rfl ?_
          refine x_bipush hm rfl (v := nI 32) (by decide) ?_
          refine x_icmp_eq hm rfl (t := 36) rfl (fun h18 => ?_) (fun h18 => ?_)
          · have hb := okb_t (Or.inr (Or.inr (Or.inr h18)))
            refine x_iload_n hm rfl rfl ?_
            refine x_if_ge hm rfl (t := 48) rfl (fun h19 => ?_) (fun h19 => ?_)
            · have hn0 := h19
              refine x_iload_n hm rfl rfl ?_
              refine x_bipush hm rfl (v := nI 40) (by decide) ?_
              refine x_icmp_le hm rfl (t := 61) rfl (fun h20 => ?_) (fun h20 => ?_)
              · have hn4 := h20
                obtain ⟨z, hz, hz3⟩ : ∃ z, z ≤ 40 ∧ a3 = nI z := by
                  obtain ⟨z, hz, e⟩ := jI_of (v := a3) (fun q => Int32.not_lt.mpr hn0 q)
                  exact ⟨z, (jI_le hz (by decide)).mp (by rw [← e]; exact hn4), e⟩
                obtain ⟨s, hs, hs3⟩ := le_k (by omega) (bI_ne0 h1)
                subst hz3
                subst hs3
                exact ev_mono (u234e hI hs hz) (fun r D ⟨v, M2, g1, g2, g3, g4⟩ => ⟨v, M2, g1, g2, g3.trans (shE h1 hb hn0 hn4), g4⟩)
              · refine x_aload_n hm rfl rfl ?_
                refine x_ldcI hm rfl (v := (-1000001 : Int32)) (by decide +kernel) ?_
                refine x_cVi hm rfl rfl (t135 (by decide +kernel)) (fun v21 M21 r21 => ?_)
                refine x_iret hm rfl rfl (by first | rfl | exact bI_nar | decide) ?_
                first
                  | exact ⟨_, _, rfl, rfl, r21.1.trans (shD h1 hb hn0 (by assumption)), r21.2.inv hI⟩
                  | exact ⟨_, _, rfl, rfl, r1.1.trans (shD h1 hb hn0 (by assumption)), r1.2.inv hI⟩
                  | exact ⟨_, _, rfl, rfl, r2.1.trans (shD h1 hb hn0 (by assumption)), r2.2.inv hI⟩
                  | exact ⟨_, _, rfl, rfl, r3.1.trans (shD h1 hb hn0 (by assumption)), r3.2.inv hI⟩
                  | exact ⟨_, _, rfl, rfl, r4.1.trans (shD h1 hb hn0 (by assumption)), r4.2.inv hI⟩
                  | exact ⟨_, _, rfl, rfl, r5.1.trans (shD h1 hb hn0 (by assumption)), r5.2.inv hI⟩
                  | exact ⟨_, _, rfl, rfl, r6.1.trans (shD h1 hb hn0 (by assumption)), r6.2.inv hI⟩
                  | exact ⟨_, _, rfl, rfl, r7.1.trans (shD h1 hb hn0 (by assumption)), r7.2.inv hI⟩
                  | exact ⟨_, _, rfl, rfl, r8.1.trans (shD h1 hb hn0 (by assumption)), r8.2.inv hI⟩
                  | exact ⟨_, _, rfl, rfl, r9.1.trans (shD h1 hb hn0 (by assumption)), r9.2.inv hI⟩
                  | exact ⟨_, _, rfl, rfl, r10.1.trans (shD h1 hb hn0 (by assumption)), r10.2.inv hI⟩
                  | exact ⟨_, _, rfl, rfl, r11.1.trans (shD h1 hb hn0 (by assumption)), r11.2.inv hI⟩
                  | exact ⟨_, _, rfl, rfl, r12.1.trans (shD h1 hb hn0 (by assumption)), r12.2.inv hI⟩
                  | exact ⟨_, _, rfl, rfl, r13.1.trans (shD h1 hb hn0 (by assumption)), r13.2.inv hI⟩
                  | exact ⟨_, _, rfl, rfl, r14.1.trans (shD h1 hb hn0 (by assumption)), r14.2.inv hI⟩
                  | exact ⟨_, _, rfl, rfl, r15.1.trans (shD h1 hb hn0 (by assumption)), r15.2.inv hI⟩
                  | exact ⟨_, _, rfl, rfl, r16.1.trans (shD h1 hb hn0 (by assumption)), r16.2.inv hI⟩
                  | exact ⟨_, _, rfl, rfl, r17.1.trans (shD h1 hb hn0 (by assumption)), r17.2.inv hI⟩
                  | exact ⟨_, _, rfl, rfl, r18.1.trans (shD h1 hb hn0 (by assumption)), r18.2.inv hI⟩
                  | exact ⟨_, _, rfl, rfl, r19.1.trans (shD h1 hb hn0 (by assumption)), r19.2.inv hI⟩
                  | exact ⟨_, _, rfl, rfl, r20.1.trans (shD h1 hb hn0 (by assumption)), r20.2.inv hI⟩
                  | exact ⟨_, _, rfl, rfl, r22.1.trans (shD h1 hb hn0 (by assumption)), r22.2.inv hI⟩
                  | exact ⟨_, _, rfl, rfl, r23.1.trans (shD h1 hb hn0 (by assumption)), r23.2.inv hI⟩
                  | exact ⟨_, _, rfl, rfl, r24.1.trans (shD h1 hb hn0 (by assumption)), r24.2.inv hI⟩
                  | exact ⟨_, _, rfl, rfl, r25.1.trans (shD h1 hb hn0 (by assumption)), r25.2.inv hI⟩
                  | exact ⟨_, _, rfl, rfl, r26.1.trans (shD h1 hb hn0 (by assumption)), r26.2.inv hI⟩
                  | exact ⟨_, _, rfl, rfl, r27.1.trans (shD h1 hb hn0 (by assumption)), r27.2.inv hI⟩
                  | exact ⟨_, _, rfl, rfl, r28.1.trans (shD h1 hb hn0 (by assumption)), r28.2.inv hI⟩
                  | exact ⟨_, _, rfl, rfl, r29.1.trans (shD h1 hb hn0 (by assumption)), r29.2.inv hI⟩
                  | exact ⟨_, _, rfl, rfl, r30.1.trans (shD h1 hb hn0 (by assumption)), r30.2.inv hI⟩
                  | exact ⟨_, _, rfl, rfl, r31.1.trans (shD h1 hb hn0 (by assumption)), r31.2.inv hI⟩
                  | exact ⟨_, _, rfl, rfl, r32.1.trans (shD h1 hb hn0 (by assumption)), r32.2.inv hI⟩
                  | exact ⟨_, _, rfl, rfl, r33.1.trans (shD h1 hb hn0 (by assumption)), r33.2.inv hI⟩
                  | exact ⟨_, _, rfl, rfl, r34.1.trans (shD h1 hb hn0 (by assumption)), r34.2.inv hI⟩
                  | exact ⟨_, _, rfl, rfl, r35.1.trans (shD h1 hb hn0 (by assumption)), r35.2.inv hI⟩
                  | exact ⟨_, _, rfl, rfl, r36.1.trans (shD h1 hb hn0 (by assumption)), r36.2.inv hI⟩
                  | exact ⟨_, _, rfl, rfl, r37.1.trans (shD h1 hb hn0 (by assumption)), r37.2.inv hI⟩
                  | exact ⟨_, _, rfl, rfl, r38.1.trans (shD h1 hb hn0 (by assumption)), r38.2.inv hI⟩
                  | exact ⟨_, _, rfl, rfl, r39.1.trans (shD h1 hb hn0 (by assumption)), r39.2.inv hI⟩
            · refine x_aload_n hm rfl rfl ?_
              refine x_ldc_wI hm rfl (v := (-1000007 : Int32)) (by decide) ?_
              refine x_cVi hm rfl rfl (t135 (by decide +kernel)) (fun v22 M22 r22 => ?_)
              refine x_iret hm rfl rfl (by first | rfl | exact bI_nar | decide) ?_
              first
                | exact ⟨_, _, rfl, rfl, r22.1.trans (shC h1 hb (by assumption)), r22.2.inv hI⟩
                | exact ⟨_, _, rfl, rfl, r1.1.trans (shC h1 hb (by assumption)), r1.2.inv hI⟩
                | exact ⟨_, _, rfl, rfl, r2.1.trans (shC h1 hb (by assumption)), r2.2.inv hI⟩
                | exact ⟨_, _, rfl, rfl, r3.1.trans (shC h1 hb (by assumption)), r3.2.inv hI⟩
                | exact ⟨_, _, rfl, rfl, r4.1.trans (shC h1 hb (by assumption)), r4.2.inv hI⟩
                | exact ⟨_, _, rfl, rfl, r5.1.trans (shC h1 hb (by assumption)), r5.2.inv hI⟩
                | exact ⟨_, _, rfl, rfl, r6.1.trans (shC h1 hb (by assumption)), r6.2.inv hI⟩
                | exact ⟨_, _, rfl, rfl, r7.1.trans (shC h1 hb (by assumption)), r7.2.inv hI⟩
                | exact ⟨_, _, rfl, rfl, r8.1.trans (shC h1 hb (by assumption)), r8.2.inv hI⟩
                | exact ⟨_, _, rfl, rfl, r9.1.trans (shC h1 hb (by assumption)), r9.2.inv hI⟩
                | exact ⟨_, _, rfl, rfl, r10.1.trans (shC h1 hb (by assumption)), r10.2.inv hI⟩
                | exact ⟨_, _, rfl, rfl, r11.1.trans (shC h1 hb (by assumption)), r11.2.inv hI⟩
                | exact ⟨_, _, rfl, rfl, r12.1.trans (shC h1 hb (by assumption)), r12.2.inv hI⟩
                | exact ⟨_, _, rfl, rfl, r13.1.trans (shC h1 hb (by assumption)), r13.2.inv hI⟩
                | exact ⟨_, _, rfl, rfl, r14.1.trans (shC h1 hb (by assumption)), r14.2.inv hI⟩
                | exact ⟨_, _, rfl, rfl, r15.1.trans (shC h1 hb (by assumption)), r15.2.inv hI⟩
                | exact ⟨_, _, rfl, rfl, r16.1.trans (shC h1 hb (by assumption)), r16.2.inv hI⟩
                | exact ⟨_, _, rfl, rfl, r17.1.trans (shC h1 hb (by assumption)), r17.2.inv hI⟩
                | exact ⟨_, _, rfl, rfl, r18.1.trans (shC h1 hb (by assumption)), r18.2.inv hI⟩
                | exact ⟨_, _, rfl, rfl, r19.1.trans (shC h1 hb (by assumption)), r19.2.inv hI⟩
                | exact ⟨_, _, rfl, rfl, r20.1.trans (shC h1 hb (by assumption)), r20.2.inv hI⟩
                | exact ⟨_, _, rfl, rfl, r21.1.trans (shC h1 hb (by assumption)), r21.2.inv hI⟩
                | exact ⟨_, _, rfl, rfl, r23.1.trans (shC h1 hb (by assumption)), r23.2.inv hI⟩
                | exact ⟨_, _, rfl, rfl, r24.1.trans (shC h1 hb (by assumption)), r24.2.inv hI⟩
                | exact ⟨_, _, rfl, rfl, r25.1.trans (shC h1 hb (by assumption)), r25.2.inv hI⟩
                | exact ⟨_, _, rfl, rfl, r26.1.trans (shC h1 hb (by assumption)), r26.2.inv hI⟩
                | exact ⟨_, _, rfl, rfl, r27.1.trans (shC h1 hb (by assumption)), r27.2.inv hI⟩
                | exact ⟨_, _, rfl, rfl, r28.1.trans (shC h1 hb (by assumption)), r28.2.inv hI⟩
                | exact ⟨_, _, rfl, rfl, r29.1.trans (shC h1 hb (by assumption)), r29.2.inv hI⟩
                | exact ⟨_, _, rfl, rfl, r30.1.trans (shC h1 hb (by assumption)), r30.2.inv hI⟩
                | exact ⟨_, _, rfl, rfl, r31.1.trans (shC h1 hb (by assumption)), r31.2.inv hI⟩
                | exact ⟨_, _, rfl, rfl, r32.1.trans (shC h1 hb (by assumption)), r32.2.inv hI⟩
                | exact ⟨_, _, rfl, rfl, r33.1.trans (shC h1 hb (by assumption)), r33.2.inv hI⟩
                | exact ⟨_, _, rfl, rfl, r34.1.trans (shC h1 hb (by assumption)), r34.2.inv hI⟩
                | exact ⟨_, _, rfl, rfl, r35.1.trans (shC h1 hb (by assumption)), r35.2.inv hI⟩
                | exact ⟨_, _, rfl, rfl, r36.1.trans (shC h1 hb (by assumption)), r36.2.inv hI⟩
                | exact ⟨_, _, rfl, rfl, r37.1.trans (shC h1 hb (by assumption)), r37.2.inv hI⟩
                | exact ⟨_, _, rfl, rfl, r38.1.trans (shC h1 hb (by assumption)), r38.2.inv hI⟩
                | exact ⟨_, _, rfl, rfl, r39.1.trans (shC h1 hb (by assumption)), r39.2.inv hI⟩
          · refine x_aload_n hm rfl rfl ?_
            refine x_ldcI hm rfl (v := (-1000001 : Int32)) (by decide +kernel) ?_
            refine x_cVi hm rfl rfl (t135 (by decide +kernel)) (fun v23 M23 r23 => ?_)
            refine x_iret hm rfl rfl (by first | rfl | exact bI_nar | decide) ?_
            first
              | exact ⟨_, _, rfl, rfl, r23.1.trans (shA h1), r23.2.inv hI⟩
              | exact ⟨_, _, rfl, rfl, r23.1.trans (shB h1 (okb_f (by assumption) (by assumption) (by assumption) (by assumption))), r23.2.inv hI⟩
              | exact ⟨_, _, rfl, rfl, r1.1.trans (shA h1), r1.2.inv hI⟩
              | exact ⟨_, _, rfl, rfl, r1.1.trans (shB h1 (okb_f (by assumption) (by assumption) (by assumption) (by assumption))), r1.2.inv hI⟩
              | exact ⟨_, _, rfl, rfl, r2.1.trans (shA h1), r2.2.inv hI⟩
              | exact ⟨_, _, rfl, rfl, r2.1.trans (shB h1 (okb_f (by assumption) (by assumption) (by assumption) (by assumption))), r2.2.inv hI⟩
              | exact ⟨_, _, rfl, rfl, r3.1.trans (shA h1), r3.2.inv hI⟩
              | exact ⟨_, _, rfl, rfl, r3.1.trans (shB h1 (okb_f (by assumption) (by assumption) (by assumption) (by assumption))), r3.2.inv hI⟩
              | exact ⟨_, _, rfl, rfl, r4.1.trans (shA h1), r4.2.inv hI⟩
              | exact ⟨_, _, rfl, rfl, r4.1.trans (shB h1 (okb_f (by assumption) (by assumption) (by assumption) (by assumption))), r4.2.inv hI⟩
              | exact ⟨_, _, rfl, rfl, r5.1.trans (shA h1), r5.2.inv hI⟩
              | exact ⟨_, _, rfl, rfl, r5.1.trans (shB h1 (okb_f (by assumption) (by assumption) (by assumption) (by assumption))), r5.2.inv hI⟩
              | exact ⟨_, _, rfl, rfl, r6.1.trans (shA h1), r6.2.inv hI⟩
              | exact ⟨_, _, rfl, rfl, r6.1.trans (shB h1 (okb_f (by assumption) (by assumption) (by assumption) (by assumption))), r6.2.inv hI⟩
              | exact ⟨_, _, rfl, rfl, r7.1.trans (shA h1), r7.2.inv hI⟩
              | exact ⟨_, _, rfl, rfl, r7.1.trans (shB h1 (okb_f (by assumption) (by assumption) (by assumption) (by assumption))), r7.2.inv hI⟩
              | exact ⟨_, _, rfl, rfl, r8.1.trans (shA h1), r8.2.inv hI⟩
              | exact ⟨_, _, rfl, rfl, r8.1.trans (shB h1 (okb_f (by assumption) (by assumption) (by assumption) (by assumption))), r8.2.inv hI⟩
              | exact ⟨_, _, rfl, rfl, r9.1.trans (shA h1), r9.2.inv hI⟩
              | exact ⟨_, _, rfl, rfl, r9.1.trans (shB h1 (okb_f (by assumption) (by assumption) (by assumption) (by assumption))), r9.2.inv hI⟩
              | exact ⟨_, _, rfl, rfl, r10.1.trans (shA h1), r10.2.inv hI⟩
              | exact ⟨_, _, rfl, rfl, r10.1.trans (shB h1 (okb_f (by assumption) (by assumption) (by assumption) (by assumption))), r10.2.inv hI⟩
              | exact ⟨_, _, rfl, rfl, r11.1.trans (shA h1), r11.2.inv hI⟩
              | exact ⟨_, _, rfl, rfl, r11.1.trans (shB h1 (okb_f (by assumption) (by assumption) (by assumption) (by assumption))), r11.2.inv hI⟩
              | exact ⟨_, _, rfl, rfl, r12.1.trans (shA h1), r12.2.inv hI⟩
              | exact ⟨_, _, rfl, rfl, r12.1.trans (shB h1 (okb_f (by assumption) (by assumption) (by assumption) (by assumption))), r12.2.inv hI⟩
              | exact ⟨_, _, rfl, rfl, r13.1.trans (shA h1), r13.2.inv hI⟩
              | exact ⟨_, _, rfl, rfl, r13.1.trans (shB h1 (okb_f (by assumption) (by assumption) (by assumption) (by assumption))), r13.2.inv hI⟩
              | exact ⟨_, _, rfl, rfl, r14.1.trans (shA h1), r14.2.inv hI⟩
              | exact ⟨_, _, rfl, rfl, r14.1.trans (shB h1 (okb_f (by assumption) (by assumption) (by assumption) (by assumption))), r14.2.inv hI⟩
              | exact ⟨_, _, rfl, rfl, r15.1.trans (shA h1), r15.2.inv hI⟩
              | exact ⟨_, _, rfl, rfl, r15.1.trans (shB h1 (okb_f (by assumption) (by assumption) (by assumption) (by assumption))), r15.2.inv hI⟩
              | exact ⟨_, _, rfl, rfl, r16.1.trans (shA h1), r16.2.inv hI⟩
              | exact ⟨_, _, rfl, rfl, r16.1.trans (shB h1 (okb_f (by assumption) (by assumption) (by assumption) (by assumption))), r16.2.inv hI⟩
              | exact ⟨_, _, rfl, rfl, r17.1.trans (shA h1), r17.2.inv hI⟩
              | exact ⟨_, _, rfl, rfl, r17.1.trans (shB h1 (okb_f (by assumption) (by assumption) (by assumption) (by assumption))), r17.2.inv hI⟩
              | exact ⟨_, _, rfl, rfl, r18.1.trans (shA h1), r18.2.inv hI⟩
              | exact ⟨_, _, rfl, rfl, r18.1.trans (shB h1 (okb_f (by assumption) (by assumption) (by assumption) (by assumption))), r18.2.inv hI⟩
              | exact ⟨_, _, rfl, rfl, r19.1.trans (shA h1), r19.2.inv hI⟩
              | exact ⟨_, _, rfl, rfl, r19.1.trans (shB h1 (okb_f (by assumption) (by assumption) (by assumption) (by assumption))), r19.2.inv hI⟩
              | exact ⟨_, _, rfl, rfl, r20.1.trans (shA h1), r20.2.inv hI⟩
              | exact ⟨_, _, rfl, rfl, r20.1.trans (shB h1 (okb_f (by assumption) (by assumption) (by assumption) (by assumption))), r20.2.inv hI⟩
              | exact ⟨_, _, rfl, rfl, r21.1.trans (shA h1), r21.2.inv hI⟩
              | exact ⟨_, _, rfl, rfl, r21.1.trans (shB h1 (okb_f (by assumption) (by assumption) (by assumption) (by assumption))), r21.2.inv hI⟩
              | exact ⟨_, _, rfl, rfl, r22.1.trans (shA h1), r22.2.inv hI⟩
              | exact ⟨_, _, rfl, rfl, r22.1.trans (shB h1 (okb_f (by assumption) (by assumption) (by assumption) (by assumption))), r22.2.inv hI⟩
              | exact ⟨_, _, rfl, rfl, r24.1.trans (shA h1), r24.2.inv hI⟩
              | exact ⟨_, _, rfl, rfl, r24.1.trans (shB h1 (okb_f (by assumption) (by assumption) (by assumption) (by assumption))), r24.2.inv hI⟩
              | exact ⟨_, _, rfl, rfl, r25.1.trans (shA h1), r25.2.inv hI⟩
              | exact ⟨_, _, rfl, rfl, r25.1.trans (shB h1 (okb_f (by assumption) (by assumption) (by assumption) (by assumption))), r25.2.inv hI⟩
              | exact ⟨_, _, rfl, rfl, r26.1.trans (shA h1), r26.2.inv hI⟩
              | exact ⟨_, _, rfl, rfl, r26.1.trans (shB h1 (okb_f (by assumption) (by assumption) (by assumption) (by assumption))), r26.2.inv hI⟩
              | exact ⟨_, _, rfl, rfl, r27.1.trans (shA h1), r27.2.inv hI⟩
              | exact ⟨_, _, rfl, rfl, r27.1.trans (shB h1 (okb_f (by assumption) (by assumption) (by assumption) (by assumption))), r27.2.inv hI⟩
              | exact ⟨_, _, rfl, rfl, r28.1.trans (shA h1), r28.2.inv hI⟩
              | exact ⟨_, _, rfl, rfl, r28.1.trans (shB h1 (okb_f (by assumption) (by assumption) (by assumption) (by assumption))), r28.2.inv hI⟩
              | exact ⟨_, _, rfl, rfl, r29.1.trans (shA h1), r29.2.inv hI⟩
              | exact ⟨_, _, rfl, rfl, r29.1.trans (shB h1 (okb_f (by assumption) (by assumption) (by assumption) (by assumption))), r29.2.inv hI⟩
              | exact ⟨_, _, rfl, rfl, r30.1.trans (shA h1), r30.2.inv hI⟩
              | exact ⟨_, _, rfl, rfl, r30.1.trans (shB h1 (okb_f (by assumption) (by assumption) (by assumption) (by assumption))), r30.2.inv hI⟩
              | exact ⟨_, _, rfl, rfl, r31.1.trans (shA h1), r31.2.inv hI⟩
              | exact ⟨_, _, rfl, rfl, r31.1.trans (shB h1 (okb_f (by assumption) (by assumption) (by assumption) (by assumption))), r31.2.inv hI⟩
              | exact ⟨_, _, rfl, rfl, r32.1.trans (shA h1), r32.2.inv hI⟩
              | exact ⟨_, _, rfl, rfl, r32.1.trans (shB h1 (okb_f (by assumption) (by assumption) (by assumption) (by assumption))), r32.2.inv hI⟩
              | exact ⟨_, _, rfl, rfl, r33.1.trans (shA h1), r33.2.inv hI⟩
              | exact ⟨_, _, rfl, rfl, r33.1.trans (shB h1 (okb_f (by assumption) (by assumption) (by assumption) (by assumption))), r33.2.inv hI⟩
              | exact ⟨_, _, rfl, rfl, r34.1.trans (shA h1), r34.2.inv hI⟩
              | exact ⟨_, _, rfl, rfl, r34.1.trans (shB h1 (okb_f (by assumption) (by assumption) (by assumption) (by assumption))), r34.2.inv hI⟩
              | exact ⟨_, _, rfl, rfl, r35.1.trans (shA h1), r35.2.inv hI⟩
              | exact ⟨_, _, rfl, rfl, r35.1.trans (shB h1 (okb_f (by assumption) (by assumption) (by assumption) (by assumption))), r35.2.inv hI⟩
              | exact ⟨_, _, rfl, rfl, r36.1.trans (shA h1), r36.2.inv hI⟩
              | exact ⟨_, _, rfl, rfl, r36.1.trans (shB h1 (okb_f (by assumption) (by assumption) (by assumption) (by assumption))), r36.2.inv hI⟩
              | exact ⟨_, _, rfl, rfl, r37.1.trans (shA h1), r37.2.inv hI⟩
              | exact ⟨_, _, rfl, rfl, r37.1.trans (shB h1 (okb_f (by assumption) (by assumption) (by assumption) (by assumption))), r37.2.inv hI⟩
              | exact ⟨_, _, rfl, rfl, r38.1.trans (shA h1), r38.2.inv hI⟩
              | exact ⟨_, _, rfl, rfl, r38.1.trans (shB h1 (okb_f (by assumption) (by assumption) (by assumption) (by assumption))), r38.2.inv hI⟩
              | exact ⟨_, _, rfl, rfl, r39.1.trans (shA h1), r39.2.inv hI⟩
              | exact ⟨_, _, rfl, rfl, r39.1.trans (shB h1 (okb_f (by assumption) (by assumption) (by assumption) (by assumption))), r39.2.inv hI⟩
end SX
end
section
/-! ===== what the town does, over a row of numbers (as the reference has it: 0 day, 1 things, 2 people, 3 draw, 4.. spots, 14.. things, 62.. people) ===== -/
def fo {α : Type} (f : Nat → α → α) : Nat → α → α
  | 0, a => a
  | n + 1, a => f n (fo f n a)
theorem fo_c {α : Type} {f g : Nat → α → α} : ∀ (n : Nat) (a : α), (∀ k x, k < n → f k x = g k x) → fo f n a = fo g n a := by
  intro n
  induction n with
  | zero => intro a _; rfl
  | succ n ih =>
    intro a h
    show f n (fo f n a) = g n (fo g n a)
    rw [ih a fun k x hk => h k x (by omega), h n _ (Nat.lt_succ_self n)]
theorem fo_p {α : Type} {f : Nat → α → α} {P : α → Prop} : ∀ (n : Nat) (a : α), P a → (∀ k x, k < n → P x → P (f k x)) → P (fo f n a) := by
  intro n
  induction n with
  | zero => intro a h _; exact h
  | succ n ih =>
    intro a h hs
    exact hs n _ (Nat.lt_succ_self n) (ih a h fun k x hk hp => hs k x (by omega) hp)
/-- of or under a kind -/
def uo : Nat → Int32 → Int32 → Bool
  | 0, _, _ => false
  | f + 1, k, o => if k < 0 then false else if k = o then true else uo f (ab k) o
/-- one town's envy, by kind: plain, with what a rival adds -/
def sKd (k o th pl ri : Int32) : Int32 :=
  if k = nI 1 then pl / nI 2 else if k = nI 2 then ri else if k = nI 3 then ri - nI 3 else if k = nI 4 then ri - nI 3 + th / nI 100 else if k = nI 5 then nI 2 * pl else if k = nI 6 then (if o < 0 then nI 0 else pl / nI 2) else pl
def mx0 (v : Int32) : Int32 := if nI 0 < v then v else nI 0
def sPl (r : Nat → Int32) (p t : Nat) : Int32 := r (62 + 7 * p + (3 + (r (14 + 6 * t + 0)).toNatClampNeg)) - r (14 + 6 * t + 3)
def sRi (r : Nat → Int32) (o : Int32) (p t : Nat) : Int32 := if ¬ o < 0 ∧ uo 5 (r (62 + 7 * o.toNatClampNeg + 0)) (nI 2) = true then sPl r p t + nI 2 else sPl r p t
/-- envy for a thing with an owner as told, but none for one w -/
def sEnv (r : Nat → Int32) (w o : Int32) (p t : Nat) : Int32 :=
  if o = nI p ∨ r (14 + 6 * t + 2) = 0 ∨ nI p = w then nI 0 else mx0 (sKd (r (62 + 7 * p + 0)) o (r (14 + 6 * t + 2)) (sPl r p t) (sRi r o p t))
def mn2 (x y : Int32) : Int32 := if y < x then y else x
def sWs (r : Nat → Int32) (w : Int32) (t k : Nat) : Int32 := fo (fun p s => s + (if r (62 + 7 * p + 1) = r (14 + 6 * t + 1) then sEnv r w (r (14 + 6 * t + 4)) p t else nI 0)) k (nI 0)
def sWear (r : Nat → Int32) (w : Int32) (np t : Nat) : Int32 := mn2 (sWs r w t np) (r (14 + 6 * t + 2))
def bit (k : Nat) : Int32 := nI 1 <<< (nI k &&& 31)
def sGone (r : Nat → Int32) (n : Nat) : Int32 := fo (fun t s => s ||| (if r (14 + 6 * t + 2) = 0 then bit t else nI 0)) n (nI 0)
def sThick (r : Nat → Int32) (n : Nat) : Int32 := fo (fun t s => s + r (14 + 6 * t + 2)) n (nI 0)
def sOwned (r : Nat → Int32) (p : Int32) (n : Nat) : Int32 := fo (fun t s => s ||| (if r (14 + 6 * t + 4) = p then bit t else nI 0)) n (nI 0)
def sAtAny (r : Nat → Int32) (pl : Int32) (n : Nat) : Int32 := fo (fun p s => if s = nI 0 then (if r (62 + 7 * p + 1) = pl then nI 1 else nI 0) else nI 1) n (nI 0)
def put1 (r : Nat → Int32) (i : Nat) (v : Int32) : Nat → Int32 := fun j => if j = i then v else r j
def rem16 (x : Int32) : Int32 := x - x / nI 16 * nI 16
/-- worn all at once -/
def sWorn (r0 : Nat → Int32) (w : Int32) (np n : Nat) (r : Nat → Int32) : Nat → Int32 := fo (fun t q => put1 q (14 + 6 * t + 2) (q (14 + 6 * t + 2) - sWear r0 w np t)) n r
/-- one pass of the falling -/
def sFp1 (t : Nat) (q : (Nat → Int32) × Int32) : (Nat → Int32) × Int32 :=
  if ¬ q.1 (14 + 6 * t + 2) = 0 ∧ ¬ q.1 (14 + 6 * t + 5) < 0 ∧ q.1 (14 + 6 * (q.1 (14 + 6 * t + 5)).toNatClampNeg + 2) = 0 then (put1 q.1 (14 + 6 * t + 2) (nI 0), nI 1) else q
def sFp (n : Nat) (r : Nat → Int32) : (Nat → Int32) × Int32 := fo sFp1 n (r, nI 0)
def sFall (n : Nat) : Nat → (Nat → Int32) → (Nat → Int32)
  | 0, r => r
  | f + 1, r => if (sFp n r).2 = nI 0 then (sFp n r).1 else sFall n f (sFp n r).1
def sGo (np : Nat) (r : Nat → Int32) : Nat → Int32 := fo (fun p q => put1 q (62 + 7 * p + 1) (rem16 (q (62 + 7 * p + 1) + q (62 + 7 * p + 2)))) np r
def sTick (r : Nat → Int32) : Nat → Int32 := put1 r 0 (r 0 + nI 1)
def sDay (w : Int32) (nt np : Nat) (r : Nat → Int32) : Nat → Int32 := sTick (sGo np (sFall nt 8 (sWorn r w np nt r)))
def sDays (w : Int32) (nt np : Nat) (n : Nat) (r : Nat → Int32) : Nat → Int32 := fo (fun _ q => sDay w nt np q) n r
/-- n bits counted as the reference does it -/
def sBits : Nat → Int32 → Int32 → Int32
  | 0, s, _ => s
  | f + 1, s, l => if l = 0 then s else sBits f (s + nI 1) (l &&& (l - nI 1))
def sHas (s k : Int32) : Prop := (s >>> (k &&& 31)) &&& nI 1 = nI 1
theorem sHas_d (s k : Int32) : (sHas s k) = ((s >>> (k &&& 31)) &&& nI 1 = nI 1) := rfl
/-- whether u hangs on o, on whatever else (f steps at most) -/
def sOn (r : Nat → Int32) (o : Nat) : Nat → Int32 → Bool
  | 0, _ => false
  | f + 1, u => if u < 0 then false else if u = nI o then true else sOn r o f (r (14 + 6 * u.toNatClampNeg + 5))
def sFw (r : Nat → Int32) (o n : Nat) : Int32 := fo (fun u s => s ||| (if sOn r o 9 (nI u) = true then bit u else nI 0)) n (nI 0)
def sDep (r : Nat → Int32) : Nat → Int32 → Int32 → Int32
  | 0, s, _ => s
  | f + 1, s, u => if u < 0 then s else sDep r f (s + nI 1) (r (14 + 6 * u.toNatClampNeg + 5))
def sWorth (r : Nat → Int32) (p : Nat) (set : Int32) (n : Nat) : Int32 := fo (fun t s => s + (if (set >>> (nI t &&& 31)) &&& nI 1 = nI 1 then sEnv r (-1) (-1) p t else nI 0)) n (nI 0)
end
section
/-! ===== the reference, exactly: what only reads ===== -/
section EA
variable {X : mSc} {Q : Option Value → mHp → Prop} {M : mM}
theorem uo_neg {f : Nat} {k o : Int32} (h : k < 0) : uo (f + 1) k o = false := if_pos h
theorem uo_eq {f : Nat} {k o : Int32} (h : ¬ k < 0) (e : k = o) : uo (f + 1) k o = true := by
  show (if k < 0 then false else if k = o then true else uo f (ab k) o) = true
  rw [if_neg h, if_pos e]
theorem uo_ab {f : Nat} {k o : Int32} (h : ¬ k < 0) (e : ¬ k = o) : uo (f + 1) k o = uo f (ab k) o := by
  show (if k < 0 then false else if k = o then true else uo f (ab k) o) = _
  rw [if_neg h, if_neg e]
theorem kdE0 {k o th pl ri : Int32} (h : k.toInt < 1 ∨ 6 < k.toInt) : pl = sKd k o th pl ri := by
  have h0 : ∀ n : Nat, 1 ≤ n → n ≤ 6 → ¬ k = nI n := fun n h1 h2 e => by
    rw [e, jI_int (by omega)] at h
    omega
  unfold sKd
  rw [if_neg (h0 1 (by decide) (by decide)), if_neg (h0 2 (by decide) (by decide)), if_neg (h0 3 (by decide) (by decide)), if_neg (h0 4 (by decide) (by decide)), if_neg (h0 5 (by decide) (by decide)), if_neg (h0 6 (by decide) (by decide))]
theorem kd_t1 {k : Int32} {i : Nat} (h : k.toInt = 1 + (i : Int)) (hi : i < 1000) : k = nI (i + 1) := Int32.toInt_inj.mp (by rw [h, jI_int (by omega)]; omega)
theorem kdE1 {k o th pl ri : Int32} (h : k.toInt = 1 + ((0 : Nat) : Int)) : pl / nI 2 = sKd k o th pl ri := by
  obtain rfl := kd_t1 h (by decide)
  rfl
theorem kdE2 {k o th pl ri : Int32} (h : k.toInt = 1 + ((1 : Nat) : Int)) : ri = sKd k o th pl ri := by
  obtain rfl := kd_t1 h (by decide)
  rfl
theorem kdE3 {k o th pl ri : Int32} (h : k.toInt = 1 + ((2 : Nat) : Int)) : ri - nI 3 = sKd k o th pl ri := by
  obtain rfl := kd_t1 h (by decide)
  rfl
theorem kdE4 {k o th pl ri : Int32} (h : k.toInt = 1 + ((3 : Nat) : Int)) : ri - nI 3 + th / nI 100 = sKd k o th pl ri := by
  obtain rfl := kd_t1 h (by decide)
  rfl
theorem kdE5 {k o th pl ri : Int32} (h : k.toInt = 1 + ((4 : Nat) : Int)) : nI 2 * pl = sKd k o th pl ri := by
  obtain rfl := kd_t1 h (by decide)
  rfl
theorem kdE6 {k o th pl ri : Int32} (h : k.toInt = 1 + ((5 : Nat) : Int)) (ho : 0 ≤ o) : pl / nI 2 = sKd k o th pl ri := by
  obtain rfl := kd_t1 h (by decide)
  show _ = if o < 0 then nI 0 else pl / nI 2
  rw [if_neg (Int32.not_lt.mpr ho)]
theorem kdE7 {k o th pl ri : Int32} (h : k.toInt = 1 + ((5 : Nat) : Int)) (ho : ¬ 0 ≤ o) : nI 0 = sKd k o th pl ri := by
  obtain rfl := kd_t1 h (by decide)
  show _ = if o < 0 then nI 0 else pl / nI 2
  rw [if_pos (Int32.not_le.mp ho)]
theorem ifp {α : Type} {c : Prop} [Decidable c] {a b : α} (h : c) : a = if c then a else b := (if_pos h).symm
theorem ifn {α : Type} {c : Prop} [Decidable c] {a b : α} (h : ¬ c) : b = if c then a else b := (if_neg h).symm
theorem m147 {o : Int32} (k0 : Int32) : ∀ (n : Nat) (k : Int32), rkU k < n → mEv X (fun z D => z = some (.int (bI (uo n k o = true))) ∧ D = con M) 147 2 [some (.int k0), some (.int o), some (.int k)] [] (con M) := by
  have hm : mMet 147 = some _ := rfl
  intro n
  induction n with
  | zero =>
    intro k hk
    omega
  | succ n ih =>
    intro k hk
    refine x_iload_n hm rfl rfl ?_
    refine x_if_lt hm rfl (t := 19) rfl (fun h1 => ?_) (fun h1 => ?_)
    · refine x_iload_n hm rfl rfl ?_
      refine x_if_lt hm rfl (t := 27) rfl (fun h2 => ?_) (fun h2 => ?_)
      · refine x_iconst hm rfl (v := nI 0) (by decide) ?_
        refine x_iret hm rfl rfl (by first | rfl | exact bI_nar | decide) ?_
        first
          | exact qt (congrArg Value.int (bI_f (by rw [uo_neg h1]; exact Bool.false_ne_true)))
          | exact qt (congrArg Value.int (bI_t (uo_eq h1 h3)))
          | exact absurd (by assumption) h1
          | exact absurd h1 (by assumption)
      · refine x_iconst hm rfl (v := nI 1) (by decide) ?_
        refine x_goto hm rfl (t := 28) rfl ?_
        refine x_iret hm rfl rfl (by first | rfl | exact bI_nar | decide) ?_
        first
          | exact qt (congrArg Value.int (bI_f (by rw [uo_neg h1]; exact Bool.false_ne_true)))
          | exact qt (congrArg Value.int (bI_t (uo_eq h1 h3)))
          | exact absurd (by assumption) h1
          | exact absurd h1 (by assumption)
    · refine x_iload_n hm rfl rfl ?_
      refine x_iload_n hm rfl rfl ?_
      refine x_icmp_eq hm rfl (t := 19) rfl (fun h3 => ?_) (fun h3 => ?_)
      · refine x_iload_n hm rfl rfl ?_
        refine x_if_lt hm rfl (t := 27) rfl (fun h4 => ?_) (fun h4 => ?_)
        · refine x_iconst hm rfl (v := nI 0) (by decide) ?_
          refine x_iret hm rfl rfl (by first | rfl | exact bI_nar | decide) ?_
          first
            | exact qt (congrArg Value.int (bI_f (by rw [uo_neg h1]; exact Bool.false_ne_true)))
            | exact qt (congrArg Value.int (bI_t (uo_eq h1 h3)))
            | exact absurd (by assumption) h1
            | exact absurd h1 (by assumption)
        · refine x_iconst hm rfl (v := nI 1) (by decide) ?_
          refine x_goto hm rfl (t := 28) rfl ?_
          refine x_iret hm rfl rfl (by first | rfl | exact bI_nar | decide) ?_
          first
            | exact qt (congrArg Value.int (bI_f (by rw [uo_neg h1]; exact Bool.false_ne_true)))
            | exact qt (congrArg Value.int (bI_t (uo_eq h1 h3)))
            | exact absurd (by assumption) h1
            | exact absurd h1 (by assumption)
      · refine x_iload_n hm rfl rfl ?_
        refine x_callS hm rfl rfl (t148) ?_
        refine x_istore_n hm rfl rfl ?_
        refine x_goto hm rfl (t := 2) rfl ?_
        rw [uo_ab h1 h3]
        exact ih _ (by have := ab_rk h1; omega)
theorem e147 {k o : Int32} : mT X 147 [.int k, .int o] (con M) (some (.int (bI (uo 5 k o = true)))) (con M) := by
  refine mT.of (row := _) rfl (Nat.le_of_ble_eq_true rfl) ?_
  have hm : mMet 147 = some _ := rfl
  refine x_iload_n hm rfl rfl ?_
  refine x_istore_n hm rfl rfl ?_
  exact m147 _ 5 _ (by have := rkU_le k; omega)
theorem m145b {p t : Nat} {o v6 : Int32} (hv : v6 = sKd (M 67 (62 + 7 * p + 0)) o (M 67 (14 + 6 * t + 2)) (sPl (M 67) p t) (sRi (M 67) o p t)) : mEv X (fun z D => z = some (.int (mx0 (sKd (M 67 (62 + 7 * p + 0)) o (M 67 (14 + 6 * t + 2)) (sPl (M 67) p t) (sRi (M 67) o p t)))) ∧ D = con M) 145 190 [some (.ref 66), some (.int (nI p)), some (.int (nI t)), some (.int o), some (.int (sPl (M 67) p t)), some (.int (sRi (M 67) o p t)), some (.int v6)] [] (con M) := by
  have hm : mMet 145 = some _ := rfl
  refine x_iconst hm rfl (v := nI 0) (by decide) ?_
  refine x_iload hm rfl rfl ?_
  refine x_lib hm rfl rfl ?_
  dsimp only
  refine x_iret hm rfl rfl (by first | rfl | exact bI_nar | decide) ?_
  rw [hv]
  exact ⟨rfl, rfl⟩
theorem m145a {p t : Nat} {o v5 : Int32} (hp : p < 8) (ht : t < 8) (h5 : v5 = sRi (M 67) o p t) : mEv X (fun z D => z = some (.int (mx0 (sKd (M 67 (62 + 7 * p + 0)) o (M 67 (14 + 6 * t + 2)) (sPl (M 67) p t) (sRi (M 67) o p t)))) ∧ D = con M) 145 73 [some (.ref 66), some (.int (nI p)), some (.int (nI t)), some (.int o), some (.int (sPl (M 67) p t)), some (.int (v5)), none] [] (con M) := by
  have hm : mMet 145 = some _ := rfl
  subst h5
  refine x_aload_n hm rfl rfl ?_
  refine x_iload_n hm rfl rfl ?_
  refine x_iconst hm rfl (v := nI 0) (by decide) ?_
  refine x_callV hm rfl rfl (t141 (by omega) (by omega)) ?_
  refine x_ts hm rfl (fun h1 => ⟨186, rfl, ?_⟩) (fun i1 h1 g1 => ?_)
  · refine x_iload hm rfl rfl ?_
    refine x_istore hm rfl rfl ?_
    have hv := kdE0 (o := o) (th := M 67 (14 + 6 * t + 2)) (pl := sPl (M 67) p t) (ri := sRi (M 67) o p t) h1
    exact m145b hv
  · have k1 : i1 = 0 ∨ i1 = 1 ∨ i1 = 2 ∨ i1 = 3 ∨ i1 = 4 ∨ i1 = 5 := by omega
    rcases k1 with rfl | rfl | rfl | rfl | rfl | rfl
    · refine ⟨_, 116, rfl, rfl, ?_⟩
      refine x_iload hm rfl rfl ?_
      refine x_iconst hm rfl (v := nI 2) (by decide) ?_
      refine x_idiv hm rfl (by decide) ?_
      refine x_istore hm rfl rfl ?_
      have hv := kdE1 (o := o) (th := M 67 (14 + 6 * t + 2)) (pl := sPl (M 67) p t) (ri := sRi (M 67) o p t) h1
      refine x_goto hm rfl (t := 190) rfl ?_
      exact m145b hv
    · refine ⟨_, 142, rfl, rfl, ?_⟩
      refine x_iload hm rfl rfl ?_
      refine x_istore hm rfl rfl ?_
      have hv := kdE2 (o := o) (th := M 67 (14 + 6 * t + 2)) (pl := sPl (M 67) p t) (ri := sRi (M 67) o p t) h1
      refine x_goto hm rfl (t := 190) rfl ?_
      exact m145b hv
    · refine ⟨_, 149, rfl, rfl, ?_⟩
      refine x_iload hm rfl rfl ?_
      refine x_iconst hm rfl (v := nI 3) (by decide) ?_
      refine x_isub hm rfl ?_
      refine x_istore hm rfl rfl ?_
      have hv := kdE3 (o := o) (th := M 67 (14 + 6 * t + 2)) (pl := sPl (M 67) p t) (ri := sRi (M 67) o p t) h1
      refine x_goto hm rfl (t := 190) rfl ?_
      exact m145b hv
    · refine ⟨_, 158, rfl, rfl, ?_⟩
      refine x_iload hm rfl rfl ?_
      refine x_iconst hm rfl (v := nI 3) (by decide) ?_
      refine x_isub hm rfl ?_
      refine x_aload_n hm rfl rfl ?_
      refine x_iload_n hm rfl rfl ?_
      refine x_iconst hm rfl (v := nI 2) (by decide) ?_
      refine x_callV hm rfl rfl (t143 (by omega) (by omega)) ?_
      refine x_bipush hm rfl (v := nI 100) (by decide) ?_
      refine x_idiv hm rfl (by decide) ?_
      refine x_iadd hm rfl ?_
      refine x_istore hm rfl rfl ?_
      have hv := kdE4 (o := o) (th := M 67 (14 + 6 * t + 2)) (pl := sPl (M 67) p t) (ri := sRi (M 67) o p t) h1
      refine x_goto hm rfl (t := 190) rfl ?_
      exact m145b hv
    · refine ⟨_, 177, rfl, rfl, ?_⟩
      refine x_iconst hm rfl (v := nI 2) (by decide) ?_
      refine x_iload hm rfl rfl ?_
      refine x_imul hm rfl ?_
      refine x_istore hm rfl rfl ?_
      have hv := kdE5 (o := o) (th := M 67 (14 + 6 * t + 2)) (pl := sPl (M 67) p t) (ri := sRi (M 67) o p t) h1
      refine x_goto hm rfl (t := 190) rfl ?_
      exact m145b hv
    · refine ⟨_, 125, rfl, rfl, ?_⟩
      refine x_iload_n hm rfl rfl ?_
      refine x_if_ge hm rfl (t := 133) rfl (fun h2 => ?_) (fun h2 => ?_)
      · have hv := kdE6 (o := o) (th := M 67 (14 + 6 * t + 2)) (pl := sPl (M 67) p t) (ri := sRi (M 67) o p t) h1 h2
        refine x_iload hm rfl rfl ?_
        refine x_iconst hm rfl (v := nI 2) (by decide) ?_
        refine x_idiv hm rfl (by decide) ?_
        refine x_istore hm rfl rfl ?_
        refine x_goto hm rfl (t := 190) rfl ?_
        exact m145b hv
      · have hv := kdE7 (o := o) (th := M 67 (14 + 6 * t + 2)) (pl := sPl (M 67) p t) (ri := sRi (M 67) o p t) h1 h2
        refine x_iconst hm rfl (v := nI 0) (by decide) ?_
        refine x_goto hm rfl (t := 137) rfl ?_
        refine x_istore hm rfl rfl ?_
        refine x_goto hm rfl (t := 190) rfl ?_
        exact m145b hv
theorem e145 {p t : Nat} {o : Int32} (hW : Wf M) (hp : p < 8) (ht : t < 8) (ho : okx 2 o) : mT X 145 [.ref 66, .int (nI p), .int (nI t), .int o] (con M) (some (.int (sEnv (M 67) (M 66 6) o p t))) (con M) := by
  refine mT.of (row := _) rfl (Nat.le_of_ble_eq_true rfl) ?_
  have hm : mMet 145 = some _ := rfl
  obtain ⟨s, hs3, hs⟩ := hW.sort ht
  have hpl : M 67 (62 + 7 * p + (3 + s)) - M 67 (14 + 6 * t + 3) = sPl (M 67) p t := by
    unfold sPl
    rw [hs, jI_nat (by omega)]
  refine x_iload_n hm rfl rfl ?_
  refine x_iload_n hm rfl rfl ?_
  refine x_icmp_eq hm rfl (t := 21) rfl (fun h1 => ?_) (fun h1 => ?_)
  · refine x_iconst hm rfl (v := nI 0) (by decide) ?_
    refine x_iret hm rfl rfl (by first | rfl | exact bI_nar | decide) ?_
    unfold sEnv
    rw [if_pos (by first | exact Or.inl (by assumption) | exact Or.inr (Or.inl (bI_ne0 (by assumption))) | exact Or.inr (Or.inr (by assumption)))]
    exact ⟨rfl, rfl⟩
  · refine x_aload_n hm rfl rfl ?_
    refine x_iload_n hm rfl rfl ?_
    refine x_callV hm rfl rfl (t146 (by omega)) ?_
    refine x_if_ne hm rfl (t := 21) rfl (fun h2 => ?_) (fun h2 => ?_)
    · refine x_iconst hm rfl (v := nI 0) (by decide) ?_
      refine x_iret hm rfl rfl (by first | rfl | exact bI_nar | decide) ?_
      unfold sEnv
      rw [if_pos (by first | exact Or.inl (by assumption) | exact Or.inr (Or.inl (bI_ne0 (by assumption))) | exact Or.inr (Or.inr (by assumption)))]
      exact ⟨rfl, rfl⟩
    · refine x_iload_n hm rfl rfl ?_
      refine x_aload_n hm rfl rfl ?_
      refine x_getf hm rfl (gI rfl rfl) ?_
      refine x_icmp_ne hm rfl (t := 23) rfl (fun h3 => ?_) (fun h3 => ?_)
      · have hsE : sEnv (M 67) (M 66 6) o p t = mx0 (sKd (M 67 (62 + 7 * p + 0)) o (M 67 (14 + 6 * t + 2)) (sPl (M 67) p t) (sRi (M 67) o p t)) := by
          unfold sEnv
          rw [if_neg]
          rintro (q | q | q)
          · exact h1 q
          · exact bI_eq0.mp h2 q
          · exact h3 q
        rw [hsE]
        refine x_aload_n hm rfl rfl ?_
        refine x_iload_n hm rfl rfl ?_
        refine x_iconst hm rfl (v := nI 3) (by decide) ?_
        refine x_aload_n hm rfl rfl ?_
        refine x_iload_n hm rfl rfl ?_
        refine x_iconst hm rfl (v := nI 0) (by decide) ?_
        refine x_callV hm rfl rfl (t143 (by omega) (by omega)) ?_
        rw [hs]
        refine x_iadd hm rfl ?_
        rw [jI_add]
        refine x_callV hm rfl rfl (t141 (by omega) (by omega)) ?_
        refine x_aload_n hm rfl rfl ?_
        refine x_iload_n hm rfl rfl ?_
        refine x_iconst hm rfl (v := nI 3) (by decide) ?_
        refine x_callV hm rfl rfl (t143 (by omega) (by omega)) ?_
        refine x_isub hm rfl ?_
        rw [hpl]
        refine x_istore hm rfl rfl ?_
        refine x_iload_n hm rfl rfl ?_
        refine x_if_lt hm rfl (t := 69) rfl (fun h4 => ?_) (fun h4 => ?_)
        · have hri : sRi (M 67) o p t = sPl (M 67) p t := by
            unfold sRi
            rw [if_neg (fun q => q.1 h4)]
          refine x_iload hm rfl rfl ?_
          refine x_istore hm rfl rfl ?_
          exact m145a hp ht hri.symm
        · obtain ⟨k, hk, rfl⟩ := tsm1 h4 ho
          refine x_aload_n hm rfl rfl ?_
          refine x_iload_n hm rfl rfl ?_
          refine x_iconst hm rfl (v := nI 0) (by decide) ?_
          refine x_callV hm rfl rfl (t141 (by omega) (by omega)) ?_
          refine x_iconst hm rfl (v := nI 2) (by decide) ?_
          refine x_callS hm rfl rfl (e147) ?_
          refine x_if_eq hm rfl (t := 69) rfl (fun h5 => ?_) (fun h5 => ?_)
          · have hri : sRi (M 67) (nI k) p t = sPl (M 67) p t := by
              unfold sRi
              rw [jI_nat (by omega), if_neg (fun q => bI_eq0.mp h5 q.2)]
            refine x_iload hm rfl rfl ?_
            refine x_istore hm rfl rfl ?_
            exact m145a hp ht hri.symm
          · have hri : sRi (M 67) (nI k) p t = sPl (M 67) p t + nI 2 := by
              unfold sRi
              rw [jI_nat (by omega), if_pos ⟨jI_nn (by omega), bI_ne0 h5⟩]
            refine x_iload hm rfl rfl ?_
            refine x_iconst hm rfl (v := nI 2) (by decide) ?_
            refine x_iadd hm rfl ?_
            refine x_goto hm rfl (t := 71) rfl ?_
            refine x_istore hm rfl rfl ?_
            exact m145a hp ht hri.symm
      · refine x_iconst hm rfl (v := nI 0) (by decide) ?_
        refine x_iret hm rfl rfl (by first | rfl | exact bI_nar | decide) ?_
        unfold sEnv
        rw [if_pos (by first | exact Or.inl (by assumption) | exact Or.inr (Or.inl (bI_ne0 (by assumption))) | exact Or.inr (Or.inr (by assumption)))]
        exact ⟨rfl, rfl⟩
theorem e144 {p t : Nat} (hW : Wf M) (hp : p < 8) (ht : t < 8) : mT X 144 [.ref 66, .int (nI p), .int (nI t)] (con M) (some (.int (sEnv (M 67) (M 66 6) (M 67 (14 + 6 * t + 4)) p t))) (con M) := by
  refine mT.of (row := _) rfl (Nat.le_of_ble_eq_true rfl) ?_
  have hm : mMet 144 = some _ := rfl
  refine x_aload_n hm rfl rfl ?_
  refine x_iload_n hm rfl rfl ?_
  refine x_iload_n hm rfl rfl ?_
  refine x_aload_n hm rfl rfl ?_
  refine x_iload_n hm rfl rfl ?_
  refine x_iconst hm rfl (v := nI 4) (by decide) ?_
  refine x_callV hm rfl rfl (t143 (by omega) (by omega)) ?_
  refine x_callV hm rfl rfl (e145 hW (by omega) (by omega) (hW.owner (by omega))) ?_
  refine x_iret hm rfl rfl (by first | rfl | exact bI_nar | decide) ?_
  exact ⟨rfl, rfl⟩
theorem m140 {t : Nat} (hW : Wf M) (ht : t < 8) {nb : Nat} (hnb : M 67 2 = nI nb) (h8 : nb ≤ 8) : ∀ (n k : Nat) (s : Int32), nb - k < n → k ≤ nb → s = sWs (M 67) (M 66 6) t k → mEv X (fun z D => z = some (.int (sWear (M 67) (M 66 6) nb t)) ∧ D = con M) 140 4 [some (.ref 66), some (.int (nI t)), some (.int s), some (.int (nI k))] [] (con M) := by
  have hm : mMet 140 = some _ := rfl
  intro n
  induction n with
  | zero =>
    intro k s hkn hkb hs
    omega
  | succ n ih =>
    intro k s hkn hkb hs
    refine x_iload_n hm rfl rfl ?_
    refine x_aload_n hm rfl rfl ?_
    refine x_getf hm rfl (gR rfl rfl) ?_
    refine x_iconst hm rfl (v := nI 2) (by decide) ?_
    refine x_iald hm rfl (lI rfl (by omega) (by decide)) ?_
    rw [hnb]
    refine x_icmp_ge hm rfl (t := 48) rfl (fun h1 => ?_) (fun h1 => ?_)
    · obtain rfl : k = nb := Nat.le_antisymm hkb ((jI_le (by omega) (by omega)).mp h1)
      refine x_iload_n hm rfl rfl ?_
      refine x_aload_n hm rfl rfl ?_
      refine x_iload_n hm rfl rfl ?_
      refine x_iconst hm rfl (v := nI 2) (by decide) ?_
      refine x_callV hm rfl rfl (t143 (by omega) (by omega)) ?_
      refine x_lib hm rfl rfl ?_
      dsimp only
      refine x_iret hm rfl rfl (by first | rfl | exact bI_nar | decide) ?_
      rw [hs]
      exact ⟨rfl, rfl⟩
    · have hk : k < nb := Nat.lt_of_not_le fun h => h1 (nI_le h (by omega))
      refine x_iload_n hm rfl rfl ?_
      refine x_aload_n hm rfl rfl ?_
      refine x_iload_n hm rfl rfl ?_
      refine x_iconst hm rfl (v := nI 1) (by decide) ?_
      refine x_callV hm rfl rfl (t141 (by omega) (by omega)) ?_
      refine x_aload_n hm rfl rfl ?_
      refine x_iload_n hm rfl rfl ?_
      refine x_iconst hm rfl (v := nI 1) (by decide) ?_
      refine x_callV hm rfl rfl (t143 (by omega) (by omega)) ?_
      refine x_icmp_ne hm rfl (t := 39) rfl (fun h2 => ?_) (fun h2 => ?_)
      · refine x_iconst hm rfl (v := nI 0) (by decide) ?_
        refine x_iadd hm rfl ?_
        refine x_istore_n hm rfl rfl ?_
        refine x_iinc hm rfl rfl (v := nI 1) (by decide) rfl ?_
        rw [jI_add]
        refine x_goto hm rfl (t := 4) rfl ?_
        first
          | exact ih _ _ (by omega) (by omega) (by rw [hs]; exact congrArg (fun z => sWs (M 67) (M 66 6) t k + z) (ifp (by assumption)))
          | exact ih _ _ (by omega) (by omega) (by rw [hs]; exact congrArg (fun z => sWs (M 67) (M 66 6) t k + z) (ifn (by assumption)))
      · refine x_aload_n hm rfl rfl ?_
        refine x_iload_n hm rfl rfl ?_
        refine x_iload_n hm rfl rfl ?_
        refine x_callV hm rfl rfl (e144 hW (by omega) (by omega)) ?_
        refine x_goto hm rfl (t := 40) rfl ?_
        refine x_iadd hm rfl ?_
        refine x_istore_n hm rfl rfl ?_
        refine x_iinc hm rfl rfl (v := nI 1) (by decide) rfl ?_
        rw [jI_add]
        refine x_goto hm rfl (t := 4) rfl ?_
        first
          | exact ih _ _ (by omega) (by omega) (by rw [hs]; exact congrArg (fun z => sWs (M 67) (M 66 6) t k + z) (ifp (by assumption)))
          | exact ih _ _ (by omega) (by omega) (by rw [hs]; exact congrArg (fun z => sWs (M 67) (M 66 6) t k + z) (ifn (by assumption)))
theorem e140 {t np : Nat} (hW : Wf M) (hnp : M 67 2 = nI np) (hp8 : np ≤ 8) (ht : t < 8) : mT X 140 [.ref 66, .int (nI t)] (con M) (some (.int (sWear (M 67) (M 66 6) np t))) (con M) := by
  refine mT.of (row := _) rfl (Nat.le_of_ble_eq_true rfl) ?_
  have hm : mMet 140 = some _ := rfl
  refine x_iconst hm rfl (v := nI 0) (by decide) ?_
  refine x_istore_n hm rfl rfl ?_
  refine x_iconst hm rfl (v := nI 0) (by decide) ?_
  refine x_istore_n hm rfl rfl ?_
  exact m140 hW ht hnp hp8 _ 0 _ (Nat.lt_succ_self _) (Nat.zero_le _) rfl
theorem m170  {nb : Nat} (hnb : M 67 1 = nI nb) (h8 : nb ≤ 8) : ∀ (n k : Nat) (s : Int32), nb - k < n → k ≤ nb → s = sThick (M 67) k → mEv X (fun z D => z = some (.int (sThick (M 67) nb)) ∧ D = con M) 170 4 [some (.ref 66), some (.int s), some (.int (nI k))] [] (con M) := by
  have hm : mMet 170 = some _ := rfl
  intro n
  induction n with
  | zero =>
    intro k s hkn hkb hs
    omega
  | succ n ih =>
    intro k s hkn hkb hs
    refine x_iload_n hm rfl rfl ?_
    refine x_aload_n hm rfl rfl ?_
    refine x_getf hm rfl (gR rfl rfl) ?_
    refine x_iconst hm rfl (v := nI 1) (by decide) ?_
    refine x_iald hm rfl (lI rfl (by omega) (by decide)) ?_
    rw [hnb]
    refine x_icmp_ge hm rfl (t := 29) rfl (fun h1 => ?_) (fun h1 => ?_)
    · obtain rfl : k = nb := Nat.le_antisymm hkb ((jI_le (by omega) (by omega)).mp h1)
      refine x_iload_n hm rfl rfl ?_
      refine x_iret hm rfl rfl (by first | rfl | exact bI_nar | decide) ?_
      rw [hs]
      exact ⟨rfl, rfl⟩
    · have hk : k < nb := Nat.lt_of_not_le fun h => h1 (nI_le h (by omega))
      refine x_iload_n hm rfl rfl ?_
      refine x_aload_n hm rfl rfl ?_
      refine x_iload_n hm rfl rfl ?_
      refine x_iconst hm rfl (v := nI 2) (by decide) ?_
      refine x_callV hm rfl rfl (t143 (by omega) (by omega)) ?_
      refine x_iadd hm rfl ?_
      refine x_istore_n hm rfl rfl ?_
      refine x_iinc hm rfl rfl (v := nI 1) (by decide) rfl ?_
      rw [jI_add]
      refine x_goto hm rfl (t := 4) rfl ?_
      exact ih _ _ (by omega) (by omega) (by rw [hs]; rfl)
theorem e170 {nt : Nat} (hnt : M 67 1 = nI nt) (hn8 : nt ≤ 8) : mT X 170 [.ref 66] (con M) (some (.int (sThick (M 67) nt))) (con M) := by
  refine mT.of (row := _) rfl (Nat.le_of_ble_eq_true rfl) ?_
  have hm : mMet 170 = some _ := rfl
  refine x_iconst hm rfl (v := nI 0) (by decide) ?_
  refine x_istore_n hm rfl rfl ?_
  refine x_iconst hm rfl (v := nI 0) (by decide) ?_
  refine x_istore_n hm rfl rfl ?_
  exact m170 hnt hn8 _ 0 _ (Nat.lt_succ_self _) (Nat.zero_le _) rfl
theorem m167  {nb : Nat} (hnb : M 67 1 = nI nb) (h8 : nb ≤ 8) : ∀ (n k : Nat) (s : Int32), nb - k < n → k ≤ nb → s = sGone (M 67) k → mEv X (fun z D => z = some (.int (sGone (M 67) nb)) ∧ D = con M) 167 4 [some (.ref 66), some (.int s), some (.int (nI k))] [] (con M) := by
  have hm : mMet 167 = some _ := rfl
  intro n
  induction n with
  | zero =>
    intro k s hkn hkb hs
    omega
  | succ n ih =>
    intro k s hkn hkb hs
    refine x_iload_n hm rfl rfl ?_
    refine x_aload_n hm rfl rfl ?_
    refine x_getf hm rfl (gR rfl rfl) ?_
    refine x_iconst hm rfl (v := nI 1) (by decide) ?_
    refine x_iald hm rfl (lI rfl (by omega) (by decide)) ?_
    rw [hnb]
    refine x_icmp_ge hm rfl (t := 38) rfl (fun h1 => ?_) (fun h1 => ?_)
    · obtain rfl : k = nb := Nat.le_antisymm hkb ((jI_le (by omega) (by omega)).mp h1)
      refine x_iload_n hm rfl rfl ?_
      refine x_iret hm rfl rfl (by first | rfl | exact bI_nar | decide) ?_
      rw [hs]
      exact ⟨rfl, rfl⟩
    · have hk : k < nb := Nat.lt_of_not_le fun h => h1 (nI_le h (by omega))
      refine x_iload_n hm rfl rfl ?_
      refine x_aload_n hm rfl rfl ?_
      refine x_iload_n hm rfl rfl ?_
      refine x_callV hm rfl rfl (t146 (by omega)) ?_
      refine x_if_eq hm rfl (t := 29) rfl (fun h2 => ?_) (fun h2 => ?_)
      · refine x_iconst hm rfl (v := nI 0) (by decide) ?_
        refine x_ior hm rfl ?_
        refine x_istore_n hm rfl rfl ?_
        refine x_iinc hm rfl rfl (v := nI 1) (by decide) rfl ?_
        rw [jI_add]
        refine x_goto hm rfl (t := 4) rfl ?_
        first
          | exact ih _ _ (by omega) (by omega) (by rw [hs]; exact congrArg (fun z => sGone (M 67) k ||| z) (ifp (by first | assumption | exact bI_ne0 (by assumption))))
          | exact ih _ _ (by omega) (by omega) (by rw [hs]; exact congrArg (fun z => sGone (M 67) k ||| z) (ifn (by first | assumption | exact bI_eq0.mp (by assumption))))
      · refine x_iconst hm rfl (v := nI 1) (by decide) ?_
        refine x_iload_n hm rfl rfl ?_
        refine x_ishl hm rfl ?_
        refine x_goto hm rfl (t := 30) rfl ?_
        refine x_ior hm rfl ?_
        refine x_istore_n hm rfl rfl ?_
        refine x_iinc hm rfl rfl (v := nI 1) (by decide) rfl ?_
        rw [jI_add]
        refine x_goto hm rfl (t := 4) rfl ?_
        first
          | exact ih _ _ (by omega) (by omega) (by rw [hs]; exact congrArg (fun z => sGone (M 67) k ||| z) (ifp (by first | assumption | exact bI_ne0 (by assumption))))
          | exact ih _ _ (by omega) (by omega) (by rw [hs]; exact congrArg (fun z => sGone (M 67) k ||| z) (ifn (by first | assumption | exact bI_eq0.mp (by assumption))))
theorem e167 {nt : Nat} (hnt : M 67 1 = nI nt) (hn8 : nt ≤ 8) : mT X 167 [.ref 66] (con M) (some (.int (sGone (M 67) nt))) (con M) := by
  refine mT.of (row := _) rfl (Nat.le_of_ble_eq_true rfl) ?_
  have hm : mMet 167 = some _ := rfl
  refine x_iconst hm rfl (v := nI 0) (by decide) ?_
  refine x_istore_n hm rfl rfl ?_
  refine x_iconst hm rfl (v := nI 0) (by decide) ?_
  refine x_istore_n hm rfl rfl ?_
  exact m167 hnt hn8 _ 0 _ (Nat.lt_succ_self _) (Nat.zero_le _) rfl
theorem m160 {a1 : Int32} {nb : Nat} (hnb : M 67 1 = nI nb) (h8 : nb ≤ 8) : ∀ (n k : Nat) (s : Int32), nb - k < n → k ≤ nb → s = sOwned (M 67) a1 k → mEv X (fun z D => z = some (.int (sOwned (M 67) a1 nb)) ∧ D = con M) 160 4 [some (.ref 66), some (.int a1), some (.int s), some (.int (nI k))] [] (con M) := by
  have hm : mMet 160 = some _ := rfl
  intro n
  induction n with
  | zero =>
    intro k s hkn hkb hs
    omega
  | succ n ih =>
    intro k s hkn hkb hs
    refine x_iload_n hm rfl rfl ?_
    refine x_aload_n hm rfl rfl ?_
    refine x_getf hm rfl (gR rfl rfl) ?_
    refine x_iconst hm rfl (v := nI 1) (by decide) ?_
    refine x_iald hm rfl (lI rfl (by omega) (by decide)) ?_
    rw [hnb]
    refine x_icmp_ge hm rfl (t := 40) rfl (fun h1 => ?_) (fun h1 => ?_)
    · obtain rfl : k = nb := Nat.le_antisymm hkb ((jI_le (by omega) (by omega)).mp h1)
      refine x_iload_n hm rfl rfl ?_
      refine x_iret hm rfl rfl (by first | rfl | exact bI_nar | decide) ?_
      rw [hs]
      exact ⟨rfl, rfl⟩
    · have hk : k < nb := Nat.lt_of_not_le fun h => h1 (nI_le h (by omega))
      refine x_iload_n hm rfl rfl ?_
      refine x_aload_n hm rfl rfl ?_
      refine x_iload_n hm rfl rfl ?_
      refine x_iconst hm rfl (v := nI 4) (by decide) ?_
      refine x_callV hm rfl rfl (t143 (by omega) (by omega)) ?_
      refine x_iload_n hm rfl rfl ?_
      refine x_icmp_ne hm rfl (t := 31) rfl (fun h2 => ?_) (fun h2 => ?_)
      · refine x_iconst hm rfl (v := nI 0) (by decide) ?_
        refine x_ior hm rfl ?_
        refine x_istore_n hm rfl rfl ?_
        refine x_iinc hm rfl rfl (v := nI 1) (by decide) rfl ?_
        rw [jI_add]
        refine x_goto hm rfl (t := 4) rfl ?_
        first
          | exact ih _ _ (by omega) (by omega) (by rw [hs]; exact congrArg (fun z => sOwned (M 67) a1 k ||| z) (ifp (by first | assumption | exact bI_ne0 (by assumption))))
          | exact ih _ _ (by omega) (by omega) (by rw [hs]; exact congrArg (fun z => sOwned (M 67) a1 k ||| z) (ifn (by first | assumption | exact bI_eq0.mp (by assumption))))
      · refine x_iconst hm rfl (v := nI 1) (by decide) ?_
        refine x_iload_n hm rfl rfl ?_
        refine x_ishl hm rfl ?_
        refine x_goto hm rfl (t := 32) rfl ?_
        refine x_ior hm rfl ?_
        refine x_istore_n hm rfl rfl ?_
        refine x_iinc hm rfl rfl (v := nI 1) (by decide) rfl ?_
        rw [jI_add]
        refine x_goto hm rfl (t := 4) rfl ?_
        first
          | exact ih _ _ (by omega) (by omega) (by rw [hs]; exact congrArg (fun z => sOwned (M 67) a1 k ||| z) (ifp (by first | assumption | exact bI_ne0 (by assumption))))
          | exact ih _ _ (by omega) (by omega) (by rw [hs]; exact congrArg (fun z => sOwned (M 67) a1 k ||| z) (ifn (by first | assumption | exact bI_eq0.mp (by assumption))))
theorem e160 {a1 : Int32} {nt : Nat} (hnt : M 67 1 = nI nt) (hn8 : nt ≤ 8) : mT X 160 [.ref 66, .int a1] (con M) (some (.int (sOwned (M 67) a1 nt))) (con M) := by
  refine mT.of (row := _) rfl (Nat.le_of_ble_eq_true rfl) ?_
  have hm : mMet 160 = some _ := rfl
  refine x_iconst hm rfl (v := nI 0) (by decide) ?_
  refine x_istore_n hm rfl rfl ?_
  refine x_iconst hm rfl (v := nI 0) (by decide) ?_
  refine x_istore_n hm rfl rfl ?_
  exact m160 hnt hn8 _ 0 _ (Nat.lt_succ_self _) (Nat.zero_le _) rfl
end EA
end
section
/-! ===== the reference, exactly: days ===== -/
section EB
variable {X : mSc} {Q : Option Value → mHp → Prop} {M : mM}
def Dd (q : Nat → Int32) (M M' : mM) : Prop := M' 67 = q ∧ ∀ a, a ≠ 67 → a ≠ 71 → M' a = M a
theorem Dd.rf : Dd (M 67) M M := ⟨rfl, fun _ _ _ => rfl⟩
theorem mput67 {i : Nat} {v : Int32} : mput M 67 i v 67 = put1 (M 67) i v := by
  funext j
  unfold mput put1
  by_cases h : j = i
  · rw [if_pos ⟨rfl, h⟩, if_pos h]
  · rw [if_neg (fun q => h q.2), if_neg h]
theorem Dd.p67 {q : Nat → Int32} {i : Nat} {v : Int32} {M1 : mM} (h : Dd q M M1) : Dd (put1 q i v) M (mput M1 67 i v) := ⟨by rw [mput67, h.1], fun a h1 h2 => (mpo h1).trans (h.2 a h1 h2)⟩
theorem Dd.p71 {q : Nat → Int32} {i : Nat} {v : Int32} {M1 : mM} (h : Dd q M M1) : Dd q M (mput M1 71 i v) := ⟨(mpo (by decide)).trans h.1, fun a h1 h2 => (mpo h2).trans (h.2 a h1 h2)⟩
theorem Dd.to {q q2 : Nat → Int32} {M1 M2 : mM} (h : Dd q M M1) (g : Dd q2 M1 M2) : Dd q2 M M2 := ⟨g.1, fun a h1 h2 => (g.2 a h1 h2).trans (h.2 a h1 h2)⟩
theorem sFpT {k : Nat} {q : Nat → Int32} {s : Int32} (h1 : ¬ q (14 + 6 * k + 2) = 0) (h2 : ¬ q (14 + 6 * k + 5) < 0) (h3 : q (14 + 6 * (q (14 + 6 * k + 5)).toNatClampNeg + 2) = 0) : sFp1 k (q, s) = (put1 q (14 + 6 * k + 2) (nI 0), nI 1) := if_pos ⟨h1, h2, h3⟩
theorem sFpF {k : Nat} {q : Nat → Int32} {s : Int32} (h : q (14 + 6 * k + 2) = 0 ∨ q (14 + 6 * k + 5) < 0 ∨ ¬ q (14 + 6 * (q (14 + 6 * k + 5)).toNatClampNeg + 2) = 0) : sFp1 k (q, s) = (q, s) := if_neg (fun ⟨h1, h2, h3⟩ => h.elim h1 (fun h => h.elim h2 (fun h => h h3)))
theorem sFp_s {n : Nat} {r q : Nat → Int32} {s : Int32} {z : (Nat → Int32) × Int32} (h : fo sFp1 n (r, nI 0) = (q, s)) (g : sFp1 n (q, s) = z) : fo sFp1 (n + 1) (r, nI 0) = z := by
  show sFp1 n (fo sFp1 n (r, nI 0)) = z
  rw [h, g]
/-- a pass that felled none changed nothing -/
theorem sFp_0 {r : Nat → Int32} : ∀ (n : Nat), (fo sFp1 n (r, nI 0)).2 = nI 0 → (fo sFp1 n (r, nI 0)).1 = r := by
  intro n
  induction n with
  | zero => intro _; rfl
  | succ n ih =>
    intro h
    have h2 : (sFp1 n (fo sFp1 n (r, nI 0))).2 = nI 0 := h
    show (sFp1 n (fo sFp1 n (r, nI 0))).1 = r
    unfold sFp1 at h2 ⊢
    split
    · rename_i hc
      rw [if_pos hc] at h2
      exact absurd (show nI 1 = nI 0 from h2) (by decide)
    · rename_i hc
      rw [if_neg hc] at h2
      exact ih h2
theorem cnt_le {f : Nat → Int32} : ∀ n, cnt f n ≤ n := by
  intro n
  induction n with
  | zero => exact Nat.le_refl _
  | succ n ih =>
    show cnt f n + _ ≤ n + 1
    split <;> omega
theorem m166 {nb : Nat} (hW : Wf M) (hnb : M 67 1 = nI nb) (h8 : nb ≤ 8) : ∀ (n k : Nat) (s : Int32) (M1 : mM), nb - k < n → k ≤ nb → Dy M M1 → ((s = nI 0 ∧ cnt (M1 67) nb ≤ cnt (M 67) nb) ∨ (s = nI 1 ∧ cnt (M1 67) nb < cnt (M 67) nb)) → fo sFp1 k (M 67, nI 0) = (M1 67, s) → Dd (M1 67) M M1 → mEv X (QI (fun v M' => Dy M M' ∧ ((v = nI 0 ∧ cnt (M' 67) nb ≤ cnt (M 67) nb) ∨ (v = nI 1 ∧ cnt (M' 67) nb < cnt (M 67) nb)) ∧ sFp nb (M 67) = (M' 67, v) ∧ Dd (M' 67) M M')) 166 4 [some (.ref 66), some (.int s), some (.int (nI k))] [] (con M1) := by
  have hm : mMet 166 = some _ := rfl
  intro n
  induction n with
  | zero =>
    intro k s M1 hkn hkb hD hc hf hd
    omega
  | succ n ih =>
    intro k s M1 hkn hkb hD hc hf hd
    have hW1 := hD.1.1 hW
    have hn1 : M1 67 1 = nI nb := hD.1.2.1.trans hnb
    have h01 : s = nI 0 ∨ s = nI 1 := hc.elim (fun h => Or.inl h.1) (fun h => Or.inr h.1)
    refine x_iload_n hm rfl rfl ?_
    refine x_aload_n hm rfl rfl ?_
    refine x_getf hm rfl (gR rfl rfl) ?_
    refine x_iconst hm rfl (v := nI 1) (by decide) ?_
    refine x_iald hm rfl (lI rfl (by omega) (by decide)) ?_
    rw [hn1]
    refine x_icmp_ge hm rfl (t := 63) rfl (fun h1 => ?_) (fun h1 => ?_)
    · obtain rfl : k = nb := Nat.le_antisymm hkb ((jI_le (by omega) (by omega)).mp h1)
      refine x_iload_n hm rfl rfl ?_
      refine x_iret hm rfl rfl (nar01 h01) ?_
      exact ⟨_, _, rfl, rfl, hD, hc, hf, hd⟩ --stop
    · have hk : k < nb := Nat.lt_of_not_le fun h => h1 (nI_le h (by omega))
      refine x_aload_n hm rfl rfl ?_
      refine x_iload_n hm rfl rfl ?_
      refine x_callV hm rfl rfl (t146 (by omega)) ?_
      refine x_if_ne hm rfl (t := 57) rfl (fun h2 => ?_) (fun h2 => ?_)
      · have hz := sFp_s hf (sFpF (Or.inl (bI_ne0 h2)))
        refine x_iinc hm rfl rfl (v := nI 1) (by decide) rfl ?_
        rw [jI_add]
        refine x_goto hm rfl (t := 4) rfl ?_
        first
          | exact ih _ _ _ (by omega) (by omega) hD hc hz hd
          | exact ih _ _ _ (by omega) (by omega) (hD.trans (Dy.put (Sf.thing (by omega) (by decide) (by decide) (by decide)) (by decide))) (Or.inr ⟨rfl, by have := cnt_zero (M := M1) nb hk hg; omega⟩) (by rw [hz, mput67]) (by rw [mput67]; exact hd.p67)
      · have hg : ¬ M1 67 (14 + 6 * k + 2) = 0 := bI_eq0.mp h2
        refine x_aload_n hm rfl rfl ?_
        refine x_iload_n hm rfl rfl ?_
        refine x_iconst hm rfl (v := nI 5) (by decide) ?_
        refine x_callV hm rfl rfl (t143 (by omega) (by omega)) ?_
        refine x_if_lt hm rfl (t := 57) rfl (fun h3 => ?_) (fun h3 => ?_)
        · have hz := sFp_s hf (sFpF (Or.inr (Or.inl h3)))
          refine x_iinc hm rfl rfl (v := nI 1) (by decide) rfl ?_
          rw [jI_add]
          refine x_goto hm rfl (t := 4) rfl ?_
          first
            | exact ih _ _ _ (by omega) (by omega) hD hc hz hd
            | exact ih _ _ _ (by omega) (by omega) (hD.trans (Dy.put (Sf.thing (by omega) (by decide) (by decide) (by decide)) (by decide))) (Or.inr ⟨rfl, by have := cnt_zero (M := M1) nb hk hg; omega⟩) (by rw [hz, mput67]) (by rw [mput67]; exact hd.p67)
        · have hon := h3
          obtain ⟨w, hw, hw2⟩ := tsm1 h3 (hW1.on (by omega))
          refine x_aload_n hm rfl rfl ?_
          refine x_aload_n hm rfl rfl ?_
          refine x_iload_n hm rfl rfl ?_
          refine x_iconst hm rfl (v := nI 5) (by decide) ?_
          refine x_callV hm rfl rfl (t143 (by omega) (by omega)) ?_
          rw [hw2]
          refine x_callV hm rfl rfl (t146 (by omega)) ?_
          refine x_if_eq hm rfl (t := 57) rfl (fun h4 => ?_) (fun h4 => ?_)
          · have hz := sFp_s hf (sFpF (Or.inr (Or.inr (by rw [hw2, jI_nat (by omega)]; exact bI_eq0.mp h4))))
            refine x_iinc hm rfl rfl (v := nI 1) (by decide) rfl ?_
            rw [jI_add]
            refine x_goto hm rfl (t := 4) rfl ?_
            first
              | exact ih _ _ _ (by omega) (by omega) hD hc hz hd
              | exact ih _ _ _ (by omega) (by omega) (hD.trans (Dy.put (Sf.thing (by omega) (by decide) (by decide) (by decide)) (by decide))) (Or.inr ⟨rfl, by have := cnt_zero (M := M1) nb hk hg; omega⟩) (by rw [hz, mput67]) (by rw [mput67]; exact hd.p67)
          · have hz := sFp_s hf (sFpT hg hon (by rw [hw2, jI_nat (by omega)]; exact bI_ne0 h4))
            refine x_aload_n hm rfl rfl ?_
            refine x_getf hm rfl (gR rfl rfl) ?_
            refine x_iload_n hm rfl rfl ?_
            refine x_iconst hm rfl (v := nI 2) (by decide) ?_
            refine x_callS hm rfl rfl (t137) ?_
            refine x_iconst hm rfl (v := nI 0) (by decide) ?_
            refine x_iast hm rfl (sI rfl (by omega) (by decide)) ?_
            refine x_iconst hm rfl (v := nI 1) (by decide) ?_
            refine x_istore_n hm rfl rfl ?_
            refine x_iinc hm rfl rfl (v := nI 1) (by decide) rfl ?_
            rw [jI_add]
            refine x_goto hm rfl (t := 4) rfl ?_
            first
              | exact ih _ _ _ (by omega) (by omega) hD hc hz hd
              | exact ih _ _ _ (by omega) (by omega) (hD.trans (Dy.put (Sf.thing (by omega) (by decide) (by decide) (by decide)) (by decide))) (Or.inr ⟨rfl, by have := cnt_zero (M := M1) nb hk hg; omega⟩) (by rw [hz, mput67]) (by rw [mput67]; exact hd.p67)
theorem e166 {nb : Nat} (hW : Wf M) (hnb : M 67 1 = nI nb) (h8 : nb ≤ 8) : ∃ v M', mT X 166 [.ref 66] (con M) (some (.int v)) (con M') ∧ (fun v M' => Dy M M' ∧ ((v = nI 0 ∧ cnt (M' 67) nb ≤ cnt (M 67) nb) ∨ (v = nI 1 ∧ cnt (M' 67) nb < cnt (M 67) nb)) ∧ sFp nb (M 67) = (M' 67, v) ∧ Dd (M' 67) M M') v M' := by
  refine ti_of (row := _) rfl (Nat.le_of_ble_eq_true rfl) ?_
  have hm : mMet 166 = some _ := rfl
  refine x_iconst hm rfl (v := nI 0) (by decide) ?_
  refine x_istore_n hm rfl rfl ?_
  refine x_iconst hm rfl (v := nI 0) (by decide) ?_
  refine x_istore_n hm rfl rfl ?_
  exact m166 hW hnb h8 _ 0 _ _ (Nat.lt_succ_self _) (Nat.zero_le _) Dy.rf (Or.inl ⟨rfl, Nat.le_refl _⟩) rfl Dd.rf
theorem m165d {nb np : Nat} (hW : Wf M) (hnb : M 67 1 = nI nb) (h8 : nb ≤ 8) (hnp : M 67 2 = nI np) (hp8 : np ≤ 8) {s : Int32} : ∀ (n k : Nat) (M1 : mM), np - k < n → k ≤ np → Dy M M1 → Dd (sGo k (sFall nb 8 (sWorn (M 67) (M 66 6) np nb (M 67)))) M M1 → mEv X (QV (fun M' => Dy M M' ∧ Dd (sDay (M 66 6) nb np (M 67)) M M')) 165 82 [some (.ref 66), some (.int s), some (.int (nI k))] [] (con M1) := by
  have hm : mMet 165 = some _ := rfl
  intro n
  induction n with
  | zero =>
    intro k M1 hkn hkb hD hd
    omega
  | succ n ih =>
    intro k M1 hkn hkb hD hd
    have hW1 := hD.1.1 hW
    have hn1 : M1 67 1 = nI nb := hD.1.2.1.trans hnb
    have hp1 : M1 67 2 = nI np := hD.1.2.2.1.trans hnp
    refine x_iload_n hm rfl rfl ?_
    refine x_aload_n hm rfl rfl ?_
    refine x_getf hm rfl (gR rfl rfl) ?_
    refine x_iconst hm rfl (v := nI 2) (by decide) ?_
    refine x_iald hm rfl (lI rfl (by omega) (by decide)) ?_
    rw [hp1]
    refine x_icmp_ge hm rfl (t := 124) rfl (fun h1 => ?_) (fun h1 => ?_)
    · obtain rfl : k = np := Nat.le_antisymm hkb ((jI_le (by omega) (by omega)).mp h1)
      refine x_aload_n hm rfl rfl ?_
      refine x_getf hm rfl (gR rfl rfl) ?_
      refine x_iconst hm rfl (v := nI 0) (by decide) ?_
      refine x_dup2 hm rfl rfl rfl ?_
      refine x_iald hm rfl (lI rfl (by omega) (by decide)) ?_
      refine x_iconst hm rfl (v := nI 1) (by decide) ?_
      refine x_iadd hm rfl ?_
      refine x_iast hm rfl (sI rfl (by omega) (by decide)) ?_
      refine x_ret hm rfl rfl ?_
      exact ⟨_, rfl, rfl, hD.trans (Dy.put Sf.day (by decide)), by rw [hd.1]; exact hd.p67⟩
    · have hk : k < np := Nat.lt_of_not_le fun h => h1 (nI_le h (by omega))
      refine x_aload_n hm rfl rfl ?_
      refine x_getf hm rfl (gR rfl rfl) ?_
      refine x_iload_n hm rfl rfl ?_
      refine x_iconst hm rfl (v := nI 1) (by decide) ?_
      refine x_callS hm rfl rfl (t142) ?_
      refine x_aload_n hm rfl rfl ?_
      refine x_iload_n hm rfl rfl ?_
      refine x_iconst hm rfl (v := nI 1) (by decide) ?_
      refine x_callV hm rfl rfl (t141 (by omega) (by omega)) ?_
      refine x_aload_n hm rfl rfl ?_
      refine x_iload_n hm rfl rfl ?_
      refine x_iconst hm rfl (v := nI 2) (by decide) ?_
      refine x_callV hm rfl rfl (t141 (by omega) (by omega)) ?_
      refine x_iadd hm rfl ?_
      refine x_bipush hm rfl (v := nI 16) (by decide) ?_
      refine x_irem hm rfl (by decide) ?_
      refine x_iast hm rfl (sI rfl (by omega) (by decide)) ?_
      refine x_iinc hm rfl rfl (v := nI 1) (by decide) rfl ?_
      rw [jI_add]
      refine x_goto hm rfl (t := 82) rfl ?_
      exact ih (k + 1) _ (by omega) (by omega) (hD.trans (Dy.put (Sf.person (by omega) (by decide)) (by decide))) (by rw [hd.1]; exact hd.p67)
theorem m165c {nb np : Nat} (hW : Wf M) (hnb : M 67 1 = nI nb) (h8 : nb ≤ 8) (hnp : M 67 2 = nI np) (hp8 : np ≤ 8) : ∀ (n : Nat) (s : Int32) (M1 : mM), (s = nI 0 ∨ (s = nI 1 ∧ cnt (M1 67) nb + 1 < n)) → 0 < n → Dy M M1 → Dd (M1 67) M M1 → (s = nI 0 → M1 67 = sFall nb 8 (sWorn (M 67) (M 66 6) np nb (M 67))) → (s = nI 1 → ∃ f, sFall nb f (M1 67) = sFall nb 8 (sWorn (M 67) (M 66 6) np nb (M 67)) ∧ cnt (M1 67) nb ≤ f) → mEv X (QV (fun M' => Dy M M' ∧ Dd (sDay (M 66 6) nb np (M 67)) M M')) 165 68 [some (.ref 66), some (.int s), none] [] (con M1) := by
  have hm : mMet 165 = some _ := rfl
  intro n
  induction n with
  | zero =>
    intro s M1 hs hn hD hd hz hf
    omega
  | succ n ih =>
    intro s M1 hs hn hD hd hz hf
    have hW1 := hD.1.1 hW
    have hn1 : M1 67 1 = nI nb := hD.1.2.1.trans hnb
    have hp1 : M1 67 2 = nI np := hD.1.2.2.1.trans hnp
    refine x_iload_n hm rfl rfl ?_
    refine x_if_eq hm rfl (t := 80) rfl (fun h1 => ?_) (fun h1 => ?_)
    · have hR := hz h1
      refine x_iconst hm rfl (v := nI 0) (by decide) ?_
      refine x_istore_n hm rfl rfl ?_
      exact m165d hW hnb h8 hnp hp8 _ 0 _ (Nat.lt_succ_self _) (Nat.zero_le _) hD (by rw [show sGo 0 (sFall nb 8 (sWorn (M 67) (M 66 6) np nb (M 67))) = M1 67 from hR.symm]; exact hd)
    · have hs2 : cnt (M1 67) nb + 1 < n + 1 := hs.elim (fun e => absurd e h1) (fun e => e.2)
      obtain ⟨f, hf1, hf2⟩ := hf (hs.elim (fun e => absurd e h1) (fun e => e.1))
      refine x_aload_n hm rfl rfl ?_
      refine x_cVi hm rfl rfl (e166 hW1 hn1 h8) (fun v2 M2 r2 => ?_)
      refine x_istore_n hm rfl rfl ?_
      refine x_goto hm rfl (t := 68) rfl ?_
      obtain ⟨g1, g2, g3, g4⟩ := r2
      refine ih _ _ (g2.elim (fun e => Or.inl e.1) (fun e => Or.inr ⟨e.1, by omega⟩)) (by omega) (hD.trans g1) (hd.to g4) (fun e => ?_) (fun e => ?_)
      · have g5 := sFp_0 (r := M1 67) nb (by rw [show fo sFp1 nb (M1 67, nI 0) = _ from g3]; exact e)
        cases f with
        | zero =>
          rw [← hf1, ← show (fo sFp1 nb (M1 67, nI 0)).1 = M2 67 from congrArg Prod.fst g3]
          exact g5
        | succ f =>
          rw [← hf1]
          show M2 67 = if (sFp nb (M1 67)).2 = nI 0 then (sFp nb (M1 67)).1 else _
          rw [g3, if_pos e]
      · have g5 := g2.resolve_left (fun q => absurd (q.1.symm.trans e) (by decide))
        cases f with
        | zero => omega
        | succ f =>
          refine ⟨f, ?_, by omega⟩
          rw [← hf1]
          show _ = if (sFp nb (M1 67)).2 = nI 0 then (sFp nb (M1 67)).1 else _
          rw [g3, if_neg (fun q : v2 = nI 0 => absurd (q.symm.trans e) (by decide))]
theorem m165b {nb np : Nat} (hW : Wf M) (hnb : M 67 1 = nI nb) (h8 : nb ≤ 8) (hnp : M 67 2 = nI np) (hp8 : np ≤ 8) : ∀ (n k : Nat) (M1 : mM), nb - k < n → k ≤ nb → Dy M M1 → Dd (sWorn (M 67) (M 66 6) np k (M 67)) M M1 → (∀ j, j < nb → M1 71 j = sWear (M 67) (M 66 6) np j) → mEv X (QV (fun M' => Dy M M' ∧ Dd (sDay (M 66 6) nb np (M 67)) M M')) 165 31 [some (.ref 66), some (.int (nI k)), none] [] (con M1) := by
  have hm : mMet 165 = some _ := rfl
  intro n
  induction n with
  | zero =>
    intro k M1 hkn hkb hD hd h71
    omega
  | succ n ih =>
    intro k M1 hkn hkb hD hd h71
    have hW1 := hD.1.1 hW
    have hn1 : M1 67 1 = nI nb := hD.1.2.1.trans hnb
    have hp1 : M1 67 2 = nI np := hD.1.2.2.1.trans hnp
    refine x_iload_n hm rfl rfl ?_
    refine x_aload_n hm rfl rfl ?_
    refine x_getf hm rfl (gR rfl rfl) ?_
    refine x_iconst hm rfl (v := nI 1) (by decide) ?_
    refine x_iald hm rfl (lI rfl (by omega) (by decide)) ?_
    rw [hn1]
    refine x_icmp_ge hm rfl (t := 66) rfl (fun h1 => ?_) (fun h1 => ?_)
    · obtain rfl : k = nb := Nat.le_antisymm hkb ((jI_le (by omega) (by omega)).mp h1)
      refine x_iconst hm rfl (v := nI 1) (by decide) ?_
      refine x_istore_n hm rfl rfl ?_
      exact m165c hW hnb h8 hnp hp8 _ _ _ (Or.inr ⟨rfl, Nat.lt_succ_self _⟩) (Nat.succ_pos _) hD (by rw [hd.1]; exact hd) (fun e => absurd e (by decide)) (fun _ => ⟨8, by rw [hd.1], Nat.le_trans (cnt_le _) h8⟩)
    · have hk : k < nb := Nat.lt_of_not_le fun h => h1 (nI_le h (by omega))
      refine x_aload_n hm rfl rfl ?_
      refine x_getf hm rfl (gR rfl rfl) ?_
      refine x_iload_n hm rfl rfl ?_
      refine x_iconst hm rfl (v := nI 2) (by decide) ?_
      refine x_callS hm rfl rfl (t137) ?_
      refine x_dup2 hm rfl rfl rfl ?_
      refine x_iald hm rfl (lI rfl (by omega) (by decide)) ?_
      refine x_aload_n hm rfl rfl ?_
      refine x_getf hm rfl (gR rfl rfl) ?_
      refine x_iload_n hm rfl rfl ?_
      refine x_iald hm rfl (lI rfl (by omega) (by decide)) ?_
      rw [h71 k hk]
      refine x_isub hm rfl ?_
      refine x_iast hm rfl (sI rfl (by omega) (by decide)) ?_
      refine x_iinc hm rfl rfl (v := nI 1) (by decide) rfl ?_
      rw [jI_add]
      refine x_goto hm rfl (t := 31) rfl ?_
      exact ih (k + 1) _ (by omega) (by omega) (hD.trans (Dy.put (Sf.thing (by omega) (by decide) (by decide) (by decide)) (by decide))) (by rw [hd.1]; exact hd.p67) (fun j hj => (congrFun (mpo (by decide)) j).trans (h71 j hj))
theorem m165a {nb np : Nat} (hW : Wf M) (hnb : M 67 1 = nI nb) (h8 : nb ≤ 8) (hnp : M 67 2 = nI np) (hp8 : np ≤ 8) : ∀ (n k : Nat) (M1 : mM), nb - k < n → k ≤ nb → Dy M M1 → Dd (M 67) M M1 → (∀ j, j < k → M1 71 j = sWear (M 67) (M 66 6) np j) → mEv X (QV (fun M' => Dy M M' ∧ Dd (sDay (M 66 6) nb np (M 67)) M M')) 165 2 [some (.ref 66), some (.int (nI k)), none] [] (con M1) := by
  have hm : mMet 165 = some _ := rfl
  intro n
  induction n with
  | zero =>
    intro k M1 hkn hkb hD hd h71
    omega
  | succ n ih =>
    intro k M1 hkn hkb hD hd h71
    have hW1 := hD.1.1 hW
    have hn1 : M1 67 1 = nI nb := hD.1.2.1.trans hnb
    have hp1 : M1 67 2 = nI np := hD.1.2.2.1.trans hnp
    refine x_iload_n hm rfl rfl ?_
    refine x_aload_n hm rfl rfl ?_
    refine x_getf hm rfl (gR rfl rfl) ?_
    refine x_iconst hm rfl (v := nI 1) (by decide) ?_
    refine x_iald hm rfl (lI rfl (by omega) (by decide)) ?_
    rw [hn1]
    refine x_icmp_ge hm rfl (t := 29) rfl (fun h1 => ?_) (fun h1 => ?_)
    · obtain rfl : k = nb := Nat.le_antisymm hkb ((jI_le (by omega) (by omega)).mp h1)
      refine x_iconst hm rfl (v := nI 0) (by decide) ?_
      refine x_istore_n hm rfl rfl ?_
      exact m165b hW hnb h8 hnp hp8 _ 0 _ (Nat.lt_succ_self _) (Nat.zero_le _) hD hd h71
    · have hk : k < nb := Nat.lt_of_not_le fun h => h1 (nI_le h (by omega))
      refine x_aload_n hm rfl rfl ?_
      refine x_getf hm rfl (gR rfl rfl) ?_
      refine x_iload_n hm rfl rfl ?_
      refine x_aload_n hm rfl rfl ?_
      refine x_iload_n hm rfl rfl ?_
      refine x_callV hm rfl rfl (e140 hW1 hp1 hp8 (by omega)) ?_
      rw [hd.1, hd.2 66 (by decide) (by decide)]
      refine x_iast hm rfl (sI rfl (by omega) (by decide)) ?_
      refine x_iinc hm rfl rfl (v := nI 1) (by decide) rfl ?_
      rw [jI_add]
      refine x_goto hm rfl (t := 2) rfl ?_
      refine ih (k + 1) _ (by omega) (by omega) (hD.trans (Dy.put (Sf.put0 (kd71 _) (by decide) (by decide)) (by decide))) hd.p71 (fun j hj => ?_)
      by_cases e : j = k
      · subst e
        exact mp0
      · exact (mpf e).trans (h71 j (by omega))
theorem e165 {nb np : Nat} (hW : Wf M) (hnb : M 67 1 = nI nb) (h8 : nb ≤ 8) (hnp : M 67 2 = nI np) (hp8 : np ≤ 8) : ∃ M', mT X 165 [.ref 66] (con M) none (con M') ∧ Dy M M' ∧ Dd (sDay (M 66 6) nb np (M 67)) M M' := by
  refine tv_of (row := _) rfl (Nat.le_of_ble_eq_true rfl) ?_
  have hm : mMet 165 = some _ := rfl
  refine x_iconst hm rfl (v := nI 0) (by decide) ?_
  refine x_istore_n hm rfl rfl ?_
  exact m165a hW hnb h8 hnp hp8 _ 0 _ (Nat.lt_succ_self _) (Nat.zero_le _) Dy.rf Dd.rf (fun j hj => absurd hj (Nat.not_lt_zero j))
theorem m164 {a : Nat} {nb np : Nat} (hW : Wf M) (hnb : M 67 1 = nI nb) (h8 : nb ≤ 8) (hnp : M 67 2 = nI np) (hp8 : np ≤ 8) (ha : a ≤ 1000) : ∀ (n k : Nat) (M1 : mM), a - k < n → k ≤ a → Dy M M1 → Dd (sDays (M 66 6) nb np k (M 67)) M M1 → mEv X (QV (fun M' => Dy M M' ∧ Dd (sDays (M 66 6) nb np a (M 67)) M M')) 164 2 [some (.ref 66), some (.int (nI a)), some (.int (nI k))] [] (con M1) := by
  have hm : mMet 164 = some _ := rfl
  intro n
  induction n with
  | zero =>
    intro k M1 hkn hkb hD hd
    omega
  | succ n ih =>
    intro k M1 hkn hkb hD hd
    refine x_iload_n hm rfl rfl ?_
    refine x_iload_n hm rfl rfl ?_
    refine x_icmp_ge hm rfl (t := 17) rfl (fun h1 => ?_) (fun h1 => ?_)
    · obtain rfl : k = a := Nat.le_antisymm hkb ((jI_le (by omega) (by omega)).mp h1)
      refine x_ret hm rfl rfl ?_
      exact ⟨_, rfl, rfl, hD, hd⟩
    · have hk : k < a := Nat.lt_of_not_le fun h => h1 (nI_le h (by omega))
      refine x_aload_n hm rfl rfl ?_
      refine x_cVv hm rfl rfl (e165 (hD.1.1 hW) (hD.1.2.1.trans hnb) h8 (hD.1.2.2.1.trans hnp) hp8) (fun M2 r2 => ?_)
      refine x_iinc hm rfl rfl (v := nI 1) (by decide) rfl ?_
      rw [jI_add]
      refine x_goto hm rfl (t := 2) rfl ?_
      exact ih (k + 1) _ (by omega) (by omega) (hD.trans r2.1) (by
        have h := hd.to r2.2
        rw [hd.1, hd.2 66 (by decide) (by decide)] at h
        exact h)
theorem e164 {a : Nat} {nb np : Nat} (hW : Wf M) (hnb : M 67 1 = nI nb) (h8 : nb ≤ 8) (hnp : M 67 2 = nI np) (hp8 : np ≤ 8) (ha : a ≤ 1000) : ∃ M', mT X 164 [.ref 66, .int (nI a)] (con M) none (con M') ∧ Dy M M' ∧ Dd (sDays (M 66 6) nb np a (M 67)) M M' := by
  refine tv_of (row := _) rfl (Nat.le_of_ble_eq_true rfl) ?_
  have hm : mMet 164 = some _ := rfl
  refine x_iconst hm rfl (v := nI 0) (by decide) ?_
  refine x_istore_n hm rfl rfl ?_
  exact m164 hW hnb h8 hnp hp8 ha _ 0 _ (Nat.lt_succ_self _) (Nat.zero_le _) Dy.rf Dd.rf
end EB
end
section
/-! ===== a town of the class against a row of the reference ===== -/
def Rel (b nt np : Nat) (M : mM) (r : Nat → Int32) : Prop :=
  M b 3 = nI nt ∧ M b 4 = nI np ∧ M b 5 = r 0 ∧ M b 6 = r 3 ∧ (∀ s, s < 10 → M (b + 16) s = r (4 + s)) ∧ (∀ f t, f < 6 → t < nt → M (b + 2 + f) t = r (14 + 6 * t + f)) ∧ (∀ f p, f < 7 → p < np → M (b + 9 + f) p = r (62 + 7 * p + f))
/-- the row is sound, as far as reading it goes -/
def Vs (nt np : Nat) (r : Nat → Int32) : Prop := nt ≤ 8 ∧ np ≤ 8 ∧ (∀ t, t < nt → (∃ k, k ≤ 3 ∧ r (14 + 6 * t + 0) = nI k) ∧ (r (14 + 6 * t + 4) = -1 ∨ ∃ k, k < np ∧ r (14 + 6 * t + 4) = nI k) ∧ (r (14 + 6 * t + 5) = -1 ∨ ∃ k, k < nt ∧ r (14 + 6 * t + 5) = nI k)) ∧ (∀ p, p < np → ∃ k, k ≤ 6 ∧ r (62 + 7 * p + 0) = nI k)
section RV
variable {b nt np : Nat} {M : mM} {r : Nat → Int32} {t p : Nat}
theorem Rel.sort (h : Rel b nt np M r) (ht : t < nt) : M (b + 2) t = r (14 + 6 * t + 0) := h.2.2.2.2.2.1 0 t (by decide) ht
theorem Rel.at_ (h : Rel b nt np M r) (ht : t < nt) : M (b + 3) t = r (14 + 6 * t + 1) := h.2.2.2.2.2.1 1 t (by decide) ht
theorem Rel.thick (h : Rel b nt np M r) (ht : t < nt) : M (b + 4) t = r (14 + 6 * t + 2) := h.2.2.2.2.2.1 2 t (by decide) ht
theorem Rel.paint (h : Rel b nt np M r) (ht : t < nt) : M (b + 5) t = r (14 + 6 * t + 3) := h.2.2.2.2.2.1 3 t (by decide) ht
theorem Rel.own (h : Rel b nt np M r) (ht : t < nt) : M (b + 6) t = r (14 + 6 * t + 4) := h.2.2.2.2.2.1 4 t (by decide) ht
theorem Rel.on (h : Rel b nt np M r) (ht : t < nt) : M (b + 7) t = r (14 + 6 * t + 5) := h.2.2.2.2.2.1 5 t (by decide) ht
theorem Rel.kind (h : Rel b nt np M r) (hp : p < np) : M (b + 9) p = r (62 + 7 * p + 0) := h.2.2.2.2.2.2 0 p (by decide) hp
theorem Rel.pat (h : Rel b nt np M r) (hp : p < np) : M (b + 10) p = r (62 + 7 * p + 1) := h.2.2.2.2.2.2 1 p (by decide) hp
theorem Rel.walk (h : Rel b nt np M r) (hp : p < np) : M (b + 11) p = r (62 + 7 * p + 2) := h.2.2.2.2.2.2 2 p (by decide) hp
theorem Rel.folk (h : Rel b nt np M r) {f : Nat} (hf : f < 7) (hp : p < np) : M (b + 9 + f) p = r (62 + 7 * p + f) := h.2.2.2.2.2.2 f p hf hp
theorem Rel.iron (h : Rel b nt np M r) {f : Nat} (hf : f < 6) (ht : t < nt) : M (b + 2 + f) t = r (14 + 6 * t + f) := h.2.2.2.2.2.1 f t hf ht
theorem Vs.t8 (h : Vs nt np r) (ht : t < nt) : t < 8 := Nat.lt_of_lt_of_le ht h.1
theorem Vs.p8 (h : Vs nt np r) (hp : p < np) : p < 8 := Nat.lt_of_lt_of_le hp h.2.1
theorem Vs.sort (h : Vs nt np r) (ht : t < nt) : ∃ k, k ≤ 3 ∧ r (14 + 6 * t + 0) = nI k := (h.2.2.1 t ht).1
theorem Vs.own (h : Vs nt np r) (ht : t < nt) : r (14 + 6 * t + 4) = -1 ∨ ∃ k, k < np ∧ r (14 + 6 * t + 4) = nI k := (h.2.2.1 t ht).2.1
theorem Vs.on (h : Vs nt np r) (ht : t < nt) : r (14 + 6 * t + 5) = -1 ∨ ∃ k, k < nt ∧ r (14 + 6 * t + 5) = nI k := (h.2.2.1 t ht).2.2
theorem Vs.kind (h : Vs nt np r) (hp : p < np) : ∃ k, k ≤ 6 ∧ r (62 + 7 * p + 0) = nI k := h.2.2.2 p hp
theorem Vs.of {q : Nat → Int32} (h : Vs nt np r) (h1 : ∀ t f, t < nt → (f = 0 ∨ f = 4 ∨ f = 5) → q (14 + 6 * t + f) = r (14 + 6 * t + f)) (h2 : ∀ p, p < np → q (62 + 7 * p + 0) = r (62 + 7 * p + 0)) : Vs nt np q := by
  refine ⟨h.1, h.2.1, fun t ht => ?_, fun p hp => ?_⟩
  · rw [h1 t 0 ht (Or.inl rfl), h1 t 4 ht (Or.inr (Or.inl rfl)), h1 t 5 ht (Or.inr (Or.inr rfl))]
    exact h.2.2.1 t ht
  · rw [h2 p hp]
    exact h.2.2.2 p hp
theorem put1_s {i : Nat} {v : Int32} : put1 r i v i = v := if_pos rfl
theorem put1_o {i j : Nat} {v : Int32} (h : j ≠ i) : put1 r i v j = r j := if_neg h
theorem Rel.pi {f : Nat} {v : Int32} (h : Rel b nt np M r) (h8 : nt ≤ 8) (hf : f < 6) (ht : t < nt) : Rel b nt np (mput M (b + 2 + f) t v) (put1 r (14 + 6 * t + f) v) := by
  obtain ⟨h1, h2, h3, h4, h5, h6, h7⟩ := h
  refine ⟨(mpn (by omega)).trans h1, (mpn (by omega)).trans h2, ?_, ?_, fun s hs => ?_, fun g u hg hu => ?_, fun g p hg hp => ?_⟩
  · rw [mpn (by omega), put1_o (by omega)]; exact h3
  · rw [mpn (by omega), put1_o (by omega)]; exact h4
  · rw [mpn (by omega), put1_o (by omega)]; exact h5 s hs
  · by_cases e : g = f ∧ u = t
    · obtain ⟨rfl, rfl⟩ := e
      rw [put1_s]
      exact mp0
    · rw [mpn (by omega), put1_o (by omega)]
      exact h6 g u hg hu
  · rw [mpn (by omega), put1_o (by omega)]
    exact h7 g p hg hp
theorem Rel.pf {f : Nat} {v : Int32} (h : Rel b nt np M r) (h8 : nt ≤ 8) (hf : f < 7) (hp : p < np) : Rel b nt np (mput M (b + 9 + f) p v) (put1 r (62 + 7 * p + f) v) := by
  obtain ⟨h1, h2, h3, h4, h5, h6, h7⟩ := h
  refine ⟨(mpn (by omega)).trans h1, (mpn (by omega)).trans h2, ?_, ?_, fun s hs => ?_, fun g u hg hu => ?_, fun g u hg hu => ?_⟩
  · rw [mpn (by omega), put1_o (by omega)]; exact h3
  · rw [mpn (by omega), put1_o (by omega)]; exact h4
  · rw [mpn (by omega), put1_o (by omega)]; exact h5 s hs
  · rw [mpn (by omega), put1_o (by omega)]
    exact h6 g u hg hu
  · by_cases e : g = f ∧ u = p
    · obtain ⟨rfl, rfl⟩ := e
      rw [put1_s]
      exact mp0
    · rw [mpn (by omega), put1_o (by omega)]
      exact h7 g u hg hu
theorem Rel.pd {v : Int32} (h : Rel b nt np M r) : Rel b nt np (mput M b 5 v) (put1 r 0 v) := by
  obtain ⟨h1, h2, h3, h4, h5, h6, h7⟩ := h
  refine ⟨(mpn (by omega)).trans h1, (mpn (by omega)).trans h2, mp0.trans put1_s.symm, ?_, fun s hs => ?_, fun g u hg hu => ?_, fun g u hg hu => ?_⟩
  · rw [mpn (by omega), put1_o (by omega)]; exact h4
  · rw [mpn (by omega), put1_o (by omega)]; exact h5 s hs
  · rw [mpn (by omega), put1_o (by omega)]; exact h6 g u hg hu
  · rw [mpn (by omega), put1_o (by omega)]; exact h7 g u hg hu
theorem Rel.pz {v : Int32} (h : Rel b nt np M r) : Rel b nt np (mput M b 6 v) (put1 r 3 v) := by
  obtain ⟨h1, h2, h3, h4, h5, h6, h7⟩ := h
  refine ⟨(mpn (by omega)).trans h1, (mpn (by omega)).trans h2, ?_, mp0.trans put1_s.symm, fun s hs => ?_, fun g u hg hu => ?_, fun g u hg hu => ?_⟩
  · rw [mpn (by omega), put1_o (by omega)]; exact h3
  · rw [mpn (by omega), put1_o (by omega)]; exact h5 s hs
  · rw [mpn (by omega), put1_o (by omega)]; exact h6 g u hg hu
  · rw [mpn (by omega), put1_o (by omega)]; exact h7 g u hg hu
/-- the town b became so; nothing else changed -/
def Tc (b nt np : Nat) (r : Nat → Int32) (M M' : mM) : Prop := Rel b nt np M' r ∧ M' b 7 = M b 7 ∧ ∀ a, (a < b ∨ b + 16 < a) → M' a = M a
theorem Tc.to {M1 M2 : mM} {q : Nat → Int32} (h : Tc b nt np r M M1) (g : Tc b nt np q M1 M2) : Tc b nt np q M M2 := ⟨g.1, g.2.1.trans h.2.1, fun a ha => (g.2.2 a ha).trans (h.2.2 a ha)⟩
theorem Tc.pi {M1 : mM} {f : Nat} {v : Int32} (h : Tc b nt np r M M1) (h8 : nt ≤ 8) (hf : f < 6) (ht : t < nt) : Tc b nt np (put1 r (14 + 6 * t + f) v) M (mput M1 (b + 2 + f) t v) := ⟨h.1.pi h8 hf ht, (mpn (by omega)).trans h.2.1, fun a ha => (mpo (by omega)).trans (h.2.2 a ha)⟩
theorem Tc.pf {M1 : mM} {f : Nat} {v : Int32} (h : Tc b nt np r M M1) (h8 : nt ≤ 8) (hf : f < 7) (hp : p < np) : Tc b nt np (put1 r (62 + 7 * p + f) v) M (mput M1 (b + 9 + f) p v) := ⟨h.1.pf h8 hf hp, (mpn (by omega)).trans h.2.1, fun a ha => (mpo (by omega)).trans (h.2.2 a ha)⟩
theorem Tc.pd {M1 : mM} {v : Int32} (h : Tc b nt np r M M1) : Tc b nt np (put1 r 0 v) M (mput M1 b 5 v) := ⟨h.1.pd, (mpn (by omega)).trans h.2.1, fun a ha => (mpo (by omega)).trans (h.2.2 a ha)⟩
theorem Tc.pz {M1 : mM} {v : Int32} (h : Tc b nt np r M M1) : Tc b nt np (put1 r 3 v) M (mput M1 b 6 v) := ⟨h.1.pz, (mpn (by omega)).trans h.2.1, fun a ha => (mpo (by omega)).trans (h.2.2 a ha)⟩
theorem Rel.tc (h : Rel b nt np M r) : Tc b nt np r M M := ⟨h, rfl, fun _ _ => rfl⟩
theorem addz {v : Int32} : v = v + nI 0 := (Int32.add_zero v).symm
theorem orz {v : Int32} : v = v ||| nI 0 := (Int32.or_zero (a := v)).symm
end RV
end
section
/-! ===== the class, exactly: towns read ===== -/
section EC
variable {X : mSc} {Q : Option Value → mHp → Prop} {M : mM} {b nt np : Nat} {r : Nat → Int32}
theorem ka_k : ∀ k, k ≤ 6 → mKA k = ab (nI k) ∧ (mKA k = -1 ∨ mKA k = nI 0 ∨ mKA k = nI 1 ∨ mKA k = nI 2 ∨ mKA k = nI 3 ∨ mKA k = nI 4 ∨ mKA k = nI 5 ∨ mKA k = nI 6) := by decide +kernel
theorem ka_r {k : Nat} (h : k ≤ 6) : mKA k < 0 ∨ ∃ j, j ≤ 6 ∧ mKA k = nI j := by
  rcases (ka_k k h).2 with e | e | e | e | e | e | e | e <;> rw [e]
  · exact Or.inl (by decide)
  · exact Or.inr ⟨0, by decide, rfl⟩
  · exact Or.inr ⟨1, by decide, rfl⟩
  · exact Or.inr ⟨2, by decide, rfl⟩
  · exact Or.inr ⟨3, by decide, rfl⟩
  · exact Or.inr ⟨4, by decide, rfl⟩
  · exact Or.inr ⟨5, by decide, rfl⟩
  · exact Or.inr ⟨6, by decide, rfl⟩
theorem m14 {k0 o : Int32} : ∀ (n i : Nat) (x : Int32), rkU x < n → i + n ≤ 7 → (x < 0 ∨ ∃ k, k ≤ 6 ∧ x = nI k) → mEv X (fun z D => z = some (.int (bI (uo n x o = true))) ∧ D = con M) 14 4 [some (.int k0), some (.int o), some (.int x), some (.int (nI i))] [] (con M) := by
  have hm : mMet 14 = some _ := rfl
  intro n
  induction n with
  | zero =>
    intro i x hx hin hk
    omega
  | succ n ih =>
    intro i x hx hin hk
    refine x_iload_n hm rfl rfl ?_
    refine x_bipush hm rfl (v := nI 7) (by decide) ?_
    refine x_icmp_ge hm rfl (t := 39) rfl (fun h1 => ?_) (fun h1 => ?_)
    · exact absurd ((jI_le (by decide) (by omega)).mp h1) (by omega) --stop
    · refine x_iload_n hm rfl rfl ?_
      refine x_if_lt hm rfl (t := 39) rfl (fun h2 => ?_) (fun h2 => ?_)
      · have hneg := h2
        refine x_iconst hm rfl (v := nI 0) (by decide) ?_
        refine x_iret hm rfl rfl (by first | rfl | exact bI_nar | decide) ?_
        first
          | exact qt (congrArg Value.int (bI_t (uo_eq hneg (by first | exact heq | exact Classical.byContradiction heq))))
          | exact qt (congrArg Value.int (bI_f (by rw [uo_neg hneg]; exact Bool.false_ne_true)))
      · obtain ⟨k, hk6, rfl⟩ := hk.resolve_left h2
        have hneg := h2
        refine x_iload_n hm rfl rfl ?_
        refine x_bipush hm rfl (v := nI 7) (by decide) ?_
        refine x_icmp_ge hm rfl (t := 39) rfl (fun h3 => ?_) (fun h3 => ?_)
        · exact absurd ((jI_le (by decide) (by omega)).mp h3) (by omega) --stop
        · refine x_iload_n hm rfl rfl ?_
          refine x_iload_n hm rfl rfl ?_
          refine x_icmp_ne hm rfl (t := 27) rfl (fun h4 => ?_) (fun h4 => ?_)
          · refine x_gets hm rfl ?_
            refine x_iload_n hm rfl rfl ?_
            refine x_iald hm rfl (lK (by omega)) ?_
            rw [(ka_k k hk6).1]
            refine x_istore_n hm rfl rfl ?_
            refine x_iinc hm rfl rfl (v := nI 1) (by decide) rfl ?_
            rw [jI_add]
            refine x_goto hm rfl (t := 4) rfl ?_
            rw [uo_ab hneg (by assumption)]
            exact ih _ _ (by have := ab_rk hneg; omega) (by omega) (by rw [← (ka_k k hk6).1]; exact ka_r hk6)
          · have heq := h4
            refine x_iconst hm rfl (v := nI 1) (by decide) ?_
            refine x_iret hm rfl rfl (by first | rfl | exact bI_nar | decide) ?_
            first
              | exact qt (congrArg Value.int (bI_t (uo_eq hneg (by first | exact heq | exact Classical.byContradiction heq))))
              | exact qt (congrArg Value.int (bI_f (by rw [uo_neg hneg]; exact Bool.false_ne_true)))
theorem e14 {k : Nat} {o : Int32} (hk : k ≤ 6) : mT X 14 [.int (nI k), .int o] (con M) (some (.int (bI (uo 5 (nI k) o = true)))) (con M) := by
  refine mT.of (row := _) rfl (Nat.le_of_ble_eq_true rfl) ?_
  have hm : mMet 14 = some _ := rfl
  refine x_iload_n hm rfl rfl ?_
  refine x_istore_n hm rfl rfl ?_
  refine x_iconst hm rfl (v := nI 0) (by decide) ?_
  refine x_istore_n hm rfl rfl ?_
  exact m14 5 0 _ (by have := rkU_le (nI k); omega) (by decide) (Or.inr ⟨k, hk, rfl⟩)
theorem kdE5c {k o th pl ri : Int32} (h : k.toInt = 1 + ((4 : Nat) : Int)) : pl * nI 2 = sKd k o th pl ri := by
  rw [Int32.mul_comm]
  exact kdE5 h
theorem mxq {v w : Int32} (h : v = w) : (if nI 0 < v then v else nI 0) = mx0 w := by rw [h]; rfl
theorem mxz {w : Int32} (h : nI 0 = w) : nI 0 = mx0 w := by
  rw [← h]
  rfl
theorem m13a {p t : Nat} {o v6 v7 : Int32} (hb : b = 1 ∨ b = 18 ∨ b = 35) (hR : Rel b nt np M r) (hV : Vs nt np r) (hp : p < np) (ht : t < nt) (ho : o = -1 ∨ ∃ k, k < np ∧ o = nI k) (h7 : v7 = sRi r o p t) : mEv X (fun z D => z = some (.int (mx0 (sKd (r (62 + 7 * p + 0)) o (r (14 + 6 * t + 2)) (sPl r p t) (sRi r o p t)))) ∧ D = con M) 13 87 [some (.ref b), some (.int o), some (.int (nI p)), some (.int (nI t)), some (.int (r (14 + 6 * t + 2))), some (.int (sPl r p t)), some (.int v6), some (.int v7)] [] (con M) := by
  have hm : mMet 13 = some _ := rfl
  subst h7
  have hp8 := hV.p8 hp
  have ht8 := hV.t8 ht
  refine x_aload_n hm rfl rfl ?_
  refine x_getf hm rfl (gR (tO hb) rfl) ?_
  refine x_iconst hm rfl (v := nI 0) (by decide) ?_
  refine x_aald hm rfl (by first | exact lQ 3 (Or.inr (Or.inl rfl)) (tI hb) rfl (by omega) (by decide) | exact lQ 3 (Or.inr (Or.inl rfl)) (tF hb) rfl (by omega) (by decide) | exact lQ 3 (Or.inr (Or.inl rfl)) (tI hb) (tIk (by omega)) (by omega) (by decide) | exact lQ 3 (Or.inr (Or.inl rfl)) (tF hb) (tFk (by omega)) (by omega) (by decide)) ?_
  refine x_iload_n hm rfl rfl ?_
  refine x_iald hm rfl (by first | exact lI (tRow hb (by omega)) (by omega) (by decide) | exact lI (tRowI hb (by omega)) (by omega) (by decide) | exact lI (tRowF hb (by omega)) (by omega) (by decide) | exact lI (tSp hb) (by omega) (by decide) | exact lI rfl (by omega) (by decide)) ?_
  rw [hR.kind hp]
  refine x_ts hm rfl (fun h1 => ⟨199, rfl, ?_⟩) (fun i1 h1 g1 => ?_)
  · refine x_iconst hm rfl (v := nI 0) (by decide) ?_
    refine x_iload hm rfl rfl ?_
    refine x_lib hm rfl rfl ?_
    dsimp only
    refine x_iret hm rfl rfl (by first | rfl | exact bI_nar | decide) ?_
    exact qt (congrArg Value.int (mxq (kdE0 h1)))
  · have k1 : i1 = 0 ∨ i1 = 1 ∨ i1 = 2 ∨ i1 = 3 ∨ i1 = 4 ∨ i1 = 5 := by omega
    rcases k1 with rfl | rfl | rfl | rfl | rfl | rfl
    · refine ⟨_, 132, rfl, rfl, ?_⟩
      refine x_iconst hm rfl (v := nI 0) (by decide) ?_
      refine x_iload hm rfl rfl ?_
      refine x_iconst hm rfl (v := nI 2) (by decide) ?_
      refine x_idiv hm rfl (by decide) ?_
      refine x_lib hm rfl rfl ?_
      dsimp only
      refine x_iret hm rfl rfl (by first | rfl | exact bI_nar | decide) ?_
      exact qt (congrArg Value.int (mxq (kdE1 h1)))
    · refine ⟨_, 141, rfl, rfl, ?_⟩
      refine x_iconst hm rfl (v := nI 0) (by decide) ?_
      refine x_iload hm rfl rfl ?_
      refine x_lib hm rfl rfl ?_
      dsimp only
      refine x_iret hm rfl rfl (by first | rfl | exact bI_nar | decide) ?_
      exact qt (congrArg Value.int (mxq (kdE2 h1)))
    · refine ⟨_, 148, rfl, rfl, ?_⟩
      refine x_iconst hm rfl (v := nI 0) (by decide) ?_
      refine x_iload hm rfl rfl ?_
      refine x_iconst hm rfl (v := nI 3) (by decide) ?_
      refine x_isub hm rfl ?_
      refine x_lib hm rfl rfl ?_
      dsimp only
      refine x_iret hm rfl rfl (by first | rfl | exact bI_nar | decide) ?_
      exact qt (congrArg Value.int (mxq (kdE3 h1)))
    · refine ⟨_, 157, rfl, rfl, ?_⟩
      refine x_iconst hm rfl (v := nI 0) (by decide) ?_
      refine x_iload hm rfl rfl ?_
      refine x_iconst hm rfl (v := nI 3) (by decide) ?_
      refine x_isub hm rfl ?_
      refine x_iload hm rfl rfl ?_
      refine x_bipush hm rfl (v := nI 100) (by decide) ?_
      refine x_idiv hm rfl (by decide) ?_
      refine x_iadd hm rfl ?_
      refine x_lib hm rfl rfl ?_
      dsimp only
      refine x_iret hm rfl rfl (by first | rfl | exact bI_nar | decide) ?_
      exact qt (congrArg Value.int (mxq (kdE4 h1)))
    · refine ⟨_, 172, rfl, rfl, ?_⟩
      refine x_iconst hm rfl (v := nI 0) (by decide) ?_
      refine x_iload hm rfl rfl ?_
      refine x_iconst hm rfl (v := nI 2) (by decide) ?_
      refine x_imul hm rfl ?_
      refine x_lib hm rfl rfl ?_
      dsimp only
      refine x_iret hm rfl rfl (by first | rfl | exact bI_nar | decide) ?_
      exact qt (congrArg Value.int (mxq (kdE5c h1)))
    · refine ⟨_, 181, rfl, rfl, ?_⟩
      refine x_iload_n hm rfl rfl ?_
      refine x_iconst hm rfl (v := (-1 : Int32)) (by decide) ?_
      refine x_icmp_ne hm rfl (t := 190) rfl (fun h2 => ?_) (fun h2 => ?_)
      · have hbg : 0 ≤ o := by
          obtain ⟨k, hk, e⟩ := ho.resolve_left h2
          rw [e]
          exact ge0 (by have := hV.2.1; omega)
        refine x_iconst hm rfl (v := nI 0) (by decide) ?_
        refine x_iload hm rfl rfl ?_
        refine x_iconst hm rfl (v := nI 2) (by decide) ?_
        refine x_idiv hm rfl (by decide) ?_
        refine x_lib hm rfl rfl ?_
        dsimp only
        refine x_iret hm rfl rfl (by first | rfl | exact bI_nar | decide) ?_
        first
          | exact qt (congrArg Value.int (mxz (kdE7 h1 (by rw [hb6]; decide))))
          | exact qt (congrArg Value.int (mxq (kdE6 h1 hbg)))
      · have hb6 : o = -1 := h2
        refine x_iconst hm rfl (v := nI 0) (by decide) ?_
        refine x_goto hm rfl (t := 198) rfl ?_
        refine x_iret hm rfl rfl (by first | rfl | exact bI_nar | decide) ?_
        first
          | exact qt (congrArg Value.int (mxz (kdE7 h1 (by rw [hb6]; decide))))
          | exact qt (congrArg Value.int (mxq (kdE6 h1 hbg)))
theorem m13z {p t : Nat} {o : Int32} (hb : b = 1 ∨ b = 18 ∨ b = 35) (hR : Rel b nt np M r) (hV : Vs nt np r) (hp : p < np) (ht : t < nt) (ho : o = -1 ∨ ∃ k, k < np ∧ o = nI k) (hri : sRi r o p t = sPl r p t) : mEv X (fun z D => z = some (.int (mx0 (sKd (r (62 + 7 * p + 0)) o (r (14 + 6 * t + 2)) (sPl r p t) (sRi r o p t)))) ∧ D = con M) 13 72 [some (.ref b), some (.int o), some (.int (nI p)), some (.int (nI t)), some (.int (r (14 + 6 * t + 2))), some (.int (sPl r p t)), some (.int (nI 0)), none] [] (con M) := by
  have hm : mMet 13 = some _ := rfl
  refine x_iload hm rfl rfl ?_
  refine x_iload hm rfl rfl ?_
  refine x_if_eq hm rfl (t := 83) rfl (fun h1 => ?_) (fun h1 => ?_)
  · refine x_iconst hm rfl (v := nI 0) (by decide) ?_
    refine x_iadd hm rfl ?_
    refine x_istore hm rfl rfl ?_
    exact m13a hb hR hV hp ht ho (addz.symm.trans hri.symm)
  · exact absurd rfl h1 --stop
theorem m13o {p t : Nat} {o : Int32} (hb : b = 1 ∨ b = 18 ∨ b = 35) (hR : Rel b nt np M r) (hV : Vs nt np r) (hp : p < np) (ht : t < nt) (ho : o = -1 ∨ ∃ k, k < np ∧ o = nI k) (hri : sRi r o p t = sPl r p t + nI 2) : mEv X (fun z D => z = some (.int (mx0 (sKd (r (62 + 7 * p + 0)) o (r (14 + 6 * t + 2)) (sPl r p t) (sRi r o p t)))) ∧ D = con M) 13 72 [some (.ref b), some (.int o), some (.int (nI p)), some (.int (nI t)), some (.int (r (14 + 6 * t + 2))), some (.int (sPl r p t)), some (.int (nI 1)), none] [] (con M) := by
  have hm : mMet 13 = some _ := rfl
  refine x_iload hm rfl rfl ?_
  refine x_iload hm rfl rfl ?_
  refine x_if_eq hm rfl (t := 83) rfl (fun h1 => ?_) (fun h1 => ?_)
  · exact absurd h1 (by decide) --stop
  · refine x_iconst hm rfl (v := nI 2) (by decide) ?_
    refine x_goto hm rfl (t := 84) rfl ?_
    refine x_iadd hm rfl ?_
    refine x_istore hm rfl rfl ?_
    exact m13a hb hR hV hp ht ho (hri.symm)
theorem e13 {p t : Nat} {o : Int32} (hb : b = 1 ∨ b = 18 ∨ b = 35) (hR : Rel b nt np M r) (hV : Vs nt np r) (hp : p < np) (ht : t < nt) (ho : o = -1 ∨ ∃ k, k < np ∧ o = nI k) : mT X 13 [.ref b, .int o, .int (nI p), .int (nI t)] (con M) (some (.int (if r (14 + 6 * t + 2) = 0 then nI 0 else mx0 (sKd (r (62 + 7 * p + 0)) o (r (14 + 6 * t + 2)) (sPl r p t) (sRi r o p t))))) (con M) := by
  refine mT.of (row := _) rfl (Nat.le_of_ble_eq_true rfl) ?_
  have hm : mMet 13 = some _ := rfl
  have hp8 := hV.p8 hp
  have ht8 := hV.t8 ht
  obtain ⟨s, hs3, hs⟩ := hV.sort ht
  have hpl : r (62 + 7 * p + (3 + s)) - r (14 + 6 * t + 3) = sPl r p t := by
    unfold sPl
    rw [hs, jI_nat (by omega)]
  refine x_aload_n hm rfl rfl ?_
  refine x_getf hm rfl (gR (tO hb) rfl) ?_
  refine x_iconst hm rfl (v := nI 2) (by decide) ?_
  refine x_aald hm rfl (by first | exact lQ 3 (Or.inr (Or.inl rfl)) (tI hb) rfl (by omega) (by decide) | exact lQ 3 (Or.inr (Or.inl rfl)) (tF hb) rfl (by omega) (by decide) | exact lQ 3 (Or.inr (Or.inl rfl)) (tI hb) (tIk (by omega)) (by omega) (by decide) | exact lQ 3 (Or.inr (Or.inl rfl)) (tF hb) (tFk (by omega)) (by omega) (by decide)) ?_
  refine x_iload_n hm rfl rfl ?_
  refine x_iald hm rfl (by first | exact lI (tRow hb (by omega)) (by omega) (by decide) | exact lI (tRowI hb (by omega)) (by omega) (by decide) | exact lI (tRowF hb (by omega)) (by omega) (by decide) | exact lI (tSp hb) (by omega) (by decide) | exact lI rfl (by omega) (by decide)) ?_
  rw [hR.thick ht]
  refine x_istore hm rfl rfl ?_
  refine x_iload hm rfl rfl ?_
  refine x_if_ne hm rfl (t := 17) rfl (fun h1 => ?_) (fun h1 => ?_)
  · have hth := h1
    refine x_aload_n hm rfl rfl ?_
    refine x_getf hm rfl (gR (tO hb) rfl) ?_
    refine x_iconst hm rfl (v := nI 3) (by decide) ?_
    refine x_aload_n hm rfl rfl ?_
    refine x_getf hm rfl (gR (tO hb) rfl) ?_
    refine x_iconst hm rfl (v := nI 0) (by decide) ?_
    refine x_aald hm rfl (by first | exact lQ 3 (Or.inr (Or.inl rfl)) (tI hb) rfl (by omega) (by decide) | exact lQ 3 (Or.inr (Or.inl rfl)) (tF hb) rfl (by omega) (by decide) | exact lQ 3 (Or.inr (Or.inl rfl)) (tI hb) (tIk (by omega)) (by omega) (by decide) | exact lQ 3 (Or.inr (Or.inl rfl)) (tF hb) (tFk (by omega)) (by omega) (by decide)) ?_
    refine x_iload_n hm rfl rfl ?_
    refine x_iald hm rfl (by first | exact lI (tRow hb (by omega)) (by omega) (by decide) | exact lI (tRowI hb (by omega)) (by omega) (by decide) | exact lI (tRowF hb (by omega)) (by omega) (by decide) | exact lI (tSp hb) (by omega) (by decide) | exact lI rfl (by omega) (by decide)) ?_
    rw [hR.sort ht, hs]
    refine x_iadd hm rfl ?_
    rw [jI_add]
    refine x_aald hm rfl (by first | exact lQ 3 (Or.inr (Or.inl rfl)) (tI hb) rfl (by omega) (by decide) | exact lQ 3 (Or.inr (Or.inl rfl)) (tF hb) rfl (by omega) (by decide) | exact lQ 3 (Or.inr (Or.inl rfl)) (tI hb) (tIk (by omega)) (by omega) (by decide) | exact lQ 3 (Or.inr (Or.inl rfl)) (tF hb) (tFk (by omega)) (by omega) (by decide)) ?_
    refine x_iload_n hm rfl rfl ?_
    refine x_iald hm rfl (by first | exact lI (tRow hb (by omega)) (by omega) (by decide) | exact lI (tRowI hb (by omega)) (by omega) (by decide) | exact lI (tRowF hb (by omega)) (by omega) (by decide) | exact lI (tSp hb) (by omega) (by decide) | exact lI rfl (by omega) (by decide)) ?_
    rw [hR.folk (f := 3 + s) (by omega) hp]
    refine x_aload_n hm rfl rfl ?_
    refine x_getf hm rfl (gR (tO hb) rfl) ?_
    refine x_iconst hm rfl (v := nI 3) (by decide) ?_
    refine x_aald hm rfl (by first | exact lQ 3 (Or.inr (Or.inl rfl)) (tI hb) rfl (by omega) (by decide) | exact lQ 3 (Or.inr (Or.inl rfl)) (tF hb) rfl (by omega) (by decide) | exact lQ 3 (Or.inr (Or.inl rfl)) (tI hb) (tIk (by omega)) (by omega) (by decide) | exact lQ 3 (Or.inr (Or.inl rfl)) (tF hb) (tFk (by omega)) (by omega) (by decide)) ?_
    refine x_iload_n hm rfl rfl ?_
    refine x_iald hm rfl (by first | exact lI (tRow hb (by omega)) (by omega) (by decide) | exact lI (tRowI hb (by omega)) (by omega) (by decide) | exact lI (tRowF hb (by omega)) (by omega) (by decide) | exact lI (tSp hb) (by omega) (by decide) | exact lI rfl (by omega) (by decide)) ?_
    rw [hR.paint ht]
    refine x_isub hm rfl ?_
    rw [hpl]
    refine x_istore hm rfl rfl ?_
    refine x_iload_n hm rfl rfl ?_
    refine x_iconst hm rfl (v := (-1 : Int32)) (by decide) ?_
    refine x_icmp_eq hm rfl (t := 69) rfl (fun h2 => ?_) (fun h2 => ?_)
    · have hri : sRi r o p t = sPl r p t := by
        unfold sRi
        rw [if_neg (fun q => q.1 (by rw [h2]; decide))]
      refine x_iconst hm rfl (v := nI 0) (by decide) ?_
      refine x_istore hm rfl rfl ?_
      rw [if_neg hth]
      first
        | exact m13z hb hR hV hp ht ho hri
        | exact m13o hb hR hV hp ht ho hri
    · obtain ⟨k, hk, rfl⟩ := ho.resolve_left h2
      obtain ⟨kk, hk6, hkk⟩ := hV.kind hk
      have hk8 := hV.p8 hk
      refine x_aload_n hm rfl rfl ?_
      refine x_getf hm rfl (gR (tO hb) rfl) ?_
      refine x_iconst hm rfl (v := nI 0) (by decide) ?_
      refine x_aald hm rfl (by first | exact lQ 3 (Or.inr (Or.inl rfl)) (tI hb) rfl (by omega) (by decide) | exact lQ 3 (Or.inr (Or.inl rfl)) (tF hb) rfl (by omega) (by decide) | exact lQ 3 (Or.inr (Or.inl rfl)) (tI hb) (tIk (by omega)) (by omega) (by decide) | exact lQ 3 (Or.inr (Or.inl rfl)) (tF hb) (tFk (by omega)) (by omega) (by decide)) ?_
      refine x_iload_n hm rfl rfl ?_
      refine x_iald hm rfl (by first | exact lI (tRow hb (by omega)) (by omega) (by decide) | exact lI (tRowI hb (by omega)) (by omega) (by decide) | exact lI (tRowF hb (by omega)) (by omega) (by decide) | exact lI (tSp hb) (by omega) (by decide) | exact lI rfl (by omega) (by decide)) ?_
      rw [hR.kind hk, hkk]
      refine x_iconst hm rfl (v := nI 2) (by decide) ?_
      refine x_callS hm rfl rfl (e14 hk6) ?_
      refine x_if_eq hm rfl (t := 69) rfl (fun h3 => ?_) (fun h3 => ?_)
      · have hri : sRi r (nI k) p t = sPl r p t := by
          unfold sRi
          rw [jI_nat (by omega), hkk, if_neg (fun q => bI_eq0.mp h3 q.2)]
        refine x_iconst hm rfl (v := nI 0) (by decide) ?_
        refine x_istore hm rfl rfl ?_
        rw [if_neg hth]
        first
          | exact m13z hb hR hV hp ht ho hri
          | exact m13o hb hR hV hp ht ho hri
      · have hri : sRi r (nI k) p t = sPl r p t + nI 2 := by
          unfold sRi
          rw [jI_nat (by omega), hkk, if_pos ⟨jI_nn (by omega), bI_ne0 h3⟩]
        refine x_iconst hm rfl (v := nI 1) (by decide) ?_
        refine x_goto hm rfl (t := 70) rfl ?_
        refine x_istore hm rfl rfl ?_
        rw [if_neg hth]
        first
          | exact m13z hb hR hV hp ht ho hri
          | exact m13o hb hR hV hp ht ho hri
  · refine x_iconst hm rfl (v := nI 0) (by decide) ?_
    refine x_iret hm rfl rfl (by first | rfl | exact bI_nar | decide) ?_
    exact qt (congrArg Value.int (if_pos (by assumption)).symm)
theorem e12 {p t : Nat} (hb : b = 1 ∨ b = 18 ∨ b = 35) (hR : Rel b nt np M r) (hV : Vs nt np r) (hp : p < np) (ht : t < nt) : mT X 12 [.ref b, .int (nI p), .int (nI t)] (con M) (some (.int (sEnv r (M b 7) (r (14 + 6 * t + 4)) p t))) (con M) := by
  refine mT.of (row := _) rfl (Nat.le_of_ble_eq_true rfl) ?_
  have hm : mMet 12 = some _ := rfl
  have hp8 := hV.p8 hp
  have ht8 := hV.t8 ht
  refine x_aload_n hm rfl rfl ?_
  refine x_getf hm rfl (gR (tO hb) rfl) ?_
  refine x_iconst hm rfl (v := nI 4) (by decide) ?_
  refine x_aald hm rfl (by first | exact lQ 3 (Or.inr (Or.inl rfl)) (tI hb) rfl (by omega) (by decide) | exact lQ 3 (Or.inr (Or.inl rfl)) (tF hb) rfl (by omega) (by decide) | exact lQ 3 (Or.inr (Or.inl rfl)) (tI hb) (tIk (by omega)) (by omega) (by decide) | exact lQ 3 (Or.inr (Or.inl rfl)) (tF hb) (tFk (by omega)) (by omega) (by decide)) ?_
  refine x_iload_n hm rfl rfl ?_
  refine x_iald hm rfl (by first | exact lI (tRow hb (by omega)) (by omega) (by decide) | exact lI (tRowI hb (by omega)) (by omega) (by decide) | exact lI (tRowF hb (by omega)) (by omega) (by decide) | exact lI (tSp hb) (by omega) (by decide) | exact lI rfl (by omega) (by decide)) ?_
  rw [hR.own ht]
  refine x_istore_n hm rfl rfl ?_
  refine x_iload_n hm rfl rfl ?_
  refine x_iload_n hm rfl rfl ?_
  refine x_icmp_eq hm rfl (t := 22) rfl (fun h1 => ?_) (fun h1 => ?_)
  · refine x_iconst hm rfl (v := nI 0) (by decide) ?_
    refine x_goto hm rfl (t := 33) rfl ?_
    refine x_iret hm rfl rfl (by first | rfl | exact bI_nar | decide) ?_
    refine qt (congrArg Value.int ?_)
    unfold sEnv
    first
      | exact ifp (Or.inl (by assumption))
      | exact ifp (Or.inr (Or.inr (by assumption)))
      | (split
         · rename_i hz
           exact ifp (Or.inr (Or.inl hz))
         · rename_i hz
           refine ifn ?_
           rintro (q | q | q)
           · exact h1 q
           · exact hz q
           · exact h2 q)
  · refine x_iload_n hm rfl rfl ?_
    refine x_aload_n hm rfl rfl ?_
    refine x_getf hm rfl (gI (tO hb) rfl) ?_
    refine x_icmp_ne hm rfl (t := 26) rfl (fun h2 => ?_) (fun h2 => ?_)
    · refine x_aload_n hm rfl rfl ?_
      refine x_iload_n hm rfl rfl ?_
      refine x_iload_n hm rfl rfl ?_
      refine x_iload_n hm rfl rfl ?_
      refine x_callV hm rfl (mCallT hb (by decide) rfl rfl rfl rfl rfl) (e13 hb hR hV hp ht (hV.own ht)) ?_
      refine x_iret hm rfl rfl (by first | rfl | exact bI_nar | decide) ?_
      refine qt (congrArg Value.int ?_)
      unfold sEnv
      first
        | exact ifp (Or.inl (by assumption))
        | exact ifp (Or.inr (Or.inr (by assumption)))
        | (split
           · rename_i hz
             exact ifp (Or.inr (Or.inl hz))
           · rename_i hz
             refine ifn ?_
             rintro (q | q | q)
             · exact h1 q
             · exact hz q
             · exact h2 q)
    · refine x_iconst hm rfl (v := nI 0) (by decide) ?_
      refine x_goto hm rfl (t := 33) rfl ?_
      refine x_iret hm rfl rfl (by first | rfl | exact bI_nar | decide) ?_
      refine qt (congrArg Value.int ?_)
      unfold sEnv
      first
        | exact ifp (Or.inl (by assumption))
        | exact ifp (Or.inr (Or.inr (by assumption)))
        | (split
           · rename_i hz
             exact ifp (Or.inr (Or.inl hz))
           · rename_i hz
             refine ifn ?_
             rintro (q | q | q)
             · exact h1 q
             · exact hz q
             · exact h2 q)
theorem m11 {t : Nat} (hb : b = 1 ∨ b = 18 ∨ b = 35) (hR : Rel b nt np M r) (hV : Vs nt np r) (ht : t < nt) : ∀ (n k : Nat) (s : Int32), np - k < n → k ≤ np → s = sWs r (M b 7) t k → mEv X (fun z D => z = some (.int (sWear r (M b 7) np t)) ∧ D = con M) 11 14 [some (.ref b), some (.int (nI t)), some (.int s), some (.int (r (14 + 6 * t + 1))), some (.int (nI k))] [] (con M) := by
  have hm : mMet 11 = some _ := rfl
  intro n
  induction n with
  | zero =>
    intro k s hkn hkb hs
    omega
  | succ n ih =>
    intro k s hkn hkb hs
    obtain ⟨hnb, hmb, -⟩ := id hR
    have h8 := hV.1
    have hp8 := hV.2.1
    refine x_iload hm rfl rfl ?_
    refine x_aload_n hm rfl rfl ?_
    refine x_getf hm rfl (gI (tO hb) rfl) ?_
    rw [hmb]
    refine x_icmp_ge hm rfl (t := 52) rfl (fun h1 => ?_) (fun h1 => ?_)
    · obtain rfl : k = np := Nat.le_antisymm hkb ((jI_le (by omega) (by omega)).mp h1)
      refine x_iload_n hm rfl rfl ?_
      refine x_aload_n hm rfl rfl ?_
      refine x_getf hm rfl (gR (tO hb) rfl) ?_
      refine x_iconst hm rfl (v := nI 2) (by decide) ?_
      refine x_aald hm rfl (by first | exact lQ 3 (Or.inr (Or.inl rfl)) (tI hb) rfl (by omega) (by decide) | exact lQ 3 (Or.inr (Or.inl rfl)) (tF hb) rfl (by omega) (by decide) | exact lQ 3 (Or.inr (Or.inl rfl)) (tI hb) (tIk (by omega)) (by omega) (by decide) | exact lQ 3 (Or.inr (Or.inl rfl)) (tF hb) (tFk (by omega)) (by omega) (by decide)) ?_
      refine x_iload_n hm rfl rfl ?_
      refine x_iald hm rfl (by first | exact lI (tRow hb (by omega)) (by omega) (by decide) | exact lI (tRowI hb (by omega)) (by omega) (by decide) | exact lI (tRowF hb (by omega)) (by omega) (by decide) | exact lI (tSp hb) (by omega) (by decide) | exact lI rfl (by omega) (by decide)) ?_
      rw [hR.thick ht]
      refine x_lib hm rfl rfl ?_
      dsimp only
      refine x_iret hm rfl rfl (by first | rfl | exact bI_nar | decide) ?_
      rw [hs]
      exact ⟨rfl, rfl⟩
    · have hk : k < np := Nat.lt_of_not_le fun h => h1 (nI_le h (by omega))
      refine x_aload_n hm rfl rfl ?_
      refine x_getf hm rfl (gR (tO hb) rfl) ?_
      refine x_iconst hm rfl (v := nI 1) (by decide) ?_
      refine x_aald hm rfl (by first | exact lQ 3 (Or.inr (Or.inl rfl)) (tI hb) rfl (by omega) (by decide) | exact lQ 3 (Or.inr (Or.inl rfl)) (tF hb) rfl (by omega) (by decide) | exact lQ 3 (Or.inr (Or.inl rfl)) (tI hb) (tIk (by omega)) (by omega) (by decide) | exact lQ 3 (Or.inr (Or.inl rfl)) (tF hb) (tFk (by omega)) (by omega) (by decide)) ?_
      refine x_iload hm rfl rfl ?_
      refine x_iald hm rfl (by first | exact lI (tRow hb (by omega)) (by omega) (by decide) | exact lI (tRowI hb (by omega)) (by omega) (by decide) | exact lI (tRowF hb (by omega)) (by omega) (by decide) | exact lI (tSp hb) (by omega) (by decide) | exact lI rfl (by omega) (by decide)) ?_
      rw [hR.pat hk]
      refine x_iload_n hm rfl rfl ?_
      refine x_icmp_ne hm rfl (t := 46) rfl (fun h2 => ?_) (fun h2 => ?_)
      · refine x_iinc hm rfl rfl (v := nI 1) (by decide) rfl ?_
        rw [jI_add]
        refine x_goto hm rfl (t := 14) rfl ?_
        first
          | exact ih _ _ (by omega) (by omega) (by rw [hs]; exact congrArg (fun z => sWs r (M b 7) t k + z) (ifp (by first | assumption | exact bI_ne0 (by assumption))))
          | exact ih _ _ (by omega) (by omega) (by rw [hs]; exact (addz).trans (congrArg (fun z => sWs r (M b 7) t k + z) (ifn (by first | assumption | exact bI_eq0.mp (by assumption)))))
      · refine x_iload_n hm rfl rfl ?_
        refine x_aload_n hm rfl rfl ?_
        refine x_iload hm rfl rfl ?_
        refine x_iload_n hm rfl rfl ?_
        refine x_callV hm rfl (mCallT hb (by decide) rfl rfl rfl rfl rfl) (e12 hb hR hV hk ht) ?_
        refine x_iadd hm rfl ?_
        refine x_istore_n hm rfl rfl ?_
        refine x_iinc hm rfl rfl (v := nI 1) (by decide) rfl ?_
        rw [jI_add]
        refine x_goto hm rfl (t := 14) rfl ?_
        first
          | exact ih _ _ (by omega) (by omega) (by rw [hs]; exact congrArg (fun z => sWs r (M b 7) t k + z) (ifp (by first | assumption | exact bI_ne0 (by assumption))))
          | exact ih _ _ (by omega) (by omega) (by rw [hs]; exact (addz).trans (congrArg (fun z => sWs r (M b 7) t k + z) (ifn (by first | assumption | exact bI_eq0.mp (by assumption)))))
theorem e11 {t : Nat} (hb : b = 1 ∨ b = 18 ∨ b = 35) (hR : Rel b nt np M r) (hV : Vs nt np r) (ht : t < nt) : mT X 11 [.ref b, .int (nI t)] (con M) (some (.int (sWear r (M b 7) np t))) (con M) := by
  refine mT.of (row := _) rfl (Nat.le_of_ble_eq_true rfl) ?_
  have hm : mMet 11 = some _ := rfl
  obtain ⟨hnb, hmb, -⟩ := id hR
  have h8 := hV.1
  have hp8 := hV.2.1
  refine x_iconst hm rfl (v := nI 0) (by decide) ?_
  refine x_istore_n hm rfl rfl ?_
  refine x_aload_n hm rfl rfl ?_
  refine x_getf hm rfl (gR (tO hb) rfl) ?_
  refine x_iconst hm rfl (v := nI 1) (by decide) ?_
  refine x_aald hm rfl (by first | exact lQ 3 (Or.inr (Or.inl rfl)) (tI hb) rfl (by omega) (by decide) | exact lQ 3 (Or.inr (Or.inl rfl)) (tF hb) rfl (by omega) (by decide) | exact lQ 3 (Or.inr (Or.inl rfl)) (tI hb) (tIk (by omega)) (by omega) (by decide) | exact lQ 3 (Or.inr (Or.inl rfl)) (tF hb) (tFk (by omega)) (by omega) (by decide)) ?_
  refine x_iload_n hm rfl rfl ?_
  refine x_iald hm rfl (by first | exact lI (tRow hb (by omega)) (by omega) (by decide) | exact lI (tRowI hb (by omega)) (by omega) (by decide) | exact lI (tRowF hb (by omega)) (by omega) (by decide) | exact lI (tSp hb) (by omega) (by decide) | exact lI rfl (by omega) (by decide)) ?_
  rw [hR.at_ ht]
  refine x_istore_n hm rfl rfl ?_
  refine x_iconst hm rfl (v := nI 0) (by decide) ?_
  refine x_istore hm rfl rfl ?_
  exact m11 hb hR hV ht _ 0 _ (Nat.lt_succ_self _) (Nat.zero_le _) rfl
theorem m35 (hb : b = 1 ∨ b = 18 ∨ b = 35) (hR : Rel b nt np M r) (hV : Vs nt np r) : ∀ (n k : Nat) (s : Int32), nt - k < n → k ≤ nt → s = sGone r k → mEv X (fun z D => z = some (.int (sGone r nt)) ∧ D = con M) 35 4 [some (.ref b), some (.int s), some (.int (nI k))] [] (con M) := by
  have hm : mMet 35 = some _ := rfl
  intro n
  induction n with
  | zero =>
    intro k s hkn hkb hs
    omega
  | succ n ih =>
    intro k s hkn hkb hs
    obtain ⟨hnb, hmb, -⟩ := id hR
    have h8 := hV.1
    have hp8 := hV.2.1
    refine x_iload_n hm rfl rfl ?_
    refine x_aload_n hm rfl rfl ?_
    refine x_getf hm rfl (gI (tO hb) rfl) ?_
    rw [hnb]
    refine x_icmp_ge hm rfl (t := 32) rfl (fun h1 => ?_) (fun h1 => ?_)
    · obtain rfl : k = nt := Nat.le_antisymm hkb ((jI_le (by omega) (by omega)).mp h1)
      refine x_iload_n hm rfl rfl ?_
      refine x_iret hm rfl rfl (by first | rfl | exact bI_nar | decide) ?_
      rw [hs]
      exact ⟨rfl, rfl⟩
    · have hk : k < nt := Nat.lt_of_not_le fun h => h1 (nI_le h (by omega))
      refine x_aload_n hm rfl rfl ?_
      refine x_iload_n hm rfl rfl ?_
      refine x_callV hm rfl (mCallT hb (by decide) rfl rfl rfl rfl rfl) (t32 hb (by omega)) ?_
      rw [hR.thick hk]
      refine x_if_eq hm rfl (t := 26) rfl (fun h2 => ?_) (fun h2 => ?_)
      · refine x_iinc hm rfl rfl (v := nI 1) (by decide) rfl ?_
        rw [jI_add]
        refine x_goto hm rfl (t := 4) rfl ?_
        first
          | exact ih _ _ (by omega) (by omega) (by rw [hs]; exact congrArg (fun z => sGone r k ||| z) (ifp (by first | assumption | exact bI_ne0 (by assumption))))
          | exact ih _ _ (by omega) (by omega) (by rw [hs]; exact (orz).trans (congrArg (fun z => sGone r k ||| z) (ifn (by first | assumption | exact bI_eq0.mp (by assumption)))))
      · refine x_iload_n hm rfl rfl ?_
        refine x_iconst hm rfl (v := nI 1) (by decide) ?_
        refine x_iload_n hm rfl rfl ?_
        refine x_ishl hm rfl ?_
        refine x_ior hm rfl ?_
        refine x_istore_n hm rfl rfl ?_
        refine x_iinc hm rfl rfl (v := nI 1) (by decide) rfl ?_
        rw [jI_add]
        refine x_goto hm rfl (t := 4) rfl ?_
        first
          | exact ih _ _ (by omega) (by omega) (by rw [hs]; exact congrArg (fun z => sGone r k ||| z) (ifp (by first | assumption | exact bI_ne0 (by assumption))))
          | exact ih _ _ (by omega) (by omega) (by rw [hs]; exact (orz).trans (congrArg (fun z => sGone r k ||| z) (ifn (by first | assumption | exact bI_eq0.mp (by assumption)))))
theorem e35 (hb : b = 1 ∨ b = 18 ∨ b = 35) (hR : Rel b nt np M r) (hV : Vs nt np r) : mT X 35 [.ref b] (con M) (some (.int (sGone r nt))) (con M) := by
  refine mT.of (row := _) rfl (Nat.le_of_ble_eq_true rfl) ?_
  have hm : mMet 35 = some _ := rfl
  obtain ⟨hnb, hmb, -⟩ := id hR
  have h8 := hV.1
  have hp8 := hV.2.1
  refine x_iconst hm rfl (v := nI 0) (by decide) ?_
  refine x_istore_n hm rfl rfl ?_
  refine x_iconst hm rfl (v := nI 0) (by decide) ?_
  refine x_istore_n hm rfl rfl ?_
  exact m35 hb hR hV _ 0 _ (Nat.lt_succ_self _) (Nat.zero_le _) rfl
theorem m38 (hb : b = 1 ∨ b = 18 ∨ b = 35) (hR : Rel b nt np M r) (hV : Vs nt np r) : ∀ (n k : Nat) (s : Int32), nt - k < n → k ≤ nt → s = sThick r k → mEv X (fun z D => z = some (.int (sThick r nt)) ∧ D = con M) 38 4 [some (.ref b), some (.int s), some (.int (nI k))] [] (con M) := by
  have hm : mMet 38 = some _ := rfl
  intro n
  induction n with
  | zero =>
    intro k s hkn hkb hs
    omega
  | succ n ih =>
    intro k s hkn hkb hs
    obtain ⟨hnb, hmb, -⟩ := id hR
    have h8 := hV.1
    have hp8 := hV.2.1
    refine x_iload_n hm rfl rfl ?_
    refine x_aload_n hm rfl rfl ?_
    refine x_getf hm rfl (gI (tO hb) rfl) ?_
    rw [hnb]
    refine x_icmp_ge hm rfl (t := 29) rfl (fun h1 => ?_) (fun h1 => ?_)
    · obtain rfl : k = nt := Nat.le_antisymm hkb ((jI_le (by omega) (by omega)).mp h1)
      refine x_iload_n hm rfl rfl ?_
      refine x_iret hm rfl rfl (by first | rfl | exact bI_nar | decide) ?_
      rw [hs]
      exact ⟨rfl, rfl⟩
    · have hk : k < nt := Nat.lt_of_not_le fun h => h1 (nI_le h (by omega))
      refine x_iload_n hm rfl rfl ?_
      refine x_aload_n hm rfl rfl ?_
      refine x_getf hm rfl (gR (tO hb) rfl) ?_
      refine x_iconst hm rfl (v := nI 2) (by decide) ?_
      refine x_aald hm rfl (by first | exact lQ 3 (Or.inr (Or.inl rfl)) (tI hb) rfl (by omega) (by decide) | exact lQ 3 (Or.inr (Or.inl rfl)) (tF hb) rfl (by omega) (by decide) | exact lQ 3 (Or.inr (Or.inl rfl)) (tI hb) (tIk (by omega)) (by omega) (by decide) | exact lQ 3 (Or.inr (Or.inl rfl)) (tF hb) (tFk (by omega)) (by omega) (by decide)) ?_
      refine x_iload_n hm rfl rfl ?_
      refine x_iald hm rfl (by first | exact lI (tRow hb (by omega)) (by omega) (by decide) | exact lI (tRowI hb (by omega)) (by omega) (by decide) | exact lI (tRowF hb (by omega)) (by omega) (by decide) | exact lI (tSp hb) (by omega) (by decide) | exact lI rfl (by omega) (by decide)) ?_
      rw [hR.thick hk]
      refine x_iadd hm rfl ?_
      refine x_istore_n hm rfl rfl ?_
      refine x_iinc hm rfl rfl (v := nI 1) (by decide) rfl ?_
      rw [jI_add]
      refine x_goto hm rfl (t := 4) rfl ?_
      exact ih _ _ (by omega) (by omega) (by rw [hs]; rfl)
theorem e38 (hb : b = 1 ∨ b = 18 ∨ b = 35) (hR : Rel b nt np M r) (hV : Vs nt np r) : mT X 38 [.ref b] (con M) (some (.int (sThick r nt))) (con M) := by
  refine mT.of (row := _) rfl (Nat.le_of_ble_eq_true rfl) ?_
  have hm : mMet 38 = some _ := rfl
  obtain ⟨hnb, hmb, -⟩ := id hR
  have h8 := hV.1
  have hp8 := hV.2.1
  refine x_iconst hm rfl (v := nI 0) (by decide) ?_
  refine x_istore_n hm rfl rfl ?_
  refine x_iconst hm rfl (v := nI 0) (by decide) ?_
  refine x_istore_n hm rfl rfl ?_
  exact m38 hb hR hV _ 0 _ (Nat.lt_succ_self _) (Nat.zero_le _) rfl
theorem m25 {a : Int32} (hb : b = 1 ∨ b = 18 ∨ b = 35) (hR : Rel b nt np M r) (hV : Vs nt np r) : ∀ (n k : Nat) (s : Int32), nt - k < n → k ≤ nt → s = sOwned r a k → mEv X (fun z D => z = some (.int (sOwned r a nt)) ∧ D = con M) 25 4 [some (.ref b), some (.int a), some (.int s), some (.int (nI k))] [] (con M) := by
  have hm : mMet 25 = some _ := rfl
  intro n
  induction n with
  | zero =>
    intro k s hkn hkb hs
    omega
  | succ n ih =>
    intro k s hkn hkb hs
    obtain ⟨hnb, hmb, -⟩ := id hR
    have h8 := hV.1
    have hp8 := hV.2.1
    refine x_iload_n hm rfl rfl ?_
    refine x_aload_n hm rfl rfl ?_
    refine x_getf hm rfl (gI (tO hb) rfl) ?_
    rw [hnb]
    refine x_icmp_ge hm rfl (t := 36) rfl (fun h1 => ?_) (fun h1 => ?_)
    · obtain rfl : k = nt := Nat.le_antisymm hkb ((jI_le (by omega) (by omega)).mp h1)
      refine x_iload_n hm rfl rfl ?_
      refine x_iret hm rfl rfl (by first | rfl | exact bI_nar | decide) ?_
      rw [hs]
      exact ⟨rfl, rfl⟩
    · have hk : k < nt := Nat.lt_of_not_le fun h => h1 (nI_le h (by omega))
      refine x_aload_n hm rfl rfl ?_
      refine x_getf hm rfl (gR (tO hb) rfl) ?_
      refine x_iconst hm rfl (v := nI 4) (by decide) ?_
      refine x_aald hm rfl (by first | exact lQ 3 (Or.inr (Or.inl rfl)) (tI hb) rfl (by omega) (by decide) | exact lQ 3 (Or.inr (Or.inl rfl)) (tF hb) rfl (by omega) (by decide) | exact lQ 3 (Or.inr (Or.inl rfl)) (tI hb) (tIk (by omega)) (by omega) (by decide) | exact lQ 3 (Or.inr (Or.inl rfl)) (tF hb) (tFk (by omega)) (by omega) (by decide)) ?_
      refine x_iload_n hm rfl rfl ?_
      refine x_iald hm rfl (by first | exact lI (tRow hb (by omega)) (by omega) (by decide) | exact lI (tRowI hb (by omega)) (by omega) (by decide) | exact lI (tRowF hb (by omega)) (by omega) (by decide) | exact lI (tSp hb) (by omega) (by decide) | exact lI rfl (by omega) (by decide)) ?_
      rw [hR.own hk]
      refine x_iload_n hm rfl rfl ?_
      refine x_icmp_ne hm rfl (t := 30) rfl (fun h2 => ?_) (fun h2 => ?_)
      · refine x_iinc hm rfl rfl (v := nI 1) (by decide) rfl ?_
        rw [jI_add]
        refine x_goto hm rfl (t := 4) rfl ?_
        first
          | exact ih _ _ (by omega) (by omega) (by rw [hs]; exact congrArg (fun z => sOwned r a k ||| z) (ifp (by first | assumption | exact bI_ne0 (by assumption))))
          | exact ih _ _ (by omega) (by omega) (by rw [hs]; exact (orz).trans (congrArg (fun z => sOwned r a k ||| z) (ifn (by first | assumption | exact bI_eq0.mp (by assumption)))))
      · refine x_iload_n hm rfl rfl ?_
        refine x_iconst hm rfl (v := nI 1) (by decide) ?_
        refine x_iload_n hm rfl rfl ?_
        refine x_ishl hm rfl ?_
        refine x_ior hm rfl ?_
        refine x_istore_n hm rfl rfl ?_
        refine x_iinc hm rfl rfl (v := nI 1) (by decide) rfl ?_
        rw [jI_add]
        refine x_goto hm rfl (t := 4) rfl ?_
        first
          | exact ih _ _ (by omega) (by omega) (by rw [hs]; exact congrArg (fun z => sOwned r a k ||| z) (ifp (by first | assumption | exact bI_ne0 (by assumption))))
          | exact ih _ _ (by omega) (by omega) (by rw [hs]; exact (orz).trans (congrArg (fun z => sOwned r a k ||| z) (ifn (by first | assumption | exact bI_eq0.mp (by assumption)))))
theorem e25 {a : Int32} (hb : b = 1 ∨ b = 18 ∨ b = 35) (hR : Rel b nt np M r) (hV : Vs nt np r) : mT X 25 [.ref b, .int a] (con M) (some (.int (sOwned r a nt))) (con M) := by
  refine mT.of (row := _) rfl (Nat.le_of_ble_eq_true rfl) ?_
  have hm : mMet 25 = some _ := rfl
  obtain ⟨hnb, hmb, -⟩ := id hR
  have h8 := hV.1
  have hp8 := hV.2.1
  refine x_iconst hm rfl (v := nI 0) (by decide) ?_
  refine x_istore_n hm rfl rfl ?_
  refine x_iconst hm rfl (v := nI 0) (by decide) ?_
  refine x_istore_n hm rfl rfl ?_
  exact m25 hb hR hV _ 0 _ (Nat.lt_succ_self _) (Nat.zero_le _) rfl
end EC
end
