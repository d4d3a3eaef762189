/-! ===== the constructors: how the world comes to be ===== -/
section CV
variable {X : mSc} {Q : Option Value → mHp → Prop} {mid pc : Nat} {L : mLoc} {st : List Value} {D D0 l l2 : mHp} {row : mRow} {ex : Nat × Nat × Nat × Nat × Nat × Int} {i k a b d n : Nat}
theorem x_new {idx j kd a b : Nat} {z : Int} (hm : mMet mid = some row) (hf : mFetch mid pc = some (.new idx, 3, j, kd, a, b, z)) (hd : D.length = d) {D2 : mHp} (hD : D ++ [.inr (a, mDf a)] = D2) (k : mEv X Q mid (pc + 3) L (.ref d :: st) D2) : mEv X Q mid pc L st D := ev_inl hm hf (q := (pc + 3, L, .ref d :: st, D2)) (by rw [← hd, ← hD]; rfl) k
theorem jn_ok (hn : n ≤ 1000) : ¬ (nI n < 0 ∨ 1000 < (nI n).toNatClampNeg) := by
  rw [jI_nat (by omega)]
  rintro (h | h)
  · exact jI_nn (by omega) h
  · omega
theorem x_nai (hm : mMet mid = some row) (hf : mFetch mid pc = some (.newarray .int, ex)) (hn : n ≤ 1000) (hd : D.length = d) {D2 : mHp} (hD : D ++ [.inl (0, n, .inl (fun _ => 0))] = D2) (k : mEv X Q mid (pc + 2) L (.ref d :: st) D2) : mEv X Q mid pc L (.int (nI n) :: st) D := ev_inl hm hf (q := (pc + 2, L, .ref d :: st, D2)) (by unfold mStep; dsimp only; rw [if_neg (jn_ok hn), jI_nat (by omega), hd, ← hD]; rfl) k
theorem x_nab (hm : mMet mid = some row) (hf : mFetch mid pc = some (.newarray .byte, ex)) (hn : n ≤ 1000) (hd : D.length = d) {D2 : mHp} (hD : D ++ [.inl (1, n, .inl (fun _ => 0))] = D2) (k : mEv X Q mid (pc + 2) L (.ref d :: st) D2) : mEv X Q mid pc L (.int (nI n) :: st) D := ev_inl hm hf (q := (pc + 2, L, .ref d :: st, D2)) (by unfold mStep; dsimp only; rw [if_neg (jn_ok hn), jI_nat (by omega), hd, ← hD]; rfl) k
theorem x_ana {idx j kd a b : Nat} {z : Int} (hm : mMet mid = some row) (hf : mFetch mid pc = some (.anewarray idx, 3, j, kd, a, b, z)) (hn : n ≤ 1000) (hd : D.length = d) {D2 : mHp} (hD : D ++ [.inl (a, n, .inr (.inr (.inr (.inr (fun _ => none)))))] = D2) (k : mEv X Q mid (pc + 3) L (.ref d :: st) D2) : mEv X Q mid pc L (.int (nI n) :: st) D := ev_inl hm hf (q := (pc + 3, L, .ref d :: st, D2)) (by unfold mStep; dsimp only; rw [if_neg (jn_ok hn), jI_nat (by omega), hd, ← hD]; rfl) k
theorem x_mul {idx m j kd a b : Nat} {z : Int} (hm : mMet mid = some row) (hf : mFetch mid pc = some (.multianewarray idx 2, 4, j, kd, a, b, z)) (hn : n ≤ 1000) (hk : m ≤ 1000) (hd : D.length = d) {D2 : mHp} (hD : D ++ (.inl (3, n, .inr (.inr (.inr (.inr (fun i => if i < n then some (d + 1 + i) else none))))) :: List.replicate n (.inl (0, m, .inl (fun _ => 0)))) = D2) (k : mEv X Q mid (pc + 4) L (.ref d :: st) D2) : mEv X Q mid pc L (.int (nI m) :: .int (nI n) :: st) D := ev_inl hm hf (q := (pc + 4, L, .ref d :: st, D2)) (by
    have h1 := jn_ok hn
    have h2 := jn_ok hk
    have hneg : ¬ (nI n < 0 ∨ nI m < 0 ∨ 1000 < (nI n).toNatClampNeg ∨ 1000 < (nI m).toNatClampNeg) := fun h => h.elim (fun q => h1 (Or.inl q)) fun h => h.elim (fun q => h2 (Or.inl q)) fun h => h.elim (fun q => h1 (Or.inr q)) (fun q => h2 (Or.inr q))
    show (if nI n < 0 ∨ nI m < 0 ∨ 1000 < (nI n).toNatClampNeg ∨ 1000 < (nI m).toNatClampNeg then none else mNx (pc + 4) L (.ref D.length :: st) (D ++ (.inl (3, (nI n).toNatClampNeg, .inr (.inr (.inr (.inr (fun i => if i < (nI n).toNatClampNeg then some (D.length + 1 + i) else none))))) :: List.replicate (nI n).toNatClampNeg (.inl (0, (nI m).toNatClampNeg, .inl (fun _ => 0)))))) = _
    rw [if_neg hneg, jI_nat (k := n) (by omega), jI_nat (k := m) (by omega), hd, hD]
    rfl) k
theorem x_aast {v : Nat} {D1 : mHp} {j : Int32} (hm : mMet mid = some row) (hf : mFetch mid pc = some (.aastore, ex)) (hv : mStQ D i j v = some D1) (k : mEv X Q mid (pc + 1) L st D1) : mEv X Q mid pc L (.ref v :: .int j :: .ref i :: st) D := ev_inl hm hf (q := (pc + 1, L, st, D1)) (by unfold mStep; dsimp only; rw [hv]; rfl) k
theorem app_at (hi : D0.length = i) : (D0 ++ l)[i + k]? = l[k]? := by
  rw [List.getElem?_append_right (by omega)]
  congr 1
  omega
theorem app_set (hi : D0.length = i) {c : va_E} : (D0 ++ l).set (i + k) c = D0 ++ l.set k c := by
  rw [List.set_append_right _ _ (by omega)]
  congr 2
  omega
theorem a_put {kd : Nat} {v : Value} (hi : D0.length = i) (h : mPut row kd l k a b v = some l2) : mPut row kd (D0 ++ l) (i + k) a b v = some (D0 ++ l2) := by
  unfold mPut at h ⊢
  rw [app_at hi]
  cases h0 : l[k]? with
  | none => rw [h0] at h; cases h
  | some c =>
    rw [h0] at h
    cases c with
    | inl q => cases h
    | inr o =>
      obtain ⟨c, fs⟩ := o
      dsimp only at h ⊢
      obtain ⟨hB, hl⟩ := mCond_eq h
      rw [hB, app_set hi, Option.some.inj hl]
      rfl
theorem a_get {v : Value} (hi : D0.length = i) (h : mGet l k a b = some v) : mGet (D0 ++ l) (i + k) a b = some v := by
  unfold mGet at h ⊢
  rw [app_at hi]
  exact h
theorem app_sn {x : mHp} (h : l ++ x = l2) : (D0 ++ l) ++ x = D0 ++ l2 := by rw [List.append_assoc, h]
theorem a_len (hi : D0.length = i) (h : l.length = k) : (D0 ++ l).length = i + k := by rw [List.length_append, hi, h]
def spF (k : Nat) : Nat → Int32 := fun j => if j < k then -1 else 0
theorem spF_0 : (fun _ => 0 : Nat → Int32) = spF 0 := by
  funext j
  exact (if_neg (Nat.not_lt_zero j)).symm
theorem spF_s (k : Nat) : upd (spF k) k (-1) = spF (k + 1) := by
  funext j
  unfold upd spF
  by_cases h : j = k
  · rw [if_pos h, if_pos (by omega)]
  · rw [if_neg h]
    by_cases h2 : j < k
    · rw [if_pos h2, if_pos (by omega)]
    · rw [if_neg h2, if_neg (by omega)]
def nwF (k : Nat) : Nat → Int32 := fun j => if j = 3 then 1 else if 4 ≤ j ∧ j < 4 + k then -1 else 0
theorem nwF_0 : upd (fun _ => 0) 3 (nI 1) = nwF 0 := by
  funext j
  unfold upd nwF
  by_cases h : j = 3
  · rw [if_pos h, if_pos h]; rfl
  · rw [if_neg h, if_neg h, if_neg (by omega)]
theorem nwF_s (k : Nat) : upd (nwF k) (4 + k) (-1) = nwF (k + 1) := by
  funext j
  unfold upd nwF
  by_cases h : j = 4 + k
  · rw [if_pos h, if_neg (by omega), if_pos (by omega)]
  · rw [if_neg h]
    by_cases h3 : j = 3
    · rw [if_pos h3, if_pos h3]
    · rw [if_neg h3, if_neg h3]
      by_cases h2 : 4 ≤ j ∧ j < 4 + k
      · rw [if_pos h2, if_pos (by omega)]
      · rw [if_neg h2, if_neg (by omega)]
theorem st_set {f : Nat → Int32} {m : Nat} {v : Int32} (ha : a < D.length) (hk : k < m) (hm : m ≤ 1000) : mStI 0 (D.set a (.inl (0, m, .inl f))) a (nI k) v = some (D.set a (.inl (0, m, .inl (upd f k v)))) := by
  unfold mStI
  rw [List.getElem?_set_self ha]
  dsimp only
  rw [jI_out hk hm, jI_nat (by omega), List.set_set]
  rfl
def mrL (l : List Nat) : Nat → Option Nat := fun j => l[j]?
theorem mr6 {d : Nat} : (fun i => if i < 6 then some (d + 1 + i) else none) = mrL [d + 1, d + 2, d + 3, d + 4, d + 5, d + 6] := by
  funext j
  unfold mrL
  match j with
  | 0 | 1 | 2 | 3 | 4 | 5 => rfl
  | n + 6 => rw [if_neg (by omega)]; rfl
theorem mr7 {d : Nat} : (fun i => if i < 7 then some (d + 1 + i) else none) = mrL [d + 1, d + 2, d + 3, d + 4, d + 5, d + 6, d + 7] := by
  funext j
  unfold mrL
  match j with
  | 0 | 1 | 2 | 3 | 4 | 5 | 6 => rfl
  | n + 7 => rw [if_neg (by omega)]; rfl
theorem c4 (hi : D0.length = i) : mT X 4 [.ref i] (D0 ++ [.inr (0, mDf 0)]) none (D0 ++ [.inr (0, [.ref (i + 1), .int 0, .int 0]), .inl (0, 40, .inl (fun _ => 0))]) := by
  refine mT.of (row := _) rfl (Nat.le_of_ble_eq_true rfl) ?_
  have hm : mMet 4 = some _ := rfl
  refine x_aload_n hm rfl rfl ?_
  refine x_libI hm rfl rfl ?_
  dsimp only
  refine x_aload_n hm rfl rfl ?_
  refine x_bipush hm rfl (v := nI 40) (by decide) ?_
  refine x_nai hm rfl (by decide) (a_len (k := 1) hi rfl) (D2 := D0 ++ [.inr (0, [.null, .int 0, .int 0]), .inl (0, 40, .inl (fun _ => 0))]) (app_sn rfl) ?_
  refine x_putf hm rfl (a_put (k := 0) (l2 := [.inr (0, [.ref (i + 1), .int 0, .int 0]), .inl (0, 40, .inl (fun _ => 0))]) hi rfl) ?_
  refine x_aload_n hm rfl rfl ?_
  refine x_iconst hm rfl (v := nI 0) (by decide) ?_
  refine x_putf hm rfl (a_put (k := 0) (l2 := [.inr (0, [.ref (i + 1), .int 0, .int 0]), .inl (0, 40, .inl (fun _ => 0))]) hi rfl) ?_
  refine x_aload_n hm rfl rfl ?_
  refine x_iconst hm rfl (v := nI 0) (by decide) ?_
  refine x_putf hm rfl (a_put (k := 0) (l2 := [.inr (0, [.ref (i + 1), .int 0, .int 0]), .inl (0, 40, .inl (fun _ => 0))]) hi rfl) ?_
  refine x_ret hm rfl rfl ?_
  exact ⟨rfl, rfl⟩
theorem c3 (hi : D0.length = i) : mT X 3 [.ref i] (D0 ++ [.inr (1, mDf 1)]) none (D0 ++ [.inr (1, [.ref (i + 1), .int 0, .int 0, .int 0, .int 0, .int 0, .int (-1)]), .inl (1, 120, .inl (fun _ => 0))]) := by
  refine mT.of (row := _) rfl (Nat.le_of_ble_eq_true rfl) ?_
  have hm : mMet 3 = some _ := rfl
  refine x_aload_n hm rfl rfl ?_
  refine x_libI hm rfl rfl ?_
  dsimp only
  refine x_aload_n hm rfl rfl ?_
  refine x_bipush hm rfl (v := nI 120) (by decide) ?_
  refine x_nab hm rfl (by decide) (a_len (k := 1) hi rfl) (D2 := D0 ++ [.inr (1, [.null, .int 0, .int 0, .int 0, .int 0, .int 0, .int 0]), .inl (1, 120, .inl (fun _ => 0))]) (app_sn rfl) ?_
  refine x_putf hm rfl (a_put (k := 0) (l2 := [.inr (1, [.ref (i + 1), .int 0, .int 0, .int 0, .int 0, .int 0, .int 0]), .inl (1, 120, .inl (fun _ => 0))]) hi rfl) ?_
  refine x_aload_n hm rfl rfl ?_
  refine x_iconst hm rfl (v := nI 0) (by decide) ?_
  refine x_putf hm rfl (a_put (k := 0) (l2 := [.inr (1, [.ref (i + 1), .int 0, .int 0, .int 0, .int 0, .int 0, .int 0]), .inl (1, 120, .inl (fun _ => 0))]) hi rfl) ?_
  refine x_aload_n hm rfl rfl ?_
  refine x_iconst hm rfl (v := nI 0) (by decide) ?_
  refine x_putf hm rfl (a_put (k := 0) (l2 := [.inr (1, [.ref (i + 1), .int 0, .int 0, .int 0, .int 0, .int 0, .int 0]), .inl (1, 120, .inl (fun _ => 0))]) hi rfl) ?_
  refine x_aload_n hm rfl rfl ?_
  refine x_iconst hm rfl (v := nI 0) (by decide) ?_
  refine x_putf hm rfl (a_put (k := 0) (l2 := [.inr (1, [.ref (i + 1), .int 0, .int 0, .int 0, .int 0, .int 0, .int 0]), .inl (1, 120, .inl (fun _ => 0))]) hi rfl) ?_
  refine x_aload_n hm rfl rfl ?_
  refine x_iconst hm rfl (v := nI 0) (by decide) ?_
  refine x_putf hm rfl (a_put (k := 0) (l2 := [.inr (1, [.ref (i + 1), .int 0, .int 0, .int 0, .int 0, .int 0, .int 0]), .inl (1, 120, .inl (fun _ => 0))]) hi rfl) ?_
  refine x_aload_n hm rfl rfl ?_
  refine x_iconst hm rfl (v := nI 0) (by decide) ?_
  refine x_putf hm rfl (a_put (k := 0) (l2 := [.inr (1, [.ref (i + 1), .int 0, .int 0, .int 0, .int 0, .int 0, .int 0]), .inl (1, 120, .inl (fun _ => 0))]) hi rfl) ?_
  refine x_aload_n hm rfl rfl ?_
  refine x_iconst hm rfl (v := (-1 : Int32)) (by decide) ?_
  refine x_putf hm rfl (a_put (k := 0) (l2 := [.inr (1, [.ref (i + 1), .int 0, .int 0, .int 0, .int 0, .int 0, .int (-1)]), .inl (1, 120, .inl (fun _ => 0))]) hi rfl) ?_
  refine x_ret hm rfl rfl ?_
  exact ⟨rfl, rfl⟩
noncomputable def townL (i : Nat) : mHp := [.inr (2, [.ref (i + 1), .ref (i + 8), .ref (i + 16), .int 0, .int 0, .int 0, .int 1, .int (-1)]), .inl (3, 6, .inr (.inr (.inr (.inr (mrL [i + 2, i + 3, i + 4, i + 5, i + 6, i + 7])))))] ++ List.replicate 6 (.inl (0, 8, .inl (fun _ => 0))) ++ [.inl (3, 7, .inr (.inr (.inr (.inr (mrL [i + 9, i + 10, i + 11, i + 12, i + 13, i + 14, i + 15])))))] ++ List.replicate 7 (.inl (0, 8, .inl (fun _ => 0))) ++ [.inl (0, 10, .inl (spF 10))]
theorem c2l {c : Nat} (hO : ∀ f, mGet (D.set c (.inl (0, 10, .inl f))) i 2 2 = some (.ref c)) (hc : c < D.length) : ∀ (n k : Nat), 10 - k < n → k ≤ 10 → mEv X (fun r D' => r = none ∧ D' = D.set c (.inl (0, 10, .inl (spF 10)))) 2 63 [some (.ref i), some (.int (nI k))] [] (D.set c (.inl (0, 10, .inl (spF k)))) := by
  have hm : mMet 2 = some _ := rfl
  intro n
  induction n with
  | zero =>
    intro k hkn hkb
    omega
  | succ n ih =>
    intro k hkn hkb
    refine x_iload_n hm rfl rfl ?_
    refine x_bipush hm rfl (v := nI 10) (by decide) ?_
    refine x_icmp_ge hm rfl (t := 82) rfl (fun h1 => ?_) (fun h1 => ?_)
    · obtain rfl : k = 10 := Nat.le_antisymm hkb ((jI_le (by decide) (by omega)).mp h1)
      refine x_ret hm rfl rfl ?_
      exact ⟨rfl, rfl⟩
    · have hk : k < 10 := Nat.lt_of_not_le fun h => h1 (nI_le h (by omega))
      refine x_aload_n hm rfl rfl ?_
      refine x_getf hm rfl (hO _) ?_
      refine x_iload_n hm rfl rfl ?_
      refine x_iconst hm rfl (v := (-1 : Int32)) (by decide) ?_
      refine x_iast hm rfl (st_set hc hk (by decide)) ?_
      rw [spF_s]
      refine x_iinc hm rfl rfl (v := nI 1) (by decide) rfl ?_
      rw [jI_add]
      refine x_goto hm rfl (t := 63) rfl ?_
      exact ih (k + 1) (by omega) (by omega)
end CV
