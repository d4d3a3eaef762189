/-! ===== the constructors: how the world comes to be ===== -/
section CV
variable {X : mSc} {Q : Option Value → mHp → Prop} {mid pc : Nat} {L : mLoc} {st : List Value} {D D0 l l2 : mHp} {row : mRow} {ex : Nat × Nat × Nat × Nat × Nat × Int} {i k a b d n : Nat}
theorem x_new {idx j kd a b : Nat} {z : Int} (hm : mMet mid = some row) (hf : mFetch mid pc = some (.new idx, 3, j, kd, a, b, z)) (hd : D.length = d) {D2 : mHp} (hD : D ++ [.inr (a, mDf a)] = D2) (k : mEv X Q mid (pc + 3) L (.ref d :: st) D2) : mEv X Q mid pc L st D := ev_inl hm hf (q := (pc + 3, L, .ref d :: st, D2)) (by rw [← hd, ← hD]; rfl) k
theorem jn_ok (hn : n ≤ 1000) : ¬ (nI n < 0 ∨ 1000 < (nI n).toNatClampNeg) := by
  rw [jI_nat (by omega)]
  rintro (h | h)
  · exact jI_nn (by omega) h
  · omega
theorem x_nai (hm : mMet mid = some row) (hf : mFetch mid pc = some (.newarray .int, ex)) (hn : n ≤ 1000) (hd : D.length = d) {D2 : mHp} (hD : D ++ [.inl (0, n, .inl (fun _ => 0))] = D2) (k : mEv X Q mid (pc + 2) L (.ref d :: st) D2) : mEv X Q mid pc L (.int (nI n) :: st) D := ev_inl hm hf (q := (pc + 2, L, .ref d :: st, D2)) (by unfold mStep; dsimp only; rw [if_neg (jn_ok hn), jI_nat (by omega), hd, ← hD]; rfl) k
theorem x_nab (hm : mMet mid = some row) (hf : mFetch mid pc = some (.newarray .byte, ex)) (hn : n ≤ 1000) (hd : D.length = d) {D2 : mHp} (hD : D ++ [.inl (1, n, .inl (fun _ => 0))] = D2) (k : mEv X Q mid (pc + 2) L (.ref d :: st) D2) : mEv X Q mid pc L (.int (nI n) :: st) D := ev_inl hm hf (q := (pc + 2, L, .ref d :: st, D2)) (by unfold mStep; dsimp only; rw [if_neg (jn_ok hn), jI_nat (by omega), hd, ← hD]; rfl) k
theorem x_ana {idx j kd a b : Nat} {z : Int} (hm : mMet mid = some row) (hf : mFetch mid pc = some (.anewarray idx, 3, j, kd, a, b, z)) (hn : n ≤ 1000) (hd : D.length = d) {D2 : mHp} (hD : D ++ [.inl (a, n, .inr (.inr (.inr (.inr (fun _ => none)))))] = D2) (k : mEv X Q mid (pc + 3) L (.ref d :: st) D2) : mEv X Q mid pc L (.int (nI n) :: st) D := ev_inl hm hf (q := (pc + 3, L, .ref d :: st, D2)) (by unfold mStep; dsimp only; rw [if_neg (jn_ok hn), jI_nat (by omega), hd, ← hD]; rfl) k
theorem x_mul {idx m j kd a b : Nat} {z : Int} (hm : mMet mid = some row) (hf : mFetch mid pc = some (.multianewarray idx 2, 4, j, kd, a, b, z)) (hn : n ≤ 1000) (hk : m ≤ 1000) (hd : D.length = d) {D2 : mHp} (hD : D ++ (.inl (3, n, .inr (.inr (.inr (.inr (fun i => if i < n then some (d + 1 + i) else none))))) :: List.replicate n (.inl (0, m, .inl (fun _ => 0)))) = D2) (k : mEv X Q mid (pc + 4) L (.ref d :: st) D2) : mEv X Q mid pc L (.int (nI m) :: .int (nI n) :: st) D := ev_inl hm hf (q := (pc + 4, L, .ref d :: st, D2)) (by
    have h1 := jn_ok hn
    have h2 := jn_ok hk
    have hneg : ¬ (nI n < 0 ∨ nI m < 0 ∨ 1000 < (nI n).toNatClampNeg ∨ 1000 < (nI m).toNatClampNeg) := fun h => h.elim (fun q => h1 (Or.inl q)) fun h => h.elim (fun q => h2 (Or.inl q)) fun h => h.elim (fun q => h1 (Or.inr q)) (fun q => h2 (Or.inr q))
    show (if nI n < 0 ∨ nI m < 0 ∨ 1000 < (nI n).toNatClampNeg ∨ 1000 < (nI m).toNatClampNeg then none else mNx (pc + 4) L (.ref D.length :: st) (D ++ (.inl (3, (nI n).toNatClampNeg, .inr (.inr (.inr (.inr (fun i => if i < (nI n).toNatClampNeg then some (D.length + 1 + i) else none))))) :: List.replicate (nI n).toNatClampNeg (.inl (0, (nI m).toNatClampNeg, .inl (fun _ => 0)))))) = _
    rw [if_neg hneg, jI_nat (k := n) (by omega), jI_nat (k := m) (by omega), hd, hD]
    rfl) k
end CV
