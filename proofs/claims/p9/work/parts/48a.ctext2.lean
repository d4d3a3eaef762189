/-! ===== the class: its texts ===== -/
section CU
variable {X : mSc} {Q : Option Value → mHp → Prop} {M : mM}
def addC (M : mM) (n : Nat) (s p : Int32) : mM := mput (mput (mput (mput (mput (mput (mput M 1 3 (nI (n + 1))) 3 n s) 4 n p) 5 n (nI 100)) 6 n (nI 0)) 7 n (-1)) 8 n (-1)
def lkc (M : mM) (n : Nat) : Nat → mM
  | 0 => M
  | i + 1 => mput (lkc M n i) (1 + 9 + (3 + i)) n (nI 1)
def joinC (M : mM) (n : Nat) (k p : Int32) : mM := lkc (mput (mput (mput (mput M 1 4 (nI (n + 1))) 10 n k) 11 n p) 12 n (nI 1)) n 4
theorem u8 {n : Nat} {s p : Int32} (hn : M 1 3 = nI n) (h8 : n < 8) : mT X 8 [.ref 1, .int s, .int p] (con M) (some (.int (nI n))) (con (addC M n s p)) := by
  refine mT.of (row := _) rfl (Nat.le_of_ble_eq_true rfl) ?_
  have hm : mMet 8 = some _ := rfl
  refine x_aload_n hm rfl rfl ?_
  refine x_getf hm rfl (gI rfl rfl) ?_
  rw [hn]
  refine x_istore_n hm rfl rfl ?_
  refine x_aload_n hm rfl rfl ?_
  refine x_dup hm rfl rfl ?_
  refine x_getf hm rfl (gI rfl rfl) ?_
  rw [hn]
  refine x_iconst hm rfl (v := nI 1) (by decide) ?_
  refine x_iadd hm rfl ?_
  rw [jI_add]
  refine x_putf hm rfl (pI rfl rfl (by decide) (by first | exact mFit_int | rfl | decide) rfl) ?_
  refine x_aload_n hm rfl rfl ?_
  refine x_getf hm rfl (gR rfl rfl) ?_
  refine x_iconst hm rfl (v := nI 0) (by decide) ?_
  refine x_aald hm rfl (lQ _ (by decide) rfl rfl (by omega) (by decide)) ?_
  refine x_iload_n hm rfl rfl ?_
  refine x_iload_n hm rfl rfl ?_
  refine x_iast hm rfl (sI rfl (by omega) (by decide)) ?_
  refine x_aload_n hm rfl rfl ?_
  refine x_getf hm rfl (gR rfl rfl) ?_
  refine x_iconst hm rfl (v := nI 1) (by decide) ?_
  refine x_aald hm rfl (lQ _ (by decide) rfl rfl (by omega) (by decide)) ?_
  refine x_iload_n hm rfl rfl ?_
  refine x_iload_n hm rfl rfl ?_
  refine x_iast hm rfl (sI rfl (by omega) (by decide)) ?_
  refine x_aload_n hm rfl rfl ?_
  refine x_getf hm rfl (gR rfl rfl) ?_
  refine x_iconst hm rfl (v := nI 2) (by decide) ?_
  refine x_aald hm rfl (lQ _ (by decide) rfl rfl (by omega) (by decide)) ?_
  refine x_iload_n hm rfl rfl ?_
  refine x_bipush hm rfl (v := nI 100) (by decide) ?_
  refine x_iast hm rfl (sI rfl (by omega) (by decide)) ?_
  refine x_aload_n hm rfl rfl ?_
  refine x_getf hm rfl (gR rfl rfl) ?_
  refine x_iconst hm rfl (v := nI 3) (by decide) ?_
  refine x_aald hm rfl (lQ _ (by decide) rfl rfl (by omega) (by decide)) ?_
  refine x_iload_n hm rfl rfl ?_
  refine x_iconst hm rfl (v := nI 0) (by decide) ?_
  refine x_iast hm rfl (sI rfl (by omega) (by decide)) ?_
  refine x_aload_n hm rfl rfl ?_
  refine x_getf hm rfl (gR rfl rfl) ?_
  refine x_iconst hm rfl (v := nI 4) (by decide) ?_
  refine x_aald hm rfl (lQ _ (by decide) rfl rfl (by omega) (by decide)) ?_
  refine x_iload_n hm rfl rfl ?_
  refine x_iconst hm rfl (v := (-1 : Int32)) (by decide) ?_
  refine x_iast hm rfl (sI rfl (by omega) (by decide)) ?_
  refine x_aload_n hm rfl rfl ?_
  refine x_getf hm rfl (gR rfl rfl) ?_
  refine x_iconst hm rfl (v := nI 5) (by decide) ?_
  refine x_aald hm rfl (lQ _ (by decide) rfl rfl (by omega) (by decide)) ?_
  refine x_iload_n hm rfl rfl ?_
  refine x_iconst hm rfl (v := (-1 : Int32)) (by decide) ?_
  refine x_iast hm rfl (sI rfl (by omega) (by decide)) ?_
  refine x_iload_n hm rfl rfl ?_
  refine x_iret hm rfl rfl (by first | rfl | exact bI_nar | decide) ?_
  exact ⟨rfl, rfl⟩
theorem v23 {n : Nat} {k p : Int32} {M0 : mM} (h8 : n < 8) : ∀ (m i : Nat), 4 - i < m → i ≤ 4 → mEv X (fun r D => r = some (.int (nI n)) ∧ D = con (lkc M0 n 4)) 23 45 [some (.ref 1), some (.int k), some (.int p), some (.int (nI n)), some (.int (nI i))] [] (con (lkc M0 n i)) := by
  have hm : mMet 23 = some _ := rfl
  intro m
  induction m with
  | zero =>
    intro i him hi4
    omega
  | succ m ih =>
    intro i him hi4
    refine x_iload hm rfl rfl ?_
    refine x_iconst hm rfl (v := nI 4) (by decide) ?_
    refine x_icmp_ge hm rfl (t := 69) rfl (fun h1 => ?_) (fun h1 => ?_)
    · obtain rfl : i = 4 := Nat.le_antisymm hi4 ((jI_le (by decide) (by omega)).mp h1)
      refine x_iload_n hm rfl rfl ?_
      refine x_iret hm rfl rfl (by first | rfl | exact bI_nar | decide) ?_
      exact ⟨rfl, rfl⟩
    · have hk : i < 4 := Nat.lt_of_not_le fun h => h1 (nI_le h (by omega))
      refine x_aload_n hm rfl rfl ?_
      refine x_getf hm rfl (gR rfl rfl) ?_
      refine x_iconst hm rfl (v := nI 3) (by decide) ?_
      refine x_iload hm rfl rfl ?_
      refine x_iadd hm rfl ?_
      rw [jI_add]
      refine x_aald hm rfl (lQ 3 (Or.inr (Or.inl rfl)) (tF (b := 1) (by decide)) (tFk (by omega)) (by omega) (by decide)) ?_
      refine x_iload_n hm rfl rfl ?_
      refine x_iconst hm rfl (v := nI 1) (by decide) ?_
      refine x_iast hm rfl (sI (tRowF (b := 1) (by decide) (by omega)) (by omega) (by decide)) ?_
      refine x_iinc hm rfl rfl (v := nI 1) (by decide) rfl ?_
      rw [jI_add]
      refine x_goto hm rfl (t := 45) rfl ?_
      exact ih (i + 1) (by omega) (by omega)
theorem u23 {n : Nat} {k p : Int32} (hn : M 1 4 = nI n) (h8 : n < 8) : mT X 23 [.ref 1, .int k, .int p] (con M) (some (.int (nI n))) (con (joinC M n k p)) := by
  refine mT.of (row := _) rfl (Nat.le_of_ble_eq_true rfl) ?_
  have hm : mMet 23 = some _ := rfl
  refine x_aload_n hm rfl rfl ?_
  refine x_getf hm rfl (gI rfl rfl) ?_
  rw [hn]
  refine x_istore_n hm rfl rfl ?_
  refine x_aload_n hm rfl rfl ?_
  refine x_dup hm rfl rfl ?_
  refine x_getf hm rfl (gI rfl rfl) ?_
  rw [hn]
  refine x_iconst hm rfl (v := nI 1) (by decide) ?_
  refine x_iadd hm rfl ?_
  rw [jI_add]
  refine x_putf hm rfl (pI rfl rfl (by decide) (by first | exact mFit_int | rfl | decide) rfl) ?_
  refine x_aload_n hm rfl rfl ?_
  refine x_getf hm rfl (gR rfl rfl) ?_
  refine x_iconst hm rfl (v := nI 0) (by decide) ?_
  refine x_aald hm rfl (lQ _ (by decide) rfl rfl (by omega) (by decide)) ?_
  refine x_iload_n hm rfl rfl ?_
  refine x_iload_n hm rfl rfl ?_
  refine x_iast hm rfl (sI rfl (by omega) (by decide)) ?_
  refine x_aload_n hm rfl rfl ?_
  refine x_getf hm rfl (gR rfl rfl) ?_
  refine x_iconst hm rfl (v := nI 1) (by decide) ?_
  refine x_aald hm rfl (lQ _ (by decide) rfl rfl (by omega) (by decide)) ?_
  refine x_iload_n hm rfl rfl ?_
  refine x_iload_n hm rfl rfl ?_
  refine x_iast hm rfl (sI rfl (by omega) (by decide)) ?_
  refine x_aload_n hm rfl rfl ?_
  refine x_getf hm rfl (gR rfl rfl) ?_
  refine x_iconst hm rfl (v := nI 2) (by decide) ?_
  refine x_aald hm rfl (lQ _ (by decide) rfl rfl (by omega) (by decide)) ?_
  refine x_iload_n hm rfl rfl ?_
  refine x_iconst hm rfl (v := nI 1) (by decide) ?_
  refine x_iast hm rfl (sI rfl (by omega) (by decide)) ?_
  refine x_iconst hm rfl (v := nI 0) (by decide) ?_
  refine x_istore hm rfl rfl ?_
  exact v23 (M0 := mput (mput (mput (mput M 1 4 (nI (n + 1))) 10 n k) 11 n p) 12 n (nI 1)) h8 _ 0 (Nat.lt_succ_self _) (Nat.zero_le _)
def Cp (c nt np : Nat) (M0 M : mM) : Prop := Bq 1 M0 M ∧ (∃ s e, Cx s e c M) ∧ M 1 3 = nI nt ∧ M 1 4 = nI np
theorem Cp.lc {c nt np : Nat} {M0 M1 : mM} (h : Cp c nt np M0 M) (hL : Lc M M1) (hx : ∃ s e, Cx s e c M1) : Cp c nt np M0 M1 := ⟨h.1.trans hL.bq, hx, (hL 1 3 (by omega)).trans h.2.2.1, (hL 1 4 (by omega)).trans h.2.2.2⟩
theorem Cx.of {s e c : Nat} {M1 : mM} (h : Cx s e c M) (e2 : M1 52 = M 52) : Cx s e c M1 := by
  unfold Cx at h ⊢
  rw [e2]
  exact h
end CU
