section CU
variable {X : mSc} {Q : Option Value → mHp → Prop} {M : mM}
theorem Cp.row {c nt np j x : Nat} {v : Int32} {M0 : mM} (h : Cp c nt np M0 M) (h1 : 1 ≤ j) (h2 : j ≤ 16) (hv : okx (if j = 2 then 3 else if j = 6 ∨ j = 7 ∨ j = 16 then 2 else 0) v) : Cp c nt np M0 (mput M (1 + j) x v) := by
  obtain ⟨g1, ⟨s, e, g2⟩, g3, g4⟩ := h
  have t := Tw.row (M := M) (x := x) (v := v) (Or.inl rfl : (1 : Nat) = 1 ∨ (1 : Nat) = 18 ∨ (1 : Nat) = 35) h1 h2 hv
  exact ⟨g1.trans t.bq, ⟨s, e, g2.of (mpo (by omega))⟩, (t.2.2 1 (Or.inl rfl)).1.trans g3, (t.2.2 1 (Or.inl rfl)).2.trans g4⟩
theorem Cp.fld {c nt np x : Nat} {v : Int32} {M0 : mM} (h : Cp c nt np M0 M) (hv : okx (if x = 3 ∨ x = 4 then 1 else 0) v) : Bq 1 M0 (mput M 1 x v) := h.1.trans (Bq.fld (Or.inl rfl) hv)
theorem Cp.n3 {c nt np : Nat} {M0 : mM} (h : Cp c nt np M0 M) (h8 : nt < 8) : Cp c (nt + 1) np M0 (mput M 1 3 (nI (nt + 1))) := by
  obtain ⟨s, e, g2⟩ := h.2.1
  exact ⟨h.fld (okI1 (by omega)), ⟨s, e, g2.of (mpo (by decide))⟩, mp0, (mpf (by decide)).trans h.2.2.2⟩
theorem Cp.n4 {c nt np : Nat} {M0 : mM} (h : Cp c nt np M0 M) (h8 : np < 8) : Cp c nt (np + 1) M0 (mput M 1 4 (nI (np + 1))) := by
  obtain ⟨s, e, g2⟩ := h.2.1
  exact ⟨h.fld (okI1 (by omega)), ⟨s, e, g2.of (mpo (by decide))⟩, (mpf (by decide)).trans h.2.2.1, mp0⟩
theorem Cp.addC {c nt np : Nat} {M0 : mM} {s p : Int32} (h : Cp c nt np M0 M) (h8 : nt < 8) (hs : okx 3 s) : Cp c (nt + 1) np M0 (addC M nt s p) :=
  (((((((h.n3 h8).row (j := 2) (by decide) (by decide) hs).row (j := 3) (by decide) (by decide) trivial).row (j := 4) (by decide) (by decide) trivial).row (j := 5) (by decide) (by decide) trivial).row (j := 6) (by decide) (by decide) okM1).row (j := 7) (by decide) (by decide) okM1)
theorem Cp.lkc {c nt np n : Nat} {M0 : mM} (h : Cp c nt np M0 M) : ∀ i, i ≤ 4 → Cp c nt np M0 (lkc M n i) := by
  intro i
  induction i with
  | zero => intro _; exact h
  | succ i ih =>
    intro hi
    have := (ih (by omega)).row (j := 9 + (3 + i)) (x := n) (v := nI 1) (by omega) (by omega) (by rw [if_neg (by omega), if_neg (by omega)]; trivial)
    rw [← Nat.add_assoc] at this
    exact this
theorem Cp.joinC {c nt np : Nat} {M0 : mM} {k p : Int32} (h : Cp c nt np M0 M) (h8 : np < 8) : Cp c nt (np + 1) M0 (joinC M np k p) :=
  Cp.lkc ((((h.n4 h8).row (j := 9) (by decide) (by decide) trivial).row (j := 10) (by decide) (by decide) trivial).row (j := 11) (by decide) (by decide) trivial) 4 (by decide)
theorem w92 {c nt np : Nat} {M0 : mM} (h : Cp c nt np M0 M) : ∃ M', mT X 92 [.ref 52] (con M) none (con M') ∧ Cp c nt np M0 M' := by
  obtain ⟨s, e, hx⟩ := h.2.1
  obtain ⟨M1, h1, h2, h3⟩ := t92 (X := X) hx
  exact ⟨M1, h1, h.lc h2 h3⟩
theorem w112 {c nt np : Nat} {M0 : mM} (h : Cp c nt np M0 M) : ∃ M', mT X 112 [.ref 52] (con M) none (con M') ∧ Cp c nt np M0 M' := by
  obtain ⟨s, e, hx⟩ := h.2.1
  obtain ⟨M1, h1, h2, h3, -⟩ := t112 (X := X) hx
  exact ⟨M1, h1, h.lc h2 ⟨s, e, h3⟩⟩
def Nv (m v : Int32) : Prop := ∃ x, v = nI x ∧ (x = 0 ∨ (nI x ≤ m ∧ x ≤ 1000))
theorem w111 {c nt np : Nat} {M0 : mM} {m : Int32} (h : Cp c nt np M0 M) : ∃ v M', mT X 111 [.ref 52, .int m] (con M) (some (.int v)) (con M') ∧ Cp c nt np M0 M' ∧ Nv m v := by
  obtain ⟨s, e, hx⟩ := h.2.1
  obtain ⟨v, M1, h1, h2, h3⟩ := t111 (X := X) (m := m) hx
  exact ⟨v, M1, h1, h.lc h2.1 h2.2, h3⟩
theorem w110 {c nt np t : Nat} {M0 : mM} {m w : Int32} (ht : t < 15) (h : Cp c nt np M0 M) : ∃ v M', mT X 110 [.ref 52, .ref (1000000 + t), .int m, .int w] (con M) (some (.int v)) (con M') ∧ Cp c nt np M0 M' ∧ (v = w ∨ Nv m v) := by
  obtain ⟨s, e, hx⟩ := h.2.1
  obtain ⟨v, M1, h1, h2, h3⟩ := t110 (X := X) (m := m) (w := w) hx ht
  exact ⟨v, M1, h1, h.lc h2.1 h2.2, h3⟩
theorem w97 {c nt np t : Nat} {M0 : mM} (ht : t < 15) (h : Cp c nt np M0 M) : ∃ v, mT X 97 [.ref 52, .ref (1000000 + t)] (con M) (some (.int v)) (con M) ∧ (v = nI 0 ∨ v = nI 1) := by
  obtain ⟨s, e, hx⟩ := h.2.1
  exact t97 hx ht
theorem w95 {c nt np : Nat} {M0 : mM} (h : Cp c nt np M0 M) : ∃ v, mT X 95 [.ref 52] (con M) (some (.int v)) (con M) ∧ (v = -1 ∨ ∃ k, k < 7 ∧ v = nI k) := by
  obtain ⟨s, e, hx⟩ := h.2.1
  exact t95 hx
theorem nv3 {v : Int32} (h : Nv (nI 3) v) : okx 3 v := by
  obtain ⟨x, rfl, hx⟩ := h
  rcases hx with rfl | ⟨h1, h2⟩
  · exact okI3 (by decide)
  · exact okI3 ((jI_le (by omega) (by decide)).mp h1)
theorem nvn {v : Int32} {n : Nat} (hn : n ≤ 8) (h : v = -1 ∨ Nv (nI n - nI 1) v) : okx 2 v := by
  rcases h with rfl | ⟨x, rfl, hx⟩
  · exact okM1
  · rcases hx with rfl | ⟨h1, h2⟩
    · exact okI2 (by decide)
    · obtain ⟨u, hu, e⟩ := in_k (n := n) rfl (by omega) ⟨(jI_le (by decide) (by omega)).mpr (Nat.zero_le x), h1⟩
      rw [e]
      exact okI2 (by omega)
theorem t113 {c nt np : Nat} {M0 : mM} (h : Cp c nt np M0 M) (h8 : nt < 8) (hp8 : np ≤ 8) : ∃ M', mT X 113 [.ref 52, .ref 1] (con M) none (con M') ∧ Cp c (nt + 1) np M0 M' := by
  refine tv_of (row := _) rfl (Nat.le_of_ble_eq_true rfl) ?_
  have hm : mMet 113 = some _ := rfl
  refine x_aload_n hm rfl rfl ?_
  refine x_cVv hm rfl rfl (w92 (by assumption)) (fun M1 r1 => ?_)
  refine x_aload_n hm rfl rfl ?_
  refine x_iconst hm rfl (v := nI 3) (by decide) ?_
  refine x_cVi hm rfl rfl (w111 (by assumption)) (fun v2 M2 r2 => ?_)
  first
    | have a1 := r15.1
    | have a1 := r14.1
    | have a1 := r13.1
    | have a1 := r12.1
    | have a1 := r11.1
    | have a1 := r10.1
    | have a1 := r9.1
    | have a1 := r8.1
    | have a1 := r7.1
    | have a1 := r6.1
    | have a1 := r5.1
    | have a1 := r4.1
    | have a1 := r3.1
    | have a1 := r2.1
    | have a1 := r1.1
  first
    | have q1 := nv3 r15.2
    | have q1 := nv3 r14.2
    | have q1 := nv3 r13.2
    | have q1 := nv3 r12.2
    | have q1 := nv3 r11.2
    | have q1 := nv3 r10.2
    | have q1 := nv3 r9.2
    | have q1 := nv3 r8.2
    | have q1 := nv3 r7.2
    | have q1 := nv3 r6.2
    | have q1 := nv3 r5.2
    | have q1 := nv3 r4.2
    | have q1 := nv3 r3.2
    | have q1 := nv3 r2.2
    | have q1 := nv3 r1.2
  refine x_istore_n hm rfl rfl ?_
  refine x_aload_n hm rfl rfl ?_
  refine x_ldcS hm rfl ?_
  refine x_bipush hm rfl (v := nI 15) (by decide) ?_
  refine x_iconst hm rfl (v := nI 0) (by decide) ?_
  refine x_cVi hm rfl rfl (w110 (by decide) (by assumption)) (fun v3 M3 r3 => ?_)
  first
    | have a2 := r3.1
    | have a2 := r2.1
    | have a2 := r1.1
    | have a2 := r15.1
    | have a2 := r14.1
    | have a2 := r13.1
    | have a2 := r12.1
    | have a2 := r11.1
    | have a2 := r10.1
    | have a2 := r9.1
    | have a2 := r8.1
    | have a2 := r7.1
    | have a2 := r6.1
    | have a2 := r5.1
    | have a2 := r4.1
  refine x_istore_n hm rfl rfl ?_
  refine x_aload_n hm rfl rfl ?_
  refine x_ldcS hm rfl ?_
  refine x_sipush hm rfl (v := nI 999) (by decide) ?_
  refine x_bipush hm rfl (v := nI 100) (by decide) ?_
  refine x_cVi hm rfl rfl (w110 (by decide) (by assumption)) (fun v4 M4 r4 => ?_)
  first
    | have a3 := r4.1
    | have a3 := r3.1
    | have a3 := r2.1
    | have a3 := r1.1
    | have a3 := r15.1
    | have a3 := r14.1
    | have a3 := r13.1
    | have a3 := r12.1
    | have a3 := r11.1
    | have a3 := r10.1
    | have a3 := r9.1
    | have a3 := r8.1
    | have a3 := r7.1
    | have a3 := r6.1
    | have a3 := r5.1
  refine x_istore hm rfl rfl ?_
  refine x_aload_n hm rfl rfl ?_
  refine x_ldcS hm rfl ?_
  refine x_bipush hm rfl (v := nI 9) (by decide) ?_
  refine x_iconst hm rfl (v := nI 0) (by decide) ?_
  refine x_cVi hm rfl rfl (w110 (by decide) (by assumption)) (fun v5 M5 r5 => ?_)
  first
    | have a4 := r5.1
    | have a4 := r4.1
    | have a4 := r3.1
    | have a4 := r2.1
    | have a4 := r1.1
    | have a4 := r15.1
    | have a4 := r14.1
    | have a4 := r13.1
    | have a4 := r12.1
    | have a4 := r11.1
    | have a4 := r10.1
    | have a4 := r9.1
    | have a4 := r8.1
    | have a4 := r7.1
    | have a4 := r6.1
  refine x_istore hm rfl rfl ?_
  refine x_aload_n hm rfl rfl ?_
  refine x_ldcS hm rfl ?_
  refine x_aload_n hm rfl rfl ?_
  refine x_getf hm rfl (gI rfl rfl) ?_
  rw [a4.2.2.2]
  refine x_iconst hm rfl (v := nI 1) (by decide) ?_
  refine x_isub hm rfl ?_
  refine x_iconst hm rfl (v := (-1 : Int32)) (by decide) ?_
  refine x_cVi hm rfl rfl (w110 (by decide) (by assumption)) (fun v6 M6 r6 => ?_)
  first
    | have a5 := r15.1
    | have a5 := r14.1
    | have a5 := r13.1
    | have a5 := r12.1
    | have a5 := r11.1
    | have a5 := r10.1
    | have a5 := r9.1
    | have a5 := r8.1
    | have a5 := r7.1
    | have a5 := r6.1
    | have a5 := r5.1
    | have a5 := r4.1
    | have a5 := r3.1
    | have a5 := r2.1
    | have a5 := r1.1
  first
    | have q5 := nvn hp8 r15.2
    | have q5 := nvn hp8 r14.2
    | have q5 := nvn hp8 r13.2
    | have q5 := nvn hp8 r12.2
    | have q5 := nvn hp8 r11.2
    | have q5 := nvn hp8 r10.2
    | have q5 := nvn hp8 r9.2
    | have q5 := nvn hp8 r8.2
    | have q5 := nvn hp8 r7.2
    | have q5 := nvn hp8 r6.2
    | have q5 := nvn hp8 r5.2
    | have q5 := nvn hp8 r4.2
    | have q5 := nvn hp8 r3.2
    | have q5 := nvn hp8 r2.2
    | have q5 := nvn hp8 r1.2
  refine x_istore hm rfl rfl ?_
  refine x_aload_n hm rfl rfl ?_
  refine x_ldcS hm rfl ?_
  refine x_aload_n hm rfl rfl ?_
  refine x_getf hm rfl (gI rfl rfl) ?_
  rw [a5.2.2.1]
  refine x_iconst hm rfl (v := nI 1) (by decide) ?_
  refine x_isub hm rfl ?_
  refine x_iconst hm rfl (v := (-1 : Int32)) (by decide) ?_
  refine x_cVi hm rfl rfl (w110 (by decide) (by assumption)) (fun v7 M7 r7 => ?_)
  first
    | have a6 := r15.1
    | have a6 := r14.1
    | have a6 := r13.1
    | have a6 := r12.1
    | have a6 := r11.1
    | have a6 := r10.1
    | have a6 := r9.1
    | have a6 := r8.1
    | have a6 := r7.1
    | have a6 := r6.1
    | have a6 := r5.1
    | have a6 := r4.1
    | have a6 := r3.1
    | have a6 := r2.1
    | have a6 := r1.1
  first
    | have q6 := nvn (Nat.le_of_lt h8) r15.2
    | have q6 := nvn (Nat.le_of_lt h8) r14.2
    | have q6 := nvn (Nat.le_of_lt h8) r13.2
    | have q6 := nvn (Nat.le_of_lt h8) r12.2
    | have q6 := nvn (Nat.le_of_lt h8) r11.2
    | have q6 := nvn (Nat.le_of_lt h8) r10.2
    | have q6 := nvn (Nat.le_of_lt h8) r9.2
    | have q6 := nvn (Nat.le_of_lt h8) r8.2
    | have q6 := nvn (Nat.le_of_lt h8) r7.2
    | have q6 := nvn (Nat.le_of_lt h8) r6.2
    | have q6 := nvn (Nat.le_of_lt h8) r5.2
    | have q6 := nvn (Nat.le_of_lt h8) r4.2
    | have q6 := nvn (Nat.le_of_lt h8) r3.2
    | have q6 := nvn (Nat.le_of_lt h8) r2.2
    | have q6 := nvn (Nat.le_of_lt h8) r1.2
  refine x_istore hm rfl rfl ?_
  refine x_aload_n hm rfl rfl ?_
  refine x_iload_n hm rfl rfl ?_
  refine x_iload_n hm rfl rfl ?_
  refine x_callV hm rfl rfl (u8 a6.2.2.1 h8) ?_
  refine x_istore hm rfl rfl ?_
  refine x_aload_n hm rfl rfl ?_
  refine x_getf hm rfl (gR rfl rfl) ?_
  refine x_iconst hm rfl (v := nI 2) (by decide) ?_
  refine x_aald hm rfl (lQ _ (by decide) rfl rfl (by omega) (by decide)) ?_
  refine x_iload hm rfl rfl ?_
  refine x_iload hm rfl rfl ?_
  refine x_iast hm rfl (sI rfl (by omega) (by decide)) ?_
  refine x_aload_n hm rfl rfl ?_
  refine x_getf hm rfl (gR rfl rfl) ?_
  refine x_iconst hm rfl (v := nI 3) (by decide) ?_
  refine x_aald hm rfl (lQ _ (by decide) rfl rfl (by omega) (by decide)) ?_
  refine x_iload hm rfl rfl ?_
  refine x_iload hm rfl rfl ?_
  refine x_iast hm rfl (sI rfl (by omega) (by decide)) ?_
  refine x_aload_n hm rfl rfl ?_
  refine x_getf hm rfl (gR rfl rfl) ?_
  refine x_iconst hm rfl (v := nI 4) (by decide) ?_
  refine x_aald hm rfl (lQ _ (by decide) rfl rfl (by omega) (by decide)) ?_
  refine x_iload hm rfl rfl ?_
  refine x_iload hm rfl rfl ?_
  refine x_iast hm rfl (sI rfl (by omega) (by decide)) ?_
  refine x_aload_n hm rfl rfl ?_
  refine x_getf hm rfl (gR rfl rfl) ?_
  refine x_iconst hm rfl (v := nI 5) (by decide) ?_
  refine x_aald hm rfl (lQ _ (by decide) rfl rfl (by omega) (by decide)) ?_
  refine x_iload hm rfl rfl ?_
  refine x_iload hm rfl rfl ?_
  refine x_iast hm rfl (sI rfl (by omega) (by decide)) ?_
  refine x_ret hm rfl rfl ?_
  exact ⟨_, rfl, rfl, (((((a6.addC h8 q1).row (j := 4) (by decide) (by decide) trivial).row (j := 5) (by decide) (by decide) trivial).row (j := 6) (by decide) (by decide) q5).row (j := 7) (by decide) (by decide) q6)⟩
end CU
