section CV
variable {X : mSc} {Q : Option Value → mHp → Prop} {M : mM} {T : Nat → Nat} {c : Nat}
theorem k95 {q : PS} (h : CT T c q M) (hB : ∀ k, k < c → T k < 256) : ∃ v, mT X 95 [.ref 52] (con M) (some (.int v)) (con M) ∧ v = pKd T q 7 := by
  refine te_of (row := _) rfl (Nat.le_of_ble_eq_true rfl) ?_
  have hm : mMet 95 = some _ := rfl
  refine x_iconst hm rfl (v := nI 0) (by decide) ?_
  refine x_istore_n hm rfl rfl ?_
  exact k95l h hB _ 0 (Nat.lt_succ_self _) (Nat.zero_le _) (fun j hj => absurd hj (Nat.not_lt_zero j))
theorem k110 {q : PS} {t : Nat} {w hi : Int32} (h : CT T c q M) (hB : ∀ k, k < c → T k < 256) (ht : t < 15) : ∃ v M', mT X 110 [.ref 52, .ref (1000000 + t), .int hi, .int w] (con M) (some (.int v)) (con M') ∧ CT T c (pAf T c q t w hi).2 M' ∧ Lc M M' ∧ ((pAf T c q t w hi).2.2.2.2.2 = false → v = (pAf T c q t w hi).1) := by
  refine ti_of (row := _) rfl (Nat.le_of_ble_eq_true rfl) ?_
  have hm : mMet 110 = some _ := rfl
  refine x_aload_n hm rfl rfl ?_
  refine x_getf hm rfl (gI rfl rfl) ?_
  refine x_iconst hm rfl (v := (-1 : Int32)) (by decide) ?_
  refine x_icmp_ne hm rfl (t := 16) rfl (fun h1 => ?_) (fun h1 => ?_)
  · have hq : pAf T c q t w hi = (w, q) := if_pos (Or.inl (h.fw h1))
    refine x_iload_n hm rfl rfl ?_
    refine x_iret hm rfl rfl (by first | rfl | exact bI_nar | decide) ?_
    first
      | exact ⟨_, _, rfl, rfl, by rw [hq]; exact h, Lc.rf, fun _ => by rw [hq]⟩
      | exact ⟨_, _, rfl, rfl, by rw [hq]; exact r0.1, r0.2.trans r0.2.1, by rw [hq]; exact r0.2.2⟩
  · have hf := h.ff h1
    refine x_aload_n hm rfl rfl ?_
    refine x_aload_n hm rfl rfl ?_
    refine x_cVe hm rfl rfl (k97 h hB ht) (fun v2 r2 => ?_)
    subst r2
    refine x_if_ne hm rfl (t := 18) rfl (fun h3 => ?_) (fun h3 => ?_)
    · have hq : pAf T c q t w hi = (nI (pMu T c q (nI 1)).2.2.2.1, pNu T c (pMu T c q (nI 1)) hi) := if_neg (fun g => g.elim (fun g => absurd (hf.symm.trans g) (by decide)) (fun g => g (bI_ne0 h3)))
      refine x_aload_n hm rfl rfl ?_
      refine x_cVv hm rfl rfl (k92a h hB hf) (fun M4 r4 => ?_)
      refine x_aload_n hm rfl rfl ?_
      refine x_iload_n hm rfl rfl ?_
      refine x_cVi hm rfl rfl (k111 r4.1 hB) (fun v5 M5 r5 => ?_)
      refine x_iret hm rfl rfl (by first | rfl | exact bI_nar | decide) ?_
      first
        | exact ⟨_, _, rfl, rfl, by rw [hq]; exact r5.1, r4.2.trans r5.2.1, by rw [hq]; exact r5.2.2⟩
        | exact ⟨_, _, rfl, rfl, by rw [hq]; exact h, Lc.rf, fun _ => by rw [hq]⟩
    · have hq : pAf T c q t w hi = (w, q) := if_pos (Or.inr (bI_eq0.mp (by first | exact h3 | exact Classical.byContradiction h3)))
      refine x_iload_n hm rfl rfl ?_
      refine x_iret hm rfl rfl (by first | rfl | exact bI_nar | decide) ?_
      first
        | exact ⟨_, _, rfl, rfl, by rw [hq]; exact h, Lc.rf, fun _ => by rw [hq]⟩
        | exact ⟨_, _, rfl, rfl, by rw [hq]; exact r2.1, r0.2.trans r2.2.1, by rw [hq]; exact r2.2.2⟩
end CV
