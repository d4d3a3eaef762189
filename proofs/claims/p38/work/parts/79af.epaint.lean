section EP
variable {X : mSc} {Q : Option Value → mHp → Prop} {M : mM}
theorem m189 {a : Nat} {c m : Int32} {nt np : Nat} (hW : Wf M) (hnt : M 67 1 = nI nt) (hn8 : nt ≤ 8) (hnp : M 67 2 = nI np) (hp8 : np ≤ 8) (h6 : M 66 6 = -1) (ha : a ≤ 1000) : ∀ (n k : Nat) (b l : Int32) (x7 : Option Value) (M1 : mM), 2 ^ nt - k < n → k ≤ 2 ^ nt → Kp M M1 → (b, l) = fo (sPt (M 67) (-1) nt np a m) k (nI 0, 2147483647) → mEv X (QI (fun v M' => v = (fo (sPt (M 67) (-1) nt np a m) (2 ^ nt) (nI 0, 2147483647)).1 ∧ Kp M M')) 189 48 [some (.ref 66), some (.int c), some (.int (nI a)), some (.int m), some (.int b), some (.int l), some (.int (nI k)), x7] [] (con M1) := by
  have hm : mMet 189 = some _ := rfl
  intro n
  induction n with
  | zero =>
    intro k b l x7 M1 hkn hkb hS hz
    omega
  | succ n ih =>
    intro k b l x7 M1 hkn hkb hS hz
    have h671 : M1 67 = M 67 := hS.2 67 (by decide) (by decide) (by decide)
    have hn1 : M1 67 1 = nI nt := (congrFun h671 1).trans hnt
    have hpw := pow_k hn8
    refine x_iload hm rfl rfl ?_
    refine x_iconst hm rfl (v := nI 1) (by decide) ?_
    refine x_aload_n hm rfl rfl ?_
    refine x_getf hm rfl (gR rfl rfl) ?_
    refine x_iconst hm rfl (v := nI 1) (by decide) ?_
    refine x_iald hm rfl (lI rfl (by omega) (by decide)) ?_
    rw [hn1]
    refine x_ishl hm rfl ?_
    rw [shl_k nt hn8]
    refine x_icmp_ge hm rfl (t := 115) rfl (fun h1 => ?_) (fun h1 => ?_)
    · obtain rfl : k = 2 ^ nt := Nat.le_antisymm hkb ((jI_le (by omega) (by omega)).mp h1)
      refine x_iload hm rfl rfl ?_
      refine x_iret hm rfl rfl (by first | rfl | exact bI_nar | decide) ?_
      exact ⟨_, _, rfl, rfl, congrArg Prod.fst hz, hS⟩
    · have hk : k < 2 ^ nt := Nat.lt_of_not_le fun h => h1 (nI_le h (by omega))
      refine x_iload hm rfl rfl ?_
      refine x_callS hm rfl rfl (g168 (by omega)) ?_
      refine x_iload_n hm rfl rfl ?_
      refine x_icmp_ne hm rfl (t := 80) rfl (fun h2 => ?_) (fun h2 => ?_)
      · have hl : nI 2147483647 = sLp (M 67) (-1) nt np a m k := (if_neg h2).symm
        have hS3 := hS
        refine x_ldcI hm rfl (v := nI 2147483647) (by decide +kernel) ?_
        refine x_istore hm rfl rfl ?_
        refine x_iload hm rfl rfl ?_
        refine x_iload hm rfl rfl ?_
        refine x_icmp_ge hm rfl (t := 96) rfl (fun h3 => ?_) (fun h3 => ?_)
        · refine x_iload hm rfl rfl ?_
          refine x_istore hm rfl rfl ?_
          refine x_iload hm rfl rfl ?_
          refine x_iload hm rfl rfl ?_
          refine x_lib hm rfl rfl ?_
          dsimp only
          refine x_istore hm rfl rfl ?_
          refine x_iinc hm rfl rfl (v := nI 1) (by decide) rfl ?_
          rw [jI_add]
          refine x_goto hm rfl (t := 48) rfl ?_
          first
            | exact ih _ _ _ _ _ (by omega) (by omega) hS3 (by show _ = sPt (M 67) (-1) nt np a m k _; rw [← hz]; unfold sPt mn2; dsimp only; rw [← hl, if_pos (by first | assumption | exact Int32.not_le.mp (by assumption)), if_pos (by first | assumption | exact Int32.not_le.mp (by assumption))])
            | exact ih _ _ _ _ _ (by omega) (by omega) hS3 (by show _ = sPt (M 67) (-1) nt np a m k _; rw [← hz]; unfold sPt mn2; dsimp only; rw [← hl, if_neg (by first | assumption | exact Int32.not_lt.mpr (by assumption)), if_neg (by first | assumption | exact Int32.not_lt.mpr (by assumption))])
        · refine x_iload hm rfl rfl ?_
          refine x_goto hm rfl (t := 98) rfl ?_
          refine x_istore hm rfl rfl ?_
          refine x_iload hm rfl rfl ?_
          refine x_iload hm rfl rfl ?_
          refine x_lib hm rfl rfl ?_
          dsimp only
          refine x_istore hm rfl rfl ?_
          refine x_iinc hm rfl rfl (v := nI 1) (by decide) rfl ?_
          rw [jI_add]
          refine x_goto hm rfl (t := 48) rfl ?_
          first
            | exact ih _ _ _ _ _ (by omega) (by omega) hS3 (by show _ = sPt (M 67) (-1) nt np a m k _; rw [← hz]; unfold sPt mn2; dsimp only; rw [← hl, if_pos (by first | assumption | exact Int32.not_le.mp (by assumption)), if_pos (by first | assumption | exact Int32.not_le.mp (by assumption))])
            | exact ih _ _ _ _ _ (by omega) (by omega) hS3 (by show _ = sPt (M 67) (-1) nt np a m k _; rw [← hz]; unfold sPt mn2; dsimp only; rw [← hl, if_neg (by first | assumption | exact Int32.not_lt.mpr (by assumption)), if_neg (by first | assumption | exact Int32.not_lt.mpr (by assumption))])
      · have hb := h2
        refine x_aload_n hm rfl rfl ?_
        refine x_iload hm rfl rfl ?_
        refine x_iload_n hm rfl rfl ?_
        refine x_cVi hm rfl rfl (e190 (hS.1 hW) h671 hnt hn8 hnp hp8 (by rw [hS.2 66 (by decide) (by decide) (by decide)]; exact h6) (by omega) ha) (fun v4 M4 r4 => ?_)
        have hl := r4.1.trans (show _ = sLp (M 67) (-1) nt np a m k from (if_pos hb).symm)
        have hS3 := hS.to r4.2
        refine x_goto hm rfl (t := 82) rfl ?_
        refine x_istore hm rfl rfl ?_
        refine x_iload hm rfl rfl ?_
        refine x_iload hm rfl rfl ?_
        refine x_icmp_ge hm rfl (t := 96) rfl (fun h5 => ?_) (fun h5 => ?_)
        · refine x_iload hm rfl rfl ?_
          refine x_istore hm rfl rfl ?_
          refine x_iload hm rfl rfl ?_
          refine x_iload hm rfl rfl ?_
          refine x_lib hm rfl rfl ?_
          dsimp only
          refine x_istore hm rfl rfl ?_
          refine x_iinc hm rfl rfl (v := nI 1) (by decide) rfl ?_
          rw [jI_add]
          refine x_goto hm rfl (t := 48) rfl ?_
          first
            | exact ih _ _ _ _ _ (by omega) (by omega) hS3 (by show _ = sPt (M 67) (-1) nt np a m k _; rw [← hz]; unfold sPt mn2; dsimp only; rw [← hl, if_pos (by first | assumption | exact Int32.not_le.mp (by assumption)), if_pos (by first | assumption | exact Int32.not_le.mp (by assumption))])
            | exact ih _ _ _ _ _ (by omega) (by omega) hS3 (by show _ = sPt (M 67) (-1) nt np a m k _; rw [← hz]; unfold sPt mn2; dsimp only; rw [← hl, if_neg (by first | assumption | exact Int32.not_lt.mpr (by assumption)), if_neg (by first | assumption | exact Int32.not_lt.mpr (by assumption))])
        · refine x_iload hm rfl rfl ?_
          refine x_goto hm rfl (t := 98) rfl ?_
          refine x_istore hm rfl rfl ?_
          refine x_iload hm rfl rfl ?_
          refine x_iload hm rfl rfl ?_
          refine x_lib hm rfl rfl ?_
          dsimp only
          refine x_istore hm rfl rfl ?_
          refine x_iinc hm rfl rfl (v := nI 1) (by decide) rfl ?_
          rw [jI_add]
          refine x_goto hm rfl (t := 48) rfl ?_
          first
            | exact ih _ _ _ _ _ (by omega) (by omega) hS3 (by show _ = sPt (M 67) (-1) nt np a m k _; rw [← hz]; unfold sPt mn2; dsimp only; rw [← hl, if_pos (by first | assumption | exact Int32.not_le.mp (by assumption)), if_pos (by first | assumption | exact Int32.not_le.mp (by assumption))])
            | exact ih _ _ _ _ _ (by omega) (by omega) hS3 (by show _ = sPt (M 67) (-1) nt np a m k _; rw [← hz]; unfold sPt mn2; dsimp only; rw [← hl, if_neg (by first | assumption | exact Int32.not_lt.mpr (by assumption)), if_neg (by first | assumption | exact Int32.not_lt.mpr (by assumption))])
end EP
