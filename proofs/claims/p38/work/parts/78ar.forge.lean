section FO
variable {X : mSc} {Q : Option Value → mHp → Prop} {M : mM}
variable {nt np : Nat} {r : Nat → Int32}
theorem g18 {a1 a2 a3 : Int32} (hR : Rel 1 nt np M r) : mT X 18 [.ref 0, .int a1, .int a2, .int a3] (con M) (some (.int (bI (mayF nt np a1 a2 a3)))) (con M) := by
  refine mT.of (row := _) rfl (Nat.le_of_ble_eq_true rfl) ?_
  have hm : mMet 18 = some _ := rfl
  refine x_iload_n hm rfl rfl ?_
  refine x_ts hm rfl (fun h1 => ⟨121, rfl, ?_⟩) (fun i1 h1 g1 => ?_)
  · refine x_iconst hm rfl (v := nI 0) (by decide) ?_
    refine x_iret hm rfl rfl (by first | rfl | exact bI_nar | decide) ?_
    have hv : nI 0 = bI (mayF nt np a1 a2 a3) := bI_f (mayF_e h1)
    exact qt (congrArg Value.int hv)
  · have k1 : i1 = 0 ∨ i1 = 1 ∨ i1 = 2 ∨ i1 = 3 ∨ i1 = 4 ∨ i1 = 5 := by omega
    rcases k1 with rfl | rfl | rfl | rfl | rfl | rfl
    · refine ⟨_, 40, rfl, rfl, ?_⟩
      refine x_iload_n hm rfl rfl ?_
      refine x_iconst hm rfl (v := nI 0) (by decide) ?_
      refine x_iconst hm rfl (v := nI 3) (by decide) ?_
      refine x_callS hm rfl rfl (t6) ?_
      refine x_iret hm rfl rfl (by first | rfl | exact bI_nar | decide) ?_
      exact qt (congrArg Value.int (bIc (mayF_0 (tn h1 (by decide)))))
    · refine ⟨_, 47, rfl, rfl, ?_⟩
      refine x_iload_n hm rfl rfl ?_
      refine x_iconst hm rfl (v := nI 0) (by decide) ?_
      refine x_bipush hm rfl (v := nI 15) (by decide) ?_
      refine x_callS hm rfl rfl (t6) ?_
      refine x_iret hm rfl rfl (by first | rfl | exact bI_nar | decide) ?_
      exact qt (congrArg Value.int (bIc (mayF_1 (tn h1 (by decide)))))
    · refine ⟨_, 55, rfl, rfl, ?_⟩
      refine x_iload_n hm rfl rfl ?_
      refine x_iconst hm rfl (v := nI 0) (by decide) ?_
      refine x_sipush hm rfl (v := nI 999) (by decide) ?_
      refine x_callS hm rfl rfl (t6) ?_
      refine x_iret hm rfl rfl (by first | rfl | exact bI_nar | decide) ?_
      exact qt (congrArg Value.int (bIc (mayF_2 (tn h1 (by decide)))))
    · refine ⟨_, 64, rfl, rfl, ?_⟩
      refine x_iload_n hm rfl rfl ?_
      refine x_iconst hm rfl (v := nI 0) (by decide) ?_
      refine x_bipush hm rfl (v := nI 9) (by decide) ?_
      refine x_callS hm rfl rfl (t6) ?_
      refine x_iret hm rfl rfl (by first | rfl | exact bI_nar | decide) ?_
      exact qt (congrArg Value.int (bIc (mayF_3 (tn h1 (by decide)))))
    · refine ⟨_, 72, rfl, rfl, ?_⟩
      refine x_iload_n hm rfl rfl ?_
      refine x_iconst hm rfl (v := (-1 : Int32)) (by decide) ?_
      refine x_icmp_eq hm rfl (t := 88) rfl (fun h2 => ?_) (fun h2 => ?_)
      · have hv : nI 1 = bI (mayF nt np a1 a2 a3) := bI_t ((mayF_4 (tn h1 (by decide))).mp (Or.inl h2))
        refine x_iconst hm rfl (v := nI 1) (by decide) ?_
        refine x_goto hm rfl (t := 93) rfl ?_
        refine x_iret hm rfl rfl (by first | rfl | exact bI_nar | decide) ?_
        exact qt (congrArg Value.int hv)
      · have n4 := h2
        refine x_aload_n hm rfl rfl ?_
        refine x_getf hm rfl (gR rfl rfl) ?_
        refine x_iload_n hm rfl rfl ?_
        refine x_callV hm rfl rfl (t19 (by decide)) ?_
        rw [hR.2.1]
        refine x_if_eq hm rfl (t := 92) rfl (fun h3 => ?_) (fun h3 => ?_)
        · have hv : nI 0 = bI (mayF nt np a1 a2 a3) := bI_f fun q => ((mayF_4 (tn h1 (by decide))).mpr q).elim n4 (bI_eq0.mp h3)
          refine x_iconst hm rfl (v := nI 0) (by decide) ?_
          refine x_iret hm rfl rfl (by first | rfl | exact bI_nar | decide) ?_
          exact qt (congrArg Value.int hv)
        · have hv : nI 1 = bI (mayF nt np a1 a2 a3) := bI_t ((mayF_4 (tn h1 (by decide))).mp (Or.inr (bI_ne0 h3)))
          refine x_iconst hm rfl (v := nI 1) (by decide) ?_
          refine x_goto hm rfl (t := 93) rfl ?_
          refine x_iret hm rfl rfl (by first | rfl | exact bI_nar | decide) ?_
          exact qt (congrArg Value.int hv)
    · refine ⟨_, 94, rfl, rfl, ?_⟩
      refine x_iload_n hm rfl rfl ?_
      refine x_iconst hm rfl (v := (-1 : Int32)) (by decide) ?_
      refine x_icmp_eq hm rfl (t := 115) rfl (fun h4 => ?_) (fun h4 => ?_)
      · have hv : nI 1 = bI (mayF nt np a1 a2 a3) := bI_t ((mayF_5 (tn h1 (by decide))).mp (Or.inl h4))
        refine x_iconst hm rfl (v := nI 1) (by decide) ?_
        refine x_goto hm rfl (t := 120) rfl ?_
        refine x_iret hm rfl rfl (by first | rfl | exact bI_nar | decide) ?_
        exact qt (congrArg Value.int hv)
      · have n5 := h4
        refine x_aload_n hm rfl rfl ?_
        refine x_getf hm rfl (gR rfl rfl) ?_
        refine x_iload_n hm rfl rfl ?_
        refine x_callV hm rfl rfl (t10 (by decide)) ?_
        rw [hR.1]
        refine x_if_eq hm rfl (t := 119) rfl (fun h5 => ?_) (fun h5 => ?_)
        · have hv : nI 0 = bI (mayF nt np a1 a2 a3) := bI_f fun q => ((mayF_5 (tn h1 (by decide))).mpr q).elim n5 (fun z => bI_eq0.mp h5 z.1)
          refine x_iconst hm rfl (v := nI 0) (by decide) ?_
          refine x_iret hm rfl rfl (by first | rfl | exact bI_nar | decide) ?_
          exact qt (congrArg Value.int hv)
        · have y5 := bI_ne0 h5
          refine x_iload_n hm rfl rfl ?_
          refine x_iload_n hm rfl rfl ?_
          refine x_icmp_eq hm rfl (t := 119) rfl (fun h6 => ?_) (fun h6 => ?_)
          · have hv : nI 0 = bI (mayF nt np a1 a2 a3) := bI_f fun q => ((mayF_5 (tn h1 (by decide))).mpr q).elim n5 (fun z => z.2 h6)
            refine x_iconst hm rfl (v := nI 0) (by decide) ?_
            refine x_iret hm rfl rfl (by first | rfl | exact bI_nar | decide) ?_
            exact qt (congrArg Value.int hv)
          · have hv : nI 1 = bI (mayF nt np a1 a2 a3) := bI_t ((mayF_5 (tn h1 (by decide))).mp (Or.inr ⟨y5, h6⟩))
            refine x_iconst hm rfl (v := nI 1) (by decide) ?_
            refine x_goto hm rfl (t := 120) rfl ?_
            refine x_iret hm rfl rfl (by first | rfl | exact bI_nar | decide) ?_
            exact qt (congrArg Value.int hv)
end FO
