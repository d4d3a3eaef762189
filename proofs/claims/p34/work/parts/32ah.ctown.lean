section CA
variable {X : mSc} {Q : Option Value → mHp → Prop} {M : mM} {b : Nat}
theorem t14 {k o : Int32} : ∃ v, mT X 14 [.int k, .int o] (con M) (some (.int v)) (con M) ∧ (v = nI 0 ∨ v = nI 1) := by
  refine te_of (row := _) rfl (Nat.le_of_ble_eq_true rfl) ?_
  have hm : mMet 14 = some _ := rfl
  refine x_iload_n hm rfl rfl ?_
  refine x_istore_n hm rfl rfl ?_
  refine x_iconst hm rfl (v := nI 0) (by decide) ?_
  refine x_istore_n hm rfl rfl ?_
  exact l14 _ 0 _ (Nat.lt_succ_self _) (Nat.zero_le _)
theorem t13 (hb : b = 1 ∨ b = 18 ∨ b = 35) {p t : Nat} {o : Int32} (hW : Wf M) (hp : p < 8) (ht : t < 8) (ho : okx 2 o) : ∃ v, mT X 13 [.ref b, .int o, .int (nI p), .int (nI t)] (con M) (some (.int v)) (con M) ∧ True := by
  refine te_of (row := _) rfl (Nat.le_of_ble_eq_true rfl) ?_
  have hm : mMet 13 = some _ := rfl
  obtain ⟨s, hs3, hs⟩ := hW.csort hb t
  have J87 : ∀ (o1 v4 v5 v6 v7 : Int32), mEv X (QE M (fun _ => True)) 13 87 [some (.ref b), some (.int o1), some (.int (nI p)), some (.int (nI t)), some (.int v4), some (.int v5), some (.int v6), some (.int v7)] [] (con M) := by
    intro o1 v4 v5 v6 v7
    refine x_aload_n hm rfl rfl ?_
    refine x_getf hm rfl (gR (tO hb) rfl) ?_
    refine x_iconst hm rfl (v := nI 0) (by decide) ?_
    refine x_aald hm rfl (by first | exact lQ 3 (Or.inr (Or.inl rfl)) (tI hb) rfl (by omega) (by decide) | exact lQ 3 (Or.inr (Or.inl rfl)) (tF hb) rfl (by omega) (by decide) | exact lQ 3 (Or.inr (Or.inl rfl)) (tI hb) (tIk (by omega)) (by omega) (by decide) | exact lQ 3 (Or.inr (Or.inl rfl)) (tF hb) (tFk (by omega)) (by omega) (by decide)) ?_
    refine x_iload_n hm rfl rfl ?_
    refine x_iald hm rfl (by first | exact lI (tRow hb (by omega)) (by omega) (by decide) | exact lI (tRowI hb (by omega)) (by omega) (by decide) | exact lI (tRowF hb (by omega)) (by omega) (by decide) | exact lI (tSp hb) (by omega) (by decide) | exact lI rfl (by omega) (by decide)) ?_
    refine x_ts hm rfl (fun h1 => ⟨199, rfl, ?_⟩) (fun i1 h1 g1 => ?_)
    · refine x_iconst hm rfl (v := nI 0) (by decide) ?_
      refine x_iload hm rfl rfl ?_
      refine x_lib hm rfl rfl ?_
      dsimp only
      refine x_iret hm rfl rfl (by first | rfl | exact bI_nar | decide) ?_
      exact ⟨_, rfl, rfl, trivial⟩
    · have k1 : i1 = 0 ∨ i1 = 1 ∨ i1 = 2 ∨ i1 = 3 ∨ i1 = 4 ∨ i1 = 5 := by omega
      rcases k1 with rfl | rfl | rfl | rfl | rfl | rfl
      · refine ⟨_, 132, rfl, rfl, ?_⟩
        refine x_iconst hm rfl (v := nI 0) (by decide) ?_
        refine x_iload hm rfl rfl ?_
        refine x_iconst hm rfl (v := nI 2) (by decide) ?_
        refine x_idiv hm rfl (by decide) ?_
        refine x_lib hm rfl rfl ?_
        dsimp only
        refine x_iret hm rfl rfl (by first | rfl | exact bI_nar | decide) ?_
        exact ⟨_, rfl, rfl, trivial⟩
      · refine ⟨_, 141, rfl, rfl, ?_⟩
        refine x_iconst hm rfl (v := nI 0) (by decide) ?_
        refine x_iload hm rfl rfl ?_
        refine x_lib hm rfl rfl ?_
        dsimp only
        refine x_iret hm rfl rfl (by first | rfl | exact bI_nar | decide) ?_
        exact ⟨_, rfl, rfl, trivial⟩
      · refine ⟨_, 148, rfl, rfl, ?_⟩
        refine x_iconst hm rfl (v := nI 0) (by decide) ?_
        refine x_iload hm rfl rfl ?_
        refine x_iconst hm rfl (v := nI 3) (by decide) ?_
        refine x_isub hm rfl ?_
        refine x_lib hm rfl rfl ?_
        dsimp only
        refine x_iret hm rfl rfl (by first | rfl | exact bI_nar | decide) ?_
        exact ⟨_, rfl, rfl, trivial⟩
      · refine ⟨_, 157, rfl, rfl, ?_⟩
        refine x_iconst hm rfl (v := nI 0) (by decide) ?_
        refine x_iload hm rfl rfl ?_
        refine x_iconst hm rfl (v := nI 3) (by decide) ?_
        refine x_isub hm rfl ?_
        refine x_iload hm rfl rfl ?_
        refine x_bipush hm rfl (v := nI 100) (by decide) ?_
        refine x_idiv hm rfl (by decide) ?_
        refine x_iadd hm rfl ?_
        refine x_lib hm rfl rfl ?_
        dsimp only
        refine x_iret hm rfl rfl (by first | rfl | exact bI_nar | decide) ?_
        exact ⟨_, rfl, rfl, trivial⟩
      · refine ⟨_, 172, rfl, rfl, ?_⟩
        refine x_iconst hm rfl (v := nI 0) (by decide) ?_
        refine x_iload hm rfl rfl ?_
        refine x_iconst hm rfl (v := nI 2) (by decide) ?_
        refine x_imul hm rfl ?_
        refine x_lib hm rfl rfl ?_
        dsimp only
        refine x_iret hm rfl rfl (by first | rfl | exact bI_nar | decide) ?_
        exact ⟨_, rfl, rfl, trivial⟩
      · refine ⟨_, 181, rfl, rfl, ?_⟩
        refine x_iload_n hm rfl rfl ?_
        refine x_iconst hm rfl (v := (-1 : Int32)) (by decide) ?_
        refine x_icmp_ne hm rfl (t := 190) rfl (fun h2 => ?_) (fun h2 => ?_)
        · refine x_iconst hm rfl (v := nI 0) (by decide) ?_
          refine x_iload hm rfl rfl ?_
          refine x_iconst hm rfl (v := nI 2) (by decide) ?_
          refine x_idiv hm rfl (by decide) ?_
          refine x_lib hm rfl rfl ?_
          dsimp only
          refine x_iret hm rfl rfl (by first | rfl | exact bI_nar | decide) ?_
          exact ⟨_, rfl, rfl, trivial⟩
        · refine x_iconst hm rfl (v := nI 0) (by decide) ?_
          refine x_goto hm rfl (t := 198) rfl ?_
          refine x_iret hm rfl rfl (by first | rfl | exact bI_nar | decide) ?_
          exact ⟨_, rfl, rfl, trivial⟩
  have J72 : ∀ (o1 v4 v5 v6 : Int32), mEv X (QE M (fun _ => True)) 13 72 [some (.ref b), some (.int o1), some (.int (nI p)), some (.int (nI t)), some (.int v4), some (.int v5), some (.int v6), none] [] (con M) := by
    intro o1 v4 v5 v6
    refine x_iload hm rfl rfl ?_
    refine x_iload hm rfl rfl ?_
    refine x_if_eq hm rfl (t := 83) rfl (fun h3 => ?_) (fun h3 => ?_)
    · refine x_iconst hm rfl (v := nI 0) (by decide) ?_
      refine x_iadd hm rfl ?_
      refine x_istore hm rfl rfl ?_
      exact J87 _ _ _ _ _
    · refine x_iconst hm rfl (v := nI 2) (by decide) ?_
      refine x_goto hm rfl (t := 84) rfl ?_
      refine x_iadd hm rfl ?_
      refine x_istore hm rfl rfl ?_
      exact J87 _ _ _ _ _
  refine x_aload_n hm rfl rfl ?_
  refine x_getf hm rfl (gR (tO hb) rfl) ?_
  refine x_iconst hm rfl (v := nI 2) (by decide) ?_
  refine x_aald hm rfl (by first | exact lQ 3 (Or.inr (Or.inl rfl)) (tI hb) rfl (by omega) (by decide) | exact lQ 3 (Or.inr (Or.inl rfl)) (tF hb) rfl (by omega) (by decide) | exact lQ 3 (Or.inr (Or.inl rfl)) (tI hb) (tIk (by omega)) (by omega) (by decide) | exact lQ 3 (Or.inr (Or.inl rfl)) (tF hb) (tFk (by omega)) (by omega) (by decide)) ?_
  refine x_iload_n hm rfl rfl ?_
  refine x_iald hm rfl (by first | exact lI (tRow hb (by omega)) (by omega) (by decide) | exact lI (tRowI hb (by omega)) (by omega) (by decide) | exact lI (tRowF hb (by omega)) (by omega) (by decide) | exact lI (tSp hb) (by omega) (by decide) | exact lI rfl (by omega) (by decide)) ?_
  refine x_istore hm rfl rfl ?_
  refine x_iload hm rfl rfl ?_
  refine x_if_ne hm rfl (t := 17) rfl (fun h4 => ?_) (fun h4 => ?_)
  · refine x_aload_n hm rfl rfl ?_
    refine x_getf hm rfl (gR (tO hb) rfl) ?_
    refine x_iconst hm rfl (v := nI 3) (by decide) ?_
    refine x_aload_n hm rfl rfl ?_
    refine x_getf hm rfl (gR (tO hb) rfl) ?_
    refine x_iconst hm rfl (v := nI 0) (by decide) ?_
    refine x_aald hm rfl (by first | exact lQ 3 (Or.inr (Or.inl rfl)) (tI hb) rfl (by omega) (by decide) | exact lQ 3 (Or.inr (Or.inl rfl)) (tF hb) rfl (by omega) (by decide) | exact lQ 3 (Or.inr (Or.inl rfl)) (tI hb) (tIk (by omega)) (by omega) (by decide) | exact lQ 3 (Or.inr (Or.inl rfl)) (tF hb) (tFk (by omega)) (by omega) (by decide)) ?_
    refine x_iload_n hm rfl rfl ?_
    refine x_iald hm rfl (by first | exact lI (tRow hb (by omega)) (by omega) (by decide) | exact lI (tRowI hb (by omega)) (by omega) (by decide) | exact lI (tRowF hb (by omega)) (by omega) (by decide) | exact lI (tSp hb) (by omega) (by decide) | exact lI rfl (by omega) (by decide)) ?_
    rw [hs]
    refine x_iadd hm rfl ?_
    rw [jI_add]
    refine x_aald hm rfl (by first | exact lQ 3 (Or.inr (Or.inl rfl)) (tI hb) rfl (by omega) (by decide) | exact lQ 3 (Or.inr (Or.inl rfl)) (tF hb) rfl (by omega) (by decide) | exact lQ 3 (Or.inr (Or.inl rfl)) (tI hb) (tIk (by omega)) (by omega) (by decide) | exact lQ 3 (Or.inr (Or.inl rfl)) (tF hb) (tFk (by omega)) (by omega) (by decide)) ?_
    refine x_iload_n hm rfl rfl ?_
    refine x_iald hm rfl (by first | exact lI (tRow hb (by omega)) (by omega) (by decide) | exact lI (tRowI hb (by omega)) (by omega) (by decide) | exact lI (tRowF hb (by omega)) (by omega) (by decide) | exact lI (tSp hb) (by omega) (by decide) | exact lI rfl (by omega) (by decide)) ?_
    refine x_aload_n hm rfl rfl ?_
    refine x_getf hm rfl (gR (tO hb) rfl) ?_
    refine x_iconst hm rfl (v := nI 3) (by decide) ?_
    refine x_aald hm rfl (by first | exact lQ 3 (Or.inr (Or.inl rfl)) (tI hb) rfl (by omega) (by decide) | exact lQ 3 (Or.inr (Or.inl rfl)) (tF hb) rfl (by omega) (by decide) | exact lQ 3 (Or.inr (Or.inl rfl)) (tI hb) (tIk (by omega)) (by omega) (by decide) | exact lQ 3 (Or.inr (Or.inl rfl)) (tF hb) (tFk (by omega)) (by omega) (by decide)) ?_
    refine x_iload_n hm rfl rfl ?_
    refine x_iald hm rfl (by first | exact lI (tRow hb (by omega)) (by omega) (by decide) | exact lI (tRowI hb (by omega)) (by omega) (by decide) | exact lI (tRowF hb (by omega)) (by omega) (by decide) | exact lI (tSp hb) (by omega) (by decide) | exact lI rfl (by omega) (by decide)) ?_
    refine x_isub hm rfl ?_
    refine x_istore hm rfl rfl ?_
    refine x_iload_n hm rfl rfl ?_
    refine x_iconst hm rfl (v := (-1 : Int32)) (by decide) ?_
    refine x_icmp_eq hm rfl (t := 69) rfl (fun h5 => ?_) (fun h5 => ?_)
    · refine x_iconst hm rfl (v := nI 0) (by decide) ?_
      refine x_istore hm rfl rfl ?_
      exact J72 _ _ _ _
    · obtain ⟨k, hk, rfl⟩ := (ok2 ho).resolve_left h5
      refine x_aload_n hm rfl rfl ?_
      refine x_getf hm rfl (gR (tO hb) rfl) ?_
      refine x_iconst hm rfl (v := nI 0) (by decide) ?_
      refine x_aald hm rfl (by first | exact lQ 3 (Or.inr (Or.inl rfl)) (tI hb) rfl (by omega) (by decide) | exact lQ 3 (Or.inr (Or.inl rfl)) (tF hb) rfl (by omega) (by decide) | exact lQ 3 (Or.inr (Or.inl rfl)) (tI hb) (tIk (by omega)) (by omega) (by decide) | exact lQ 3 (Or.inr (Or.inl rfl)) (tF hb) (tFk (by omega)) (by omega) (by decide)) ?_
      refine x_iload_n hm rfl rfl ?_
      refine x_iald hm rfl (by first | exact lI (tRow hb (by omega)) (by omega) (by decide) | exact lI (tRowI hb (by omega)) (by omega) (by decide) | exact lI (tRowF hb (by omega)) (by omega) (by decide) | exact lI (tSp hb) (by omega) (by decide) | exact lI rfl (by omega) (by decide)) ?_
      refine x_iconst hm rfl (v := nI 2) (by decide) ?_
      refine x_cSe hm rfl rfl (t14) (fun v6 r6 => ?_)
      refine x_if_eq hm rfl (t := 69) rfl (fun h7 => ?_) (fun h7 => ?_)
      · refine x_iconst hm rfl (v := nI 0) (by decide) ?_
        refine x_istore hm rfl rfl ?_
        exact J72 _ _ _ _
      · refine x_iconst hm rfl (v := nI 1) (by decide) ?_
        refine x_goto hm rfl (t := 70) rfl ?_
        refine x_istore hm rfl rfl ?_
        exact J72 _ _ _ _
  · refine x_iconst hm rfl (v := nI 0) (by decide) ?_
    refine x_iret hm rfl rfl (by first | rfl | exact bI_nar | decide) ?_
    exact ⟨_, rfl, rfl, trivial⟩
end CA
