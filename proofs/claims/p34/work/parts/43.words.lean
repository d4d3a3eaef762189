/-! ===== the reference: words ===== -/
section RO
variable {X : mSc} {Q : Option Value → mHp → Prop} {M : mM}
theorem tx_at {t : Nat} (ht : t < 15) : mChr (1000000 + t) = some (mTx.getD t []) := by
  unfold mChr
  rw [Nat.ble_eq_true_of_le (by omega), Nat.add_sub_cancel_left]
  have hl : mTx.length = 15 := by decide +kernel
  show mTx[t]? = _
  rw [List.getD_eq_getElem?_getD, List.getElem?_eq_getElem (by omega)]
  rfl
theorem len_call {ins : Instr} {len j a n pc t : Nat} {z : Int} {L : mLoc} {r : List Value} {D : mHp} (ht : t < 15) (hw : Nat.ble (mWt r) 8 = true) : mCall (ins, len, j, 22, a, n, z) true pc L (.ref (1000000 + t) :: r) D = some (.inl (pc + 3, L, .int (nI (mTx.getD t []).length) :: r, D)) := by
  unfold mCall
  dsimp only
  rw [tx_at ht]
  dsimp only
  rw [hw]
  rfl
theorem chr_call {ins : Instr} {len j a n pc t k : Nat} {z : Int} {L : mLoc} {r : List Value} {D : mHp} (ht : t < 15) (hw : Nat.ble (mWt r) 8 = true) (hk : k < (mTx.getD t []).length) : mCall (ins, len, j, 23, a, n, z) true pc L (.int (nI k) :: .ref (1000000 + t) :: r) D = some (.inl (pc + 3, L, .int (nI ((mTx.getD t []).getD k 0)) :: r, D)) := by
  unfold mCall
  dsimp only
  rw [tx_at ht]
  dsimp only
  rw [hw, jI_out hk (mTx_le t), jI_nat (by have := mTx_le t; omega)]
  rfl
theorem subI {a b : Nat} (h : a ≤ b) : nI b - nI a = nI (b - a) := sub_k h
theorem l225 {b e c t : Nat} (hT : Tx b e c M) (ht : t < 15) : ∀ (n k : Nat) (g : Int32), (mTx.getD t []).length - k < n → k ≤ (mTx.getD t []).length → (g = nI 0 ∨ (g = nI 1 ∧ M 66 12 = nI 1 ∧ e - b = (mTx.getD t []).length)) → mEv X (QE M (fun v => v = nI 0 ∨ (v = nI 1 ∧ M 66 12 = nI 1 ∧ b < e))) 225 32 [some (.ref 66), some (.ref (1000000 + t)), some (.int g), some (.int (nI k))] [] (con M) := by
  have hm : mMet 225 = some _ := rfl
  intro n
  induction n with
  | zero =>
    intro k g hkn hkb hg
    omega
  | succ n ih =>
    intro k g hkn hkb hg
    have hle := mTx_le t
    have h01 : g = nI 0 ∨ g = nI 1 := hg.imp id (fun q => q.1)
    refine x_iload_n hm rfl rfl ?_
    refine x_aload_n hm rfl rfl ?_
    refine x_libV hm rfl (len_call ht rfl) ?_
    dsimp only
    refine x_icmp_ge hm rfl (t := 75) rfl (fun h1 => ?_) (fun h1 => ?_)
    · refine x_iload_n hm rfl rfl ?_
      refine x_iret hm rfl rfl (nar01 h01) ?_
      exact ⟨_, rfl, rfl, hg.imp id (fun q => ⟨q.1, q.2.1, hT.2.2.2.2.2.2 (by rw [q.2.1]; decide)⟩)⟩ --stop
    · have hk : k < (mTx.getD t []).length := Nat.lt_of_not_le fun h => h1 (nI_le h (by omega))
      refine x_iload_n hm rfl rfl ?_
      refine x_if_eq hm rfl (t := 75) rfl (fun h2 => ?_) (fun h2 => ?_)
      · refine x_iload_n hm rfl rfl ?_
        refine x_iret hm rfl rfl (nar01 h01) ?_
        exact ⟨_, rfl, rfl, hg.imp id (fun q => ⟨q.1, q.2.1, hT.2.2.2.2.2.2 (by rw [q.2.1]; decide)⟩)⟩ --stop
      · obtain ⟨hg1, hs1, hlen⟩ := hg.resolve_left (fun q => h2 (by rw [q]; rfl))
        obtain ⟨x1, x2, x3, x4, x5, x6, x7⟩ := id hT
        refine x_aload_n hm rfl rfl ?_
        refine x_getf hm rfl (gR rfl rfl) ?_
        refine x_aload_n hm rfl rfl ?_
        refine x_getf hm rfl (gI rfl rfl) ?_
        rw [x1]
        refine x_iload_n hm rfl rfl ?_
        refine x_iadd hm rfl ?_
        rw [jI_add]
        refine x_iald hm rfl (lI rfl (by omega) (by decide)) ?_
        refine x_aload_n hm rfl rfl ?_
        refine x_iload_n hm rfl rfl ?_
        refine x_libV hm rfl (chr_call ht rfl hk) ?_
        dsimp only
        refine x_icmp_ne hm rfl (t := 67) rfl (fun h3 => ?_) (fun h3 => ?_)
        · refine x_iconst hm rfl (v := nI 0) (by decide) ?_
          refine x_istore_n hm rfl rfl ?_
          refine x_iinc hm rfl rfl (v := nI 1) (by decide) rfl ?_
          rw [jI_add]
          refine x_goto hm rfl (t := 32) rfl ?_
          exact ih _ _ (by omega) (by omega) (by first | exact Or.inl rfl | exact Or.inr ⟨rfl, hs1, hlen⟩)
        · refine x_iconst hm rfl (v := nI 1) (by decide) ?_
          refine x_goto hm rfl (t := 68) rfl ?_
          refine x_istore_n hm rfl rfl ?_
          refine x_iinc hm rfl rfl (v := nI 1) (by decide) rfl ?_
          rw [jI_add]
          refine x_goto hm rfl (t := 32) rfl ?_
          exact ih _ _ (by omega) (by omega) (by first | exact Or.inl rfl | exact Or.inr ⟨rfl, hs1, hlen⟩)
theorem t225 {b e c t : Nat} (hT : Tx b e c M) (ht : t < 15) : ∃ v, mT X 225 [.ref 66, .ref (1000000 + t)] (con M) (some (.int v)) (con M) ∧ (v = nI 0 ∨ (v = nI 1 ∧ M 66 12 = nI 1 ∧ b < e)) := by
  refine te_of (row := _) rfl (Nat.le_of_ble_eq_true rfl) ?_
  have hm : mMet 225 = some _ := rfl
  obtain ⟨x1, x2, x3, x4, x5, x6, x7⟩ := id hT
  have hle := mTx_le t
  refine x_aload_n hm rfl rfl ?_
  refine x_getf hm rfl (gI rfl rfl) ?_
  refine x_iconst hm rfl (v := nI 1) (by decide) ?_
  refine x_icmp_ne hm rfl (t := 28) rfl (fun h1 => ?_) (fun h1 => ?_)
  · refine x_iconst hm rfl (v := nI 0) (by decide) ?_
    refine x_istore_n hm rfl rfl ?_
    refine x_iconst hm rfl (v := nI 0) (by decide) ?_
    refine x_istore_n hm rfl rfl ?_
    first
      | exact l225 hT ht _ 0 _ (Nat.lt_succ_self _) (Nat.zero_le _) (Or.inl rfl)
      | exact l225 hT ht _ 0 _ (Nat.lt_succ_self _) (Nat.zero_le _) (Or.inr ⟨rfl, hs1, hlen⟩)
  · have hs1 := h1
    refine x_aload_n hm rfl rfl ?_
    refine x_getf hm rfl (gI rfl rfl) ?_
    rw [x2]
    refine x_aload_n hm rfl rfl ?_
    refine x_getf hm rfl (gI rfl rfl) ?_
    rw [x1]
    refine x_isub hm rfl ?_
    rw [subI x4]
    refine x_aload_n hm rfl rfl ?_
    refine x_libV hm rfl (len_call ht rfl) ?_
    dsimp only
    refine x_icmp_ne hm rfl (t := 28) rfl (fun h2 => ?_) (fun h2 => ?_)
    · refine x_iconst hm rfl (v := nI 0) (by decide) ?_
      refine x_istore_n hm rfl rfl ?_
      refine x_iconst hm rfl (v := nI 0) (by decide) ?_
      refine x_istore_n hm rfl rfl ?_
      first
        | exact l225 hT ht _ 0 _ (Nat.lt_succ_self _) (Nat.zero_le _) (Or.inl rfl)
        | exact l225 hT ht _ 0 _ (Nat.lt_succ_self _) (Nat.zero_le _) (Or.inr ⟨rfl, hs1, hlen⟩)
    · have hlen := jI_inj (by omega) (by omega) h2
      refine x_iconst hm rfl (v := nI 1) (by decide) ?_
      refine x_goto hm rfl (t := 29) rfl ?_
      refine x_istore_n hm rfl rfl ?_
      refine x_iconst hm rfl (v := nI 0) (by decide) ?_
      refine x_istore_n hm rfl rfl ?_
      first
        | exact l225 hT ht _ 0 _ (Nat.lt_succ_self _) (Nat.zero_le _) (Or.inl rfl)
        | exact l225 hT ht _ 0 _ (Nat.lt_succ_self _) (Nat.zero_le _) (Or.inr ⟨rfl, hs1, hlen⟩)
def kt (k : Nat) : Nat := if k = 0 then 7 else k
theorem kt_lt {k : Nat} (h : k < 7) : kt k < 15 := by
  unfold kt
  split <;> omega
theorem knk {k : Nat} (hk : k < 7) : ([1000007, 1000001, 1000002, 1000003, 1000004, 1000005, 1000006] : List Nat)[k]? = some (1000000 + kt k) := by
  rcases (by omega : k = 0 ∨ k = 1 ∨ k = 2 ∨ k = 3 ∨ k = 4 ∨ k = 5 ∨ k = 6) with rfl | rfl | rfl | rfl | rfl | rfl | rfl <;> rfl
theorem l224 {b e c : Nat} (hT : Tx b e c M) : ∀ (n k : Nat) (g : Int32), 7 - k < n → k ≤ 7 → (g = -1 ∨ ∃ k, k < 7 ∧ g = nI k ∧ M 66 12 = nI 1 ∧ b < e) → mEv X (QE M (fun v => (v = -1 ∨ ∃ k, k < 7 ∧ v = nI k ∧ M 66 12 = nI 1 ∧ b < e))) 224 4 [some (.ref 66), some (.int g), some (.int (nI k))] [] (con M) := by
  have hm : mMet 224 = some _ := rfl
  intro n
  induction n with
  | zero =>
    intro k g hkn hkb hg
    omega
  | succ n ih =>
    intro k g hkn hkb hg
    refine x_iload_n hm rfl rfl ?_
    refine x_aload_n hm rfl rfl ?_
    refine x_getf hm rfl (gR rfl rfl) ?_
    refine x_alen hm rfl (gLen _ rfl rfl) ?_
    refine x_icmp_ge hm rfl (t := 38) rfl (fun h1 => ?_) (fun h1 => ?_)
    · refine x_iload_n hm rfl rfl ?_
      refine x_iret hm rfl rfl (by first | rfl | exact bI_nar | decide) ?_
      exact ⟨_, rfl, rfl, hg⟩
    · have hk : k < 7 := Nat.lt_of_not_le fun h => h1 (nI_le h (by omega))
      refine x_aload_n hm rfl rfl ?_
      refine x_aload_n hm rfl rfl ?_
      refine x_getf hm rfl (gR rfl rfl) ?_
      refine x_iload_n hm rfl rfl ?_
      refine x_aald (v := .ref (1000000 + kt k)) hm rfl ?_ ?_
      · exact lQ 4 (Or.inr (Or.inr rfl)) rfl (knk hk) hk (by decide)
      refine x_cVe hm rfl rfl (t225 hT (kt_lt hk)) (fun v2 r2 => ?_)
      refine x_if_eq hm rfl (t := 30) rfl (fun h3 => ?_) (fun h3 => ?_)
      · refine x_iload_n hm rfl rfl ?_
        refine x_istore_n hm rfl rfl ?_
        refine x_iinc hm rfl rfl (v := nI 1) (by decide) rfl ?_
        rw [jI_add]
        refine x_goto hm rfl (t := 4) rfl ?_
        first
          | exact ih _ _ (by omega) (by omega) (Or.inr ⟨k, hk, rfl, (r2.resolve_left (fun q => by subst q; exact absurd (by decide : nI 0 = (0 : Int32)) (by assumption))).2⟩)
          | exact ih _ _ (by omega) (by omega) hg
          | exact ih _ _ (by omega) (by omega) (Or.inr ⟨k, hk, rfl, (r1.resolve_left (fun q => by subst q; exact absurd (by decide : nI 0 = (0 : Int32)) (by assumption))).2⟩)
          | exact ih _ _ (by omega) (by omega) (Or.inr ⟨k, hk, rfl, (r3.resolve_left (fun q => by subst q; exact absurd (by decide : nI 0 = (0 : Int32)) (by assumption))).2⟩)
          | exact ih _ _ (by omega) (by omega) (Or.inr ⟨k, hk, rfl, (r4.resolve_left (fun q => by subst q; exact absurd (by decide : nI 0 = (0 : Int32)) (by assumption))).2⟩)
          | exact ih _ _ (by omega) (by omega) (Or.inr ⟨k, hk, rfl, (r5.resolve_left (fun q => by subst q; exact absurd (by decide : nI 0 = (0 : Int32)) (by assumption))).2⟩)
      · refine x_iload_n hm rfl rfl ?_
        refine x_goto hm rfl (t := 31) rfl ?_
        refine x_istore_n hm rfl rfl ?_
        refine x_iinc hm rfl rfl (v := nI 1) (by decide) rfl ?_
        rw [jI_add]
        refine x_goto hm rfl (t := 4) rfl ?_
        first
          | exact ih _ _ (by omega) (by omega) (Or.inr ⟨k, hk, rfl, (r2.resolve_left (fun q => by subst q; exact absurd (by decide : nI 0 = (0 : Int32)) (by assumption))).2⟩)
          | exact ih _ _ (by omega) (by omega) hg
          | exact ih _ _ (by omega) (by omega) (Or.inr ⟨k, hk, rfl, (r1.resolve_left (fun q => by subst q; exact absurd (by decide : nI 0 = (0 : Int32)) (by assumption))).2⟩)
          | exact ih _ _ (by omega) (by omega) (Or.inr ⟨k, hk, rfl, (r3.resolve_left (fun q => by subst q; exact absurd (by decide : nI 0 = (0 : Int32)) (by assumption))).2⟩)
          | exact ih _ _ (by omega) (by omega) (Or.inr ⟨k, hk, rfl, (r4.resolve_left (fun q => by subst q; exact absurd (by decide : nI 0 = (0 : Int32)) (by assumption))).2⟩)
          | exact ih _ _ (by omega) (by omega) (Or.inr ⟨k, hk, rfl, (r5.resolve_left (fun q => by subst q; exact absurd (by decide : nI 0 = (0 : Int32)) (by assumption))).2⟩)
theorem t224 {b e c : Nat} (hT : Tx b e c M) : ∃ v, mT X 224 [.ref 66] (con M) (some (.int v)) (con M) ∧ (v = -1 ∨ ∃ k, k < 7 ∧ v = nI k ∧ M 66 12 = nI 1 ∧ b < e) := by
  refine te_of (row := _) rfl (Nat.le_of_ble_eq_true rfl) ?_
  have hm : mMet 224 = some _ := rfl
  refine x_iconst hm rfl (v := (-1 : Int32)) (by decide) ?_
  refine x_istore_n hm rfl rfl ?_
  refine x_iconst hm rfl (v := nI 0) (by decide) ?_
  refine x_istore_n hm rfl rfl ?_
  exact l224 hT _ 0 _ (Nat.lt_succ_self _) (Nat.zero_le _) (Or.inl rfl)
theorem t227 {b e c t : Nat} {w lo hi : Int32} (hT : Tx b e c M) (ht : t < 15) : ∃ v M', mT X 227 [.ref 66, .ref (1000000 + t), .int w, .int lo, .int hi] (con M) (some (.int v)) (con M') ∧ ∃ b' e', Tx b' e' c M' ∧ Ly M M' ∧ b ≤ b' ∧ (M' 66 14 = 0 → M 66 14 = 0 ∧ (v = w ∨ (lo ≤ v ∧ v ≤ hi))) := by
  refine ti_of (row := _) rfl (Nat.le_of_ble_eq_true rfl) ?_
  have hm : mMet 227 = some _ := rfl
  refine x_aload_n hm rfl rfl ?_
  refine x_getf hm rfl (gI rfl rfl) ?_
  refine x_if_ne hm rfl (t := 15) rfl (fun h1 => ?_) (fun h1 => ?_)
  · refine x_iload_n hm rfl rfl ?_
    refine x_iret hm rfl rfl (by first | rfl | exact bI_nar | decide) ?_
    first
      | exact ⟨_, _, rfl, rfl, b, e, hT, Ly.rf, Nat.le_refl _, fun q => ⟨q, Or.inl rfl⟩⟩
      | (obtain ⟨b2, e2, k1, k2, k3, k4⟩ := r1; exact ⟨_, _, rfl, rfl, b2, e2, k1, g2.trans k2, Nat.le_trans g3 k3, fun q => ⟨(g4 (k4 q).1).1, Or.inr (k4 q).2.1⟩⟩)
      | (obtain ⟨b2, e2, k1, k2, k3, k4⟩ := r2; exact ⟨_, _, rfl, rfl, b2, e2, k1, g2.trans k2, Nat.le_trans g3 k3, fun q => ⟨(g4 (k4 q).1).1, Or.inr (k4 q).2.1⟩⟩)
      | (obtain ⟨b2, e2, k1, k2, k3, k4⟩ := r3; exact ⟨_, _, rfl, rfl, b2, e2, k1, g2.trans k2, Nat.le_trans g3 k3, fun q => ⟨(g4 (k4 q).1).1, Or.inr (k4 q).2.1⟩⟩)
      | (obtain ⟨b2, e2, k1, k2, k3, k4⟩ := r4; exact ⟨_, _, rfl, rfl, b2, e2, k1, g2.trans k2, Nat.le_trans g3 k3, fun q => ⟨(g4 (k4 q).1).1, Or.inr (k4 q).2.1⟩⟩)
      | (obtain ⟨b2, e2, k1, k2, k3, k4⟩ := r5; exact ⟨_, _, rfl, rfl, b2, e2, k1, g2.trans k2, Nat.le_trans g3 k3, fun q => ⟨(g4 (k4 q).1).1, Or.inr (k4 q).2.1⟩⟩)
      | (obtain ⟨b2, e2, k1, k2, k3, k4⟩ := r6; exact ⟨_, _, rfl, rfl, b2, e2, k1, g2.trans k2, Nat.le_trans g3 k3, fun q => ⟨(g4 (k4 q).1).1, Or.inr (k4 q).2.1⟩⟩)
      | (obtain ⟨b2, e2, k1, k2, k3, k4⟩ := r7; exact ⟨_, _, rfl, rfl, b2, e2, k1, g2.trans k2, Nat.le_trans g3 k3, fun q => ⟨(g4 (k4 q).1).1, Or.inr (k4 q).2.1⟩⟩)
      | (obtain ⟨b2, e2, k1, k2, k3, k4⟩ := r8; exact ⟨_, _, rfl, rfl, b2, e2, k1, g2.trans k2, Nat.le_trans g3 k3, fun q => ⟨(g4 (k4 q).1).1, Or.inr (k4 q).2.1⟩⟩)
      | (obtain ⟨b2, e2, k1, k2, k3, k4⟩ := r9; exact ⟨_, _, rfl, rfl, b2, e2, k1, g2.trans k2, Nat.le_trans g3 k3, fun q => ⟨(g4 (k4 q).1).1, Or.inr (k4 q).2.1⟩⟩)
  · refine x_aload_n hm rfl rfl ?_
    refine x_aload_n hm rfl rfl ?_
    refine x_cVe hm rfl rfl (t225 hT ht) (fun v2 r2 => ?_)
    refine x_if_ne hm rfl (t := 17) rfl (fun h3 => ?_) (fun h3 => ?_)
    · refine x_aload_n hm rfl rfl ?_
      refine x_iconst hm rfl (v := nI 1) (by decide) ?_
      refine x_cVv hm rfl rfl (t226 hT) (fun M4 r4 => ?_)
      refine x_aload_n hm rfl rfl ?_
      obtain ⟨b1, e1, hT2, g2, g3, g4⟩ := r4
      refine x_iload_n hm rfl rfl ?_
      refine x_iload hm rfl rfl ?_
      refine x_cVi hm rfl rfl (t228 hT2) (fun v5 M5 r5 => ?_)
      refine x_iret hm rfl rfl (by first | rfl | exact bI_nar | decide) ?_
      first
        | (obtain ⟨b2, e2, k1, k2, k3, k4⟩ := r5; exact ⟨_, _, rfl, rfl, b2, e2, k1, g2.trans k2, Nat.le_trans g3 k3, fun q => ⟨(g4 (k4 q).1).1, Or.inr (k4 q).2.1⟩⟩)
        | exact ⟨_, _, rfl, rfl, b, e, hT, Ly.rf, Nat.le_refl _, fun q => ⟨q, Or.inl rfl⟩⟩
        | (obtain ⟨b2, e2, k1, k2, k3, k4⟩ := r2; exact ⟨_, _, rfl, rfl, b2, e2, k1, g2.trans k2, Nat.le_trans g3 k3, fun q => ⟨(g4 (k4 q).1).1, Or.inr (k4 q).2.1⟩⟩)
        | (obtain ⟨b2, e2, k1, k2, k3, k4⟩ := r4; exact ⟨_, _, rfl, rfl, b2, e2, k1, g2.trans k2, Nat.le_trans g3 k3, fun q => ⟨(g4 (k4 q).1).1, Or.inr (k4 q).2.1⟩⟩)
        | (obtain ⟨b2, e2, k1, k2, k3, k4⟩ := r1; exact ⟨_, _, rfl, rfl, b2, e2, k1, g2.trans k2, Nat.le_trans g3 k3, fun q => ⟨(g4 (k4 q).1).1, Or.inr (k4 q).2.1⟩⟩)
        | (obtain ⟨b2, e2, k1, k2, k3, k4⟩ := r3; exact ⟨_, _, rfl, rfl, b2, e2, k1, g2.trans k2, Nat.le_trans g3 k3, fun q => ⟨(g4 (k4 q).1).1, Or.inr (k4 q).2.1⟩⟩)
        | (obtain ⟨b2, e2, k1, k2, k3, k4⟩ := r6; exact ⟨_, _, rfl, rfl, b2, e2, k1, g2.trans k2, Nat.le_trans g3 k3, fun q => ⟨(g4 (k4 q).1).1, Or.inr (k4 q).2.1⟩⟩)
        | (obtain ⟨b2, e2, k1, k2, k3, k4⟩ := r7; exact ⟨_, _, rfl, rfl, b2, e2, k1, g2.trans k2, Nat.le_trans g3 k3, fun q => ⟨(g4 (k4 q).1).1, Or.inr (k4 q).2.1⟩⟩)
        | (obtain ⟨b2, e2, k1, k2, k3, k4⟩ := r8; exact ⟨_, _, rfl, rfl, b2, e2, k1, g2.trans k2, Nat.le_trans g3 k3, fun q => ⟨(g4 (k4 q).1).1, Or.inr (k4 q).2.1⟩⟩)
        | (obtain ⟨b2, e2, k1, k2, k3, k4⟩ := r9; exact ⟨_, _, rfl, rfl, b2, e2, k1, g2.trans k2, Nat.le_trans g3 k3, fun q => ⟨(g4 (k4 q).1).1, Or.inr (k4 q).2.1⟩⟩)
    · refine x_iload_n hm rfl rfl ?_
      refine x_iret hm rfl rfl (by first | rfl | exact bI_nar | decide) ?_
      first
        | (obtain ⟨b2, e2, k1, k2, k3, k4⟩ := r2; exact ⟨_, _, rfl, rfl, b2, e2, k1, g2.trans k2, Nat.le_trans g3 k3, fun q => ⟨(g4 (k4 q).1).1, Or.inr (k4 q).2.1⟩⟩)
        | exact ⟨_, _, rfl, rfl, b, e, hT, Ly.rf, Nat.le_refl _, fun q => ⟨q, Or.inl rfl⟩⟩
        | (obtain ⟨b2, e2, k1, k2, k3, k4⟩ := r1; exact ⟨_, _, rfl, rfl, b2, e2, k1, g2.trans k2, Nat.le_trans g3 k3, fun q => ⟨(g4 (k4 q).1).1, Or.inr (k4 q).2.1⟩⟩)
        | (obtain ⟨b2, e2, k1, k2, k3, k4⟩ := r3; exact ⟨_, _, rfl, rfl, b2, e2, k1, g2.trans k2, Nat.le_trans g3 k3, fun q => ⟨(g4 (k4 q).1).1, Or.inr (k4 q).2.1⟩⟩)
        | (obtain ⟨b2, e2, k1, k2, k3, k4⟩ := r4; exact ⟨_, _, rfl, rfl, b2, e2, k1, g2.trans k2, Nat.le_trans g3 k3, fun q => ⟨(g4 (k4 q).1).1, Or.inr (k4 q).2.1⟩⟩)
        | (obtain ⟨b2, e2, k1, k2, k3, k4⟩ := r5; exact ⟨_, _, rfl, rfl, b2, e2, k1, g2.trans k2, Nat.le_trans g3 k3, fun q => ⟨(g4 (k4 q).1).1, Or.inr (k4 q).2.1⟩⟩)
        | (obtain ⟨b2, e2, k1, k2, k3, k4⟩ := r6; exact ⟨_, _, rfl, rfl, b2, e2, k1, g2.trans k2, Nat.le_trans g3 k3, fun q => ⟨(g4 (k4 q).1).1, Or.inr (k4 q).2.1⟩⟩)
        | (obtain ⟨b2, e2, k1, k2, k3, k4⟩ := r7; exact ⟨_, _, rfl, rfl, b2, e2, k1, g2.trans k2, Nat.le_trans g3 k3, fun q => ⟨(g4 (k4 q).1).1, Or.inr (k4 q).2.1⟩⟩)
        | (obtain ⟨b2, e2, k1, k2, k3, k4⟩ := r8; exact ⟨_, _, rfl, rfl, b2, e2, k1, g2.trans k2, Nat.le_trans g3 k3, fun q => ⟨(g4 (k4 q).1).1, Or.inr (k4 q).2.1⟩⟩)
        | (obtain ⟨b2, e2, k1, k2, k3, k4⟩ := r9; exact ⟨_, _, rfl, rfl, b2, e2, k1, g2.trans k2, Nat.le_trans g3 k3, fun q => ⟨(g4 (k4 q).1).1, Or.inr (k4 q).2.1⟩⟩)
end RO
