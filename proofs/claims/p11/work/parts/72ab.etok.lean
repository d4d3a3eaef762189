section RT
variable {X : mSc} {Q : Option Value → mHp → Prop} {M : mM} {T : Nat → Nat} {c : Nat}
theorem k228 {q : PS} {hi : Int32} (h : RT T c q M) (h8 : ∀ k, k < c → T k < 256) : ∃ v M', mT X 228 [.ref 66, .int (nI 0), .int hi] (con M) (some (.int v)) (con M') ∧ v = nI q.2.2.2.1 ∧ RT T c (pNu T c q hi) M' ∧ Ly M M' := by
  refine ti_of (row := _) rfl (Nat.le_of_ble_eq_true rfl) ?_
  have hm : mMet 228 = some _ := rfl
  obtain ⟨a1, a2, a3, a4, a5, a6, a7, a8⟩ := id h
  refine x_aload_n hm rfl rfl ?_
  refine x_getf hm rfl (gI rfl rfl) ?_
  refine x_istore_n hm rfl rfl ?_
  refine x_aload_n hm rfl rfl ?_
  refine x_aload_n hm rfl rfl ?_
  refine x_getf hm rfl (gI rfl rfl) ?_
  rw [a3]
  refine x_iconst hm rfl (v := nI 2) (by decide) ?_
  refine x_icmp_ne hm rfl (t := 27) rfl (fun h1 => ?_) (fun h1 => ?_)
  · have hn2 : ¬ q.2.2.1 = 2 := fun e => h1 (by rw [e])
    have hq : pNu T c q hi = pMu T c q (nI 0) := congrArg (pMu T c q) (if_neg fun g => hn2 g.1)
    refine x_iconst hm rfl (v := nI 0) (by decide) ?_
    refine x_cVv hm rfl rfl (k226 h h8) (fun M2 r2 => ?_)
    refine x_iload_n hm rfl rfl ?_
    refine x_iret hm rfl rfl (by first | rfl | exact bI_nar | decide) ?_
    first
      | exact ⟨_, _, rfl, rfl, a4, by rw [hq]; exact r2.1, r2.2⟩
      | exact ⟨_, _, rfl, rfl, a4, by rw [hq]; exact r1.1, r1.2⟩
      | exact ⟨_, _, rfl, rfl, a4, by rw [hq]; exact r3.1, r3.2⟩
      | exact ⟨_, _, rfl, rfl, a4, by rw [hq]; exact r4.1, r4.2⟩
      | exact ⟨_, _, rfl, rfl, a4, by rw [hq]; exact r5.1, r5.2⟩
      | exact ⟨_, _, rfl, rfl, a4, by rw [hq]; exact r6.1, r6.2⟩
      | exact ⟨_, _, rfl, rfl, a4, by rw [hq]; exact r7.1, r7.2⟩
  · have h2 : q.2.2.1 = 2 := jI_inj (by have := a8.2.2.2.2.1; omega) (by decide) h1
    refine x_iload_n hm rfl rfl ?_
    refine x_iload_n hm rfl rfl ?_
    refine x_iload_n hm rfl rfl ?_
    refine x_callS hm rfl rfl (t133) ?_
    refine x_if_eq hm rfl (t := 27) rfl (fun h3 => ?_) (fun h3 => ?_)
    · have hq : pNu T c q hi = pMu T c q (nI 0) := congrArg (pMu T c q) (if_neg fun g => bI_eq0.mp h3 ⟨by rw [a4]; exact ge0 (by have := a8.2.2.2.2.2; omega), by rw [a4]; exact g.2⟩)
      refine x_iconst hm rfl (v := nI 0) (by decide) ?_
      refine x_cVv hm rfl rfl (k226 h h8) (fun M4 r4 => ?_)
      refine x_iload_n hm rfl rfl ?_
      refine x_iret hm rfl rfl (by first | rfl | exact bI_nar | decide) ?_
      first
        | exact ⟨_, _, rfl, rfl, a4, by rw [hq]; exact r4.1, r4.2⟩
        | exact ⟨_, _, rfl, rfl, a4, by rw [hq]; exact r1.1, r1.2⟩
        | exact ⟨_, _, rfl, rfl, a4, by rw [hq]; exact r2.1, r2.2⟩
        | exact ⟨_, _, rfl, rfl, a4, by rw [hq]; exact r3.1, r3.2⟩
        | exact ⟨_, _, rfl, rfl, a4, by rw [hq]; exact r5.1, r5.2⟩
        | exact ⟨_, _, rfl, rfl, a4, by rw [hq]; exact r6.1, r6.2⟩
        | exact ⟨_, _, rfl, rfl, a4, by rw [hq]; exact r7.1, r7.2⟩
    · have hq : pNu T c q hi = pMu T c q (nI 1) := congrArg (pMu T c q) (if_pos ⟨h2, by rw [← a4]; exact (bI_ne0 h3).2⟩)
      refine x_iconst hm rfl (v := nI 1) (by decide) ?_
      refine x_goto hm rfl (t := 28) rfl ?_
      refine x_cVv hm rfl rfl (k226 h h8) (fun M5 r5 => ?_)
      refine x_iload_n hm rfl rfl ?_
      refine x_iret hm rfl rfl (by first | rfl | exact bI_nar | decide) ?_
      first
        | exact ⟨_, _, rfl, rfl, a4, by rw [hq]; exact r5.1, r5.2⟩
        | exact ⟨_, _, rfl, rfl, a4, by rw [hq]; exact r1.1, r1.2⟩
        | exact ⟨_, _, rfl, rfl, a4, by rw [hq]; exact r2.1, r2.2⟩
        | exact ⟨_, _, rfl, rfl, a4, by rw [hq]; exact r3.1, r3.2⟩
        | exact ⟨_, _, rfl, rfl, a4, by rw [hq]; exact r4.1, r4.2⟩
        | exact ⟨_, _, rfl, rfl, a4, by rw [hq]; exact r6.1, r6.2⟩
        | exact ⟨_, _, rfl, rfl, a4, by rw [hq]; exact r7.1, r7.2⟩
theorem wd_c {T : Nat → Nat} {q : PS} {t k : Nat} (h : ∀ j, j < k → T (q.1 + j) = (mTx.getD t []).getD j 0) (h2 : T (q.1 + k) = (mTx.getD t []).getD k 0) : ∀ j, j < k + 1 → T (q.1 + j) = (mTx.getD t []).getD j 0 := by
  intro j hj
  rcases Nat.lt_or_ge j k with g | g
  · exact h j g
  · obtain rfl : j = k := by omega
    exact h2
theorem ch_lt {t k : Nat} (ht : t < 15) : (mTx.getD t []).getD k 0 < 256 := by
  have e : ∀ t, t < 15 → (mTx.getD t []).all (fun x => decide (x < 256)) = true := by decide +kernel
  have h := List.all_eq_true.mp (e t ht)
  rw [List.getD_eq_getElem?_getD]
  cases hg : (mTx.getD t [])[k]? with
  | none => exact (by decide : (0 : Nat) < 256)
  | some x => exact of_decide_eq_true (h x (List.mem_of_getElem? hg))
theorem k225l {q : PS} {t : Nat} (h : RT T c q M) (h8 : ∀ k, k < c → T k < 256) (ht : t < 15) : ∀ (n k : Nat) (g : Int32), (mTx.getD t []).length - k < n → k ≤ (mTx.getD t []).length → ((g = nI 0 ∧ ¬ pWd T q t) ∨ (g = nI 1 ∧ q.2.2.1 = 1 ∧ q.2.1 - q.1 = (mTx.getD t []).length ∧ ∀ j, j < k → T (q.1 + j) = (mTx.getD t []).getD j 0)) → mEv X (QE M (fun v => v = bI (pWd T q t))) 225 32 [some (.ref 66), some (.ref (1000000 + t)), some (.int g), some (.int (nI k))] [] (con M) := by
  have hm : mMet 225 = some _ := rfl
  intro n
  induction n with
  | zero =>
    intro k g hkn hkb hg
    omega
  | succ n ih =>
    intro k g hkn hkb hg
    have hle := mTx_le t
    have h01 : g = nI 0 ∨ g = nI 1 := hg.imp (fun z => z.1) (fun z => z.1)
    obtain ⟨a1, a2, a3, a4, a5, a6, a7, b1, b2, b3, b4, b5, b6⟩ := id h
    refine x_iload_n hm rfl rfl ?_
    refine x_aload_n hm rfl rfl ?_
    refine x_libV hm rfl (len_call ht rfl) ?_
    dsimp only
    refine x_icmp_ge hm rfl (t := 75) rfl (fun h1 => ?_) (fun h1 => ?_)
    · have hkl : (mTx.getD t []).length ≤ k := (jI_le (by omega) (by omega)).mp h1
      refine x_iload_n hm rfl rfl ?_
      refine x_iret hm rfl rfl (nar01 h01) ?_
      first
        | exact ⟨_, rfl, rfl, by rcases hg with ⟨rfl, hg⟩ | ⟨rfl, hg1, hg2, hg3⟩; exact bI_f hg; exact bI_t ⟨hg1, hg2, fun j hj => hg3 j (by omega)⟩⟩
        | exact ⟨_, rfl, rfl, by rcases hg with ⟨rfl, hg⟩ | ⟨rfl, -⟩; exact bI_f hg; exact absurd hg0 (by decide)⟩ --stop
    · have hk : k < (mTx.getD t []).length := Nat.lt_of_not_le fun h => h1 (nI_le h (by omega))
      refine x_iload_n hm rfl rfl ?_
      refine x_if_eq hm rfl (t := 75) rfl (fun h2 => ?_) (fun h2 => ?_)
      · have hg0 := h2
        refine x_iload_n hm rfl rfl ?_
        refine x_iret hm rfl rfl (nar01 h01) ?_
        first
          | exact ⟨_, rfl, rfl, by rcases hg with ⟨rfl, hg⟩ | ⟨rfl, hg1, hg2, hg3⟩; exact bI_f hg; exact bI_t ⟨hg1, hg2, fun j hj => hg3 j (by omega)⟩⟩
          | exact ⟨_, rfl, rfl, by rcases hg with ⟨rfl, hg⟩ | ⟨rfl, -⟩; exact bI_f hg; exact absurd hg0 (by decide)⟩ --stop
      · obtain ⟨hg1, hs1, hlen, hch⟩ := hg.resolve_left (fun q => h2 (by rw [q.1]; rfl))
        have hkc : q.1 + k < c := by omega
        have hx1 := ch_lt (k := k) ht
        have hx2 := h8 _ hkc
        refine x_aload_n hm rfl rfl ?_
        refine x_getf hm rfl (gR rfl rfl) ?_
        refine x_aload_n hm rfl rfl ?_
        refine x_getf hm rfl (gI rfl rfl) ?_
        rw [a1]
        refine x_iload_n hm rfl rfl ?_
        refine x_iadd hm rfl ?_
        rw [jI_add]
        refine x_iald hm rfl (lI rfl (by omega) (by decide)) ?_
        rw [a7 _ hkc]
        refine x_aload_n hm rfl rfl ?_
        refine x_iload_n hm rfl rfl ?_
        refine x_libV hm rfl (chr_call ht rfl hk) ?_
        dsimp only
        refine x_icmp_ne hm rfl (t := 67) rfl (fun h3 => ?_) (fun h3 => ?_)
        · have hno : ¬ pWd T q t := fun z => h3 (by rw [z.2.2 k hk])
          refine x_iconst hm rfl (v := nI 0) (by decide) ?_
          refine x_istore_n hm rfl rfl ?_
          refine x_iinc hm rfl rfl (v := nI 1) (by decide) rfl ?_
          rw [jI_add]
          refine x_goto hm rfl (t := 32) rfl ?_
          exact ih _ _ (by omega) (by omega) (by first | exact Or.inl ⟨rfl, hno⟩ | exact Or.inr ⟨rfl, hs1, hlen, wd_c hch hyes⟩)
        · have hyes := jI_inj (by omega) (by omega) h3
          refine x_iconst hm rfl (v := nI 1) (by decide) ?_
          refine x_goto hm rfl (t := 68) rfl ?_
          refine x_istore_n hm rfl rfl ?_
          refine x_iinc hm rfl rfl (v := nI 1) (by decide) rfl ?_
          rw [jI_add]
          refine x_goto hm rfl (t := 32) rfl ?_
          exact ih _ _ (by omega) (by omega) (by first | exact Or.inl ⟨rfl, hno⟩ | exact Or.inr ⟨rfl, hs1, hlen, wd_c hch hyes⟩)
theorem k225 {q : PS} {t : Nat} (h : RT T c q M) (h8 : ∀ k, k < c → T k < 256) (ht : t < 15) : ∃ v, mT X 225 [.ref 66, .ref (1000000 + t)] (con M) (some (.int v)) (con M) ∧ v = bI (pWd T q t) := by
  refine te_of (row := _) rfl (Nat.le_of_ble_eq_true rfl) ?_
  have hm : mMet 225 = some _ := rfl
  have hle := mTx_le t
  obtain ⟨a1, a2, a3, a4, a5, a6, a7, b1, b2, b3, b4, b5, b6⟩ := id h
  refine x_aload_n hm rfl rfl ?_
  refine x_getf hm rfl (gI rfl rfl) ?_
  refine x_iconst hm rfl (v := nI 1) (by decide) ?_
  refine x_icmp_ne hm rfl (t := 28) rfl (fun h1 => ?_) (fun h1 => ?_)
  · have hno : ¬ pWd T q t := fun z => h1 (by rw [a3, z.1])
    refine x_iconst hm rfl (v := nI 0) (by decide) ?_
    refine x_istore_n hm rfl rfl ?_
    refine x_iconst hm rfl (v := nI 0) (by decide) ?_
    refine x_istore_n hm rfl rfl ?_
    first
      | exact k225l h h8 ht _ 0 _ (Nat.lt_succ_self _) (Nat.zero_le _) (Or.inl ⟨rfl, hno⟩)
      | exact k225l h h8 ht _ 0 _ (Nat.lt_succ_self _) (Nat.zero_le _) (Or.inr ⟨rfl, hs1, hlen, fun j hj => absurd hj (Nat.not_lt_zero j)⟩)
  · have hs1 : q.2.2.1 = 1 := jI_inj (by omega) (by decide) (a3.symm.trans h1)
    refine x_aload_n hm rfl rfl ?_
    refine x_getf hm rfl (gI rfl rfl) ?_
    rw [a2]
    refine x_aload_n hm rfl rfl ?_
    refine x_getf hm rfl (gI rfl rfl) ?_
    rw [a1]
    refine x_isub hm rfl ?_
    rw [subI b2]
    refine x_aload_n hm rfl rfl ?_
    refine x_libV hm rfl (len_call ht rfl) ?_
    dsimp only
    refine x_icmp_ne hm rfl (t := 28) rfl (fun h2 => ?_) (fun h2 => ?_)
    · have hno : ¬ pWd T q t := fun z => h2 (by rw [z.2.1])
      refine x_iconst hm rfl (v := nI 0) (by decide) ?_
      refine x_istore_n hm rfl rfl ?_
      refine x_iconst hm rfl (v := nI 0) (by decide) ?_
      refine x_istore_n hm rfl rfl ?_
      first
        | exact k225l h h8 ht _ 0 _ (Nat.lt_succ_self _) (Nat.zero_le _) (Or.inl ⟨rfl, hno⟩)
        | exact k225l h h8 ht _ 0 _ (Nat.lt_succ_self _) (Nat.zero_le _) (Or.inr ⟨rfl, hs1, hlen, fun j hj => absurd hj (Nat.not_lt_zero j)⟩)
    · have hlen := jI_inj (by omega) (by omega) h2
      refine x_iconst hm rfl (v := nI 1) (by decide) ?_
      refine x_goto hm rfl (t := 29) rfl ?_
      refine x_istore_n hm rfl rfl ?_
      refine x_iconst hm rfl (v := nI 0) (by decide) ?_
      refine x_istore_n hm rfl rfl ?_
      first
        | exact k225l h h8 ht _ 0 _ (Nat.lt_succ_self _) (Nat.zero_le _) (Or.inl ⟨rfl, hno⟩)
        | exact k225l h h8 ht _ 0 _ (Nat.lt_succ_self _) (Nat.zero_le _) (Or.inr ⟨rfl, hs1, hlen, fun j hj => absurd hj (Nat.not_lt_zero j)⟩)
theorem k224l {q : PS} (h : RT T c q M) (h8 : ∀ k, k < c → T k < 256) : ∀ (n k : Nat) (g : Int32), 7 - k < n → k ≤ 7 → g = pKd T q k → mEv X (QE M (fun v => v = pKd T q 7)) 224 4 [some (.ref 66), some (.int g), some (.int (nI k))] [] (con M) := by
  have hm : mMet 224 = some _ := rfl
  intro n
  induction n with
  | zero =>
    intro k g hkn hkb hg
    omega
  | succ n ih =>
    intro k g hkn hkb hg
    refine x_iload_n hm rfl rfl ?_
    refine x_aload_n hm rfl rfl ?_
    refine x_getf hm rfl (gR rfl rfl) ?_
    refine x_alen hm rfl (gLen _ rfl rfl) ?_
    refine x_icmp_ge hm rfl (t := 38) rfl (fun h1 => ?_) (fun h1 => ?_)
    · obtain rfl : k = 7 := Nat.le_antisymm hkb ((jI_le (by decide) (by omega)).mp h1)
      refine x_iload_n hm rfl rfl ?_
      refine x_iret hm rfl rfl (by first | rfl | exact bI_nar | decide) ?_
      exact ⟨_, rfl, rfl, hg⟩
    · have hk : k < 7 := Nat.lt_of_not_le fun h => h1 (nI_le h (by omega))
      refine x_aload_n hm rfl rfl ?_
      refine x_aload_n hm rfl rfl ?_
      refine x_getf hm rfl (gR rfl rfl) ?_
      refine x_iload_n hm rfl rfl ?_
      refine x_aald (v := .ref (1000000 + kt k)) hm rfl ?_ ?_
      · exact lQ 4 (Or.inr (Or.inr rfl)) rfl (knk hk) hk (by decide)
      refine x_cVe hm rfl rfl (k225 h h8 (kt_lt hk)) (fun v2 r2 => ?_)
      first
        | rw [r2]
        | rw [r8]
        | rw [r7]
        | rw [r6]
        | rw [r5]
        | rw [r4]
        | rw [r3]
        | rw [r1]
      refine x_if_eq hm rfl (t := 30) rfl (fun h3 => ?_) (fun h3 => ?_)
      · have hq : pKd T q (k + 1) = pKd T q k := if_neg (bI_eq0.mp h3)
        refine x_iload_n hm rfl rfl ?_
        refine x_istore_n hm rfl rfl ?_
        refine x_iinc hm rfl rfl (v := nI 1) (by decide) rfl ?_
        rw [jI_add]
        refine x_goto hm rfl (t := 4) rfl ?_
        first
          | exact ih _ _ (by omega) (by omega) (hg.trans hq.symm)
          | exact ih _ _ (by omega) (by omega) hq.symm
      · have hq : pKd T q (k + 1) = nI k := if_pos (bI_ne0 h3)
        refine x_iload_n hm rfl rfl ?_
        refine x_goto hm rfl (t := 31) rfl ?_
        refine x_istore_n hm rfl rfl ?_
        refine x_iinc hm rfl rfl (v := nI 1) (by decide) rfl ?_
        rw [jI_add]
        refine x_goto hm rfl (t := 4) rfl ?_
        first
          | exact ih _ _ (by omega) (by omega) (hg.trans hq.symm)
          | exact ih _ _ (by omega) (by omega) hq.symm
theorem k224 {q : PS} (h : RT T c q M) (h8 : ∀ k, k < c → T k < 256) : ∃ v, mT X 224 [.ref 66] (con M) (some (.int v)) (con M) ∧ v = pKd T q 7 := by
  refine te_of (row := _) rfl (Nat.le_of_ble_eq_true rfl) ?_
  have hm : mMet 224 = some _ := rfl
  refine x_iconst hm rfl (v := (-1 : Int32)) (by decide) ?_
  refine x_istore_n hm rfl rfl ?_
  refine x_iconst hm rfl (v := nI 0) (by decide) ?_
  refine x_istore_n hm rfl rfl ?_
  exact k224l h h8 _ 0 _ (Nat.lt_succ_self _) (Nat.zero_le _) rfl
theorem k227 {q : PS} {t : Nat} {w hi : Int32} (h : RT T c q M) (h8 : ∀ k, k < c → T k < 256) (ht : t < 15) : ∃ v M', mT X 227 [.ref 66, .ref (1000000 + t), .int w, .int (nI 0), .int hi] (con M) (some (.int v)) (con M') ∧ v = (pAf T c q t w hi).1 ∧ RT T c (pAf T c q t w hi).2 M' ∧ Ly M M' := by
  refine ti_of (row := _) rfl (Nat.le_of_ble_eq_true rfl) ?_
  have hm : mMet 227 = some _ := rfl
  refine x_aload_n hm rfl rfl ?_
  refine x_getf hm rfl (gI rfl rfl) ?_
  refine x_if_ne hm rfl (t := 15) rfl (fun h1 => ?_) (fun h1 => ?_)
  · have hq : pAf T c q t w hi = (w, q) := if_pos (Or.inl (h.fw h1))
    refine x_iload_n hm rfl rfl ?_
    refine x_iret hm rfl rfl (by first | rfl | exact bI_nar | decide) ?_
    first
      | exact ⟨_, _, rfl, rfl, by rw [hq], by rw [hq]; exact h, Ly.rf⟩
      | exact ⟨_, _, rfl, rfl, by rw [hq]; exact r3.1, by rw [hq]; exact r3.2.1, r2.2.trans r3.2.2⟩
      | exact ⟨_, _, rfl, rfl, by rw [hq]; exact r4.1, by rw [hq]; exact r4.2.1, r2.2.trans r4.2.2⟩
      | exact ⟨_, _, rfl, rfl, by rw [hq]; exact r4.1, by rw [hq]; exact r4.2.1, r3.2.trans r4.2.2⟩
      | exact ⟨_, _, rfl, rfl, by rw [hq]; exact r5.1, by rw [hq]; exact r5.2.1, r3.2.trans r5.2.2⟩
      | exact ⟨_, _, rfl, rfl, by rw [hq]; exact r5.1, by rw [hq]; exact r5.2.1, r4.2.trans r5.2.2⟩
      | exact ⟨_, _, rfl, rfl, by rw [hq]; exact r6.1, by rw [hq]; exact r6.2.1, r4.2.trans r6.2.2⟩
      | exact ⟨_, _, rfl, rfl, by rw [hq]; exact r6.1, by rw [hq]; exact r6.2.1, r5.2.trans r6.2.2⟩
      | exact ⟨_, _, rfl, rfl, by rw [hq]; exact r7.1, by rw [hq]; exact r7.2.1, r5.2.trans r7.2.2⟩
  · have hf := h.ff h1
    refine x_aload_n hm rfl rfl ?_
    refine x_aload_n hm rfl rfl ?_
    refine x_cVe hm rfl rfl (k225 h h8 ht) (fun v2 r2 => ?_)
    first
      | rw [r2]
      | rw [r8]
      | rw [r7]
      | rw [r6]
      | rw [r5]
      | rw [r4]
      | rw [r3]
      | rw [r1]
    refine x_if_ne hm rfl (t := 17) rfl (fun h3 => ?_) (fun h3 => ?_)
    · have hq : pAf T c q t w hi = (nI (pMu T c q (nI 1)).2.2.2.1, pNu T c (pMu T c q (nI 1)) hi) := if_neg (fun g => g.elim (fun g => absurd (hf.symm.trans g) (by decide)) (fun g => g (bI_ne0 h3)))
      refine x_aload_n hm rfl rfl ?_
      refine x_iconst hm rfl (v := nI 1) (by decide) ?_
      refine x_cVv hm rfl rfl (k226 h h8) (fun M4 r4 => ?_)
      refine x_aload_n hm rfl rfl ?_
      refine x_iload_n hm rfl rfl ?_
      refine x_iload hm rfl rfl ?_
      refine x_cVi hm rfl rfl (by first | exact k228 r2.1 h8 | exact k228 r3.1 h8 | exact k228 r4.1 h8 | exact k228 r5.1 h8) (fun v5 M5 r5 => ?_)
      refine x_iret hm rfl rfl (by first | rfl | exact bI_nar | decide) ?_
      first
        | exact ⟨_, _, rfl, rfl, by rw [hq]; exact r5.1, by rw [hq]; exact r5.2.1, r4.2.trans r5.2.2⟩
        | exact ⟨_, _, rfl, rfl, by rw [hq], by rw [hq]; exact h, Ly.rf⟩
        | exact ⟨_, _, rfl, rfl, by rw [hq]; exact r4.1, by rw [hq]; exact r4.2.1, r2.2.trans r4.2.2⟩
        | exact ⟨_, _, rfl, rfl, by rw [hq]; exact r3.1, by rw [hq]; exact r3.2.1, r2.2.trans r3.2.2⟩
        | exact ⟨_, _, rfl, rfl, by rw [hq]; exact r4.1, by rw [hq]; exact r4.2.1, r3.2.trans r4.2.2⟩
        | exact ⟨_, _, rfl, rfl, by rw [hq]; exact r5.1, by rw [hq]; exact r5.2.1, r3.2.trans r5.2.2⟩
        | exact ⟨_, _, rfl, rfl, by rw [hq]; exact r6.1, by rw [hq]; exact r6.2.1, r4.2.trans r6.2.2⟩
        | exact ⟨_, _, rfl, rfl, by rw [hq]; exact r6.1, by rw [hq]; exact r6.2.1, r5.2.trans r6.2.2⟩
        | exact ⟨_, _, rfl, rfl, by rw [hq]; exact r7.1, by rw [hq]; exact r7.2.1, r5.2.trans r7.2.2⟩
    · have hq : pAf T c q t w hi = (w, q) := if_pos (Or.inr (bI_eq0.mp (by first | exact h3 | exact Classical.byContradiction h3)))
      refine x_iload_n hm rfl rfl ?_
      refine x_iret hm rfl rfl (by first | rfl | exact bI_nar | decide) ?_
      first
        | exact ⟨_, _, rfl, rfl, by rw [hq], by rw [hq]; exact h, Ly.rf⟩
        | exact ⟨_, _, rfl, rfl, by rw [hq]; exact r3.1, by rw [hq]; exact r3.2.1, r2.2.trans r3.2.2⟩
        | exact ⟨_, _, rfl, rfl, by rw [hq]; exact r4.1, by rw [hq]; exact r4.2.1, r2.2.trans r4.2.2⟩
        | exact ⟨_, _, rfl, rfl, by rw [hq]; exact r4.1, by rw [hq]; exact r4.2.1, r3.2.trans r4.2.2⟩
        | exact ⟨_, _, rfl, rfl, by rw [hq]; exact r5.1, by rw [hq]; exact r5.2.1, r3.2.trans r5.2.2⟩
        | exact ⟨_, _, rfl, rfl, by rw [hq]; exact r5.1, by rw [hq]; exact r5.2.1, r4.2.trans r5.2.2⟩
        | exact ⟨_, _, rfl, rfl, by rw [hq]; exact r6.1, by rw [hq]; exact r6.2.1, r4.2.trans r6.2.2⟩
        | exact ⟨_, _, rfl, rfl, by rw [hq]; exact r6.1, by rw [hq]; exact r6.2.1, r5.2.trans r6.2.2⟩
        | exact ⟨_, _, rfl, rfl, by rw [hq]; exact r7.1, by rw [hq]; exact r7.2.1, r5.2.trans r7.2.2⟩
end RT
