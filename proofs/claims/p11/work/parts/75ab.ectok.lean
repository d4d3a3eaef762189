section CV
variable {X : mSc} {Q : Option Value → mHp → Prop} {M : mM} {T : Nat → Nat} {c : Nat}
theorem k92 {e0 : Nat} (he : M 52 4 = nI e0) (hc9 : M 52 1 = nI c) (hc1 : c ≤ 120) (hT : ∀ k, k < c → M 53 k = bt (T k)) (hB : ∀ k, k < c → T k < 256) (hec0 : e0 ≤ c) (h6 : M 52 6 = -1) : ∃ M', mT X 92 [.ref 52] (con M) none (con M') ∧ CT T c (pNx T c e0) M' ∧ Lc M M' := by
  refine tv_of (row := _) rfl (Nat.le_of_ble_eq_true rfl) ?_
  have hm : mMet 92 = some _ := rfl
  refine x_aload_n hm rfl rfl ?_
  refine x_aload_n hm rfl rfl ?_
  refine x_getf hm rfl (gI rfl rfl) ?_
  rw [he]
  refine x_putf hm rfl (pI rfl rfl (by decide) (by first | exact mFit_int | rfl | decide) rfl) ?_
  exact k92s hc9 hc1 hT hB hec0 _ e0 _ (Nat.lt_succ_self _) (Nat.le_refl _) hec0 rfl mp0 (by rw [mpf (by decide)]; exact h6) (Lc.put (by decide) (by decide))
theorem CT.f6 {q : PS} {v : Int32} (h : CT T c q M) (hv : v = nI q.1) : CT T c (q.1, q.2.1, q.2.2.1, q.2.2.2.1, true) (mput M 52 6 v) := by
  obtain ⟨h1, h2, h3, h4, h5, h6, h7, hB⟩ := h
  exact ⟨(mpf (by decide)).trans h1, (mpf (by decide)).trans h2, (mpf (by decide)).trans h3, fun z => (mpf (by decide)).trans (h4 z), mp0.trans hv, (mpf (by decide)).trans h6, fun k hk => (congrFun (mpo (by decide)) k).trans (h7 k hk), hB⟩
theorem CT.fw {q : PS} (h : CT T c q M) (g : ¬ M 52 6 = -1) : q.2.2.2.2 = true := by
  have e := h.2.2.2.2.1
  cases hq : q.2.2.2.2 with
  | true => rfl
  | false => rw [hq] at e; exact absurd e g
theorem CT.ff {q : PS} (h : CT T c q M) (g : M 52 6 = -1) : q.2.2.2.2 = false := by
  have e := h.2.2.2.2.1
  obtain ⟨b1, b2, b3, -⟩ := h.2.2.2.2.2.2.2
  cases hq : q.2.2.2.2 with
  | false => rfl
  | true => rw [hq, g] at e; exact absurd e.symm (nI_nm1 (by omega))
/-- advance, where nothing is wrong -/
theorem k92a {q : PS} (h : CT T c q M) (hB : ∀ k, k < c → T k < 256) (g : q.2.2.2.2 = false) : ∃ M', mT X 92 [.ref 52] (con M) none (con M') ∧ CT T c (pMu T c q (nI 1)) M' ∧ Lc M M' := by
  rw [pMu_g g]
  obtain ⟨h1, h2, h3, h4, h5, h6, h7, b1, b2, b3, b4, b5, b6⟩ := h
  exact k92 h2 h6 b1 h7 hB b3 (by rw [h5, g]; rfl)
theorem k112 {q : PS} (h : CT T c q M) : ∃ M', mT X 112 [.ref 52] (con M) none (con M') ∧ CT T c (pMu T c q (nI 0)) M' ∧ Lc M M' := by
  refine tv_of (row := _) rfl (Nat.le_of_ble_eq_true rfl) ?_
  have hm : mMet 112 = some _ := rfl
  refine x_aload_n hm rfl rfl ?_
  refine x_getf hm rfl (gI rfl rfl) ?_
  refine x_iconst hm rfl (v := (-1 : Int32)) (by decide) ?_
  refine x_icmp_ne hm rfl (t := 16) rfl (fun h1 => ?_) (fun h1 => ?_)
  · have hq : pMu T c q (nI 0) = q := pMu_w (h.fw h1)
    refine x_ret hm rfl rfl ?_
    first
      | exact ⟨_, rfl, rfl, by rw [hq]; exact h.f6 rfl, Lc.put (by decide) (by decide)⟩
      | exact ⟨_, rfl, rfl, by rw [hq]; exact h, Lc.rf⟩
  · have hq : pMu T c q (nI 0) = (q.1, q.2.1, q.2.2.1, q.2.2.2.1, true) := if_pos (Or.inr rfl)
    refine x_aload_n hm rfl rfl ?_
    refine x_aload_n hm rfl rfl ?_
    refine x_getf hm rfl (gI rfl rfl) ?_
    rw [h.1]
    refine x_putf hm rfl (pI rfl rfl (by decide) (by first | exact mFit_int | rfl | decide) rfl) ?_
    refine x_ret hm rfl rfl ?_
    first
      | exact ⟨_, rfl, rfl, by rw [hq]; exact h.f6 rfl, Lc.put (by decide) (by decide)⟩
      | exact ⟨_, rfl, rfl, by rw [hq]; exact h, Lc.rf⟩
theorem k111f {q : PS} {hi : Int32} {x2 : Option Value} {M1 : mM} (hk : CT T c (pMu T c q (nI 0)) M1) (hL : Lc M M1) (hq : pNu T c q hi = pMu T c q (nI 0)) : mEv X (QI (fun v M' => CT T c (pNu T c q hi) M' ∧ Lc M M' ∧ ((pNu T c q hi).2.2.2.2 = false → v = nI q.2.2.2.1))) 111 20 [some (.ref 52), some (.int hi), x2] [] (con M1) := by
  have hm : mMet 111 = some _ := rfl
  have hw : (pMu T c q (nI 0)).2.2.2.2 = true := by
    rw [show pMu T c q (nI 0) = (q.1, q.2.1, q.2.2.1, q.2.2.2.1, true) from if_pos (Or.inr rfl)]
  refine x_aload_n hm rfl rfl ?_
  refine x_getf hm rfl (gI rfl rfl) ?_
  refine x_iconst hm rfl (v := (-1 : Int32)) (by decide) ?_
  refine x_icmp_eq hm rfl (t := 30) rfl (fun h1 => ?_) (fun h1 => ?_)
  · exact absurd (hw.symm.trans (hk.ff h1)) (by decide) --stop
  · refine x_iconst hm rfl (v := nI 0) (by decide) ?_
    refine x_iret hm rfl rfl (by first | rfl | exact bI_nar | decide) ?_
    exact ⟨_, _, rfl, rfl, by rw [hq]; exact hk, hL, fun z => absurd ((hw.symm.trans ((congrArg (fun a : PS => a.2.2.2.2) hq).symm.trans z)) : true = false) (by decide)⟩
theorem k111g {q : PS} {hi : Int32} {x2 : Option Value} (h : CT T c q M) (hB : ∀ k, k < c → T k < 256) (h2 : q.2.2.1 = 2) (hle : nI q.2.2.2.1 ≤ hi) : mEv X (QI (fun v M' => CT T c (pNu T c q hi) M' ∧ Lc M M' ∧ ((pNu T c q hi).2.2.2.2 = false → v = nI q.2.2.2.1))) 111 20 [some (.ref 52), some (.int hi), x2] [] (con M) := by
  have hm : mMet 111 = some _ := rfl
  have hq : pNu T c q hi = pMu T c q (nI 1) := congrArg (pMu T c q) (if_pos ⟨h2, hle⟩)
  refine x_aload_n hm rfl rfl ?_
  refine x_getf hm rfl (gI rfl rfl) ?_
  refine x_iconst hm rfl (v := (-1 : Int32)) (by decide) ?_
  refine x_icmp_eq hm rfl (t := 30) rfl (fun h1 => ?_) (fun h1 => ?_)
  · have hf := h.ff h1
    refine x_aload_n hm rfl rfl ?_
    refine x_getf hm rfl (gI rfl rfl) ?_
    rw [h.2.2.2.1 h2]
    refine x_istore_n hm rfl rfl ?_
    refine x_aload_n hm rfl rfl ?_
    refine x_cVv hm rfl rfl (k92a h hB hf) (fun M2 r2 => ?_)
    refine x_iload_n hm rfl rfl ?_
    refine x_iret hm rfl rfl (by first | rfl | exact bI_nar | decide) ?_
    first
      | exact ⟨_, _, rfl, rfl, by rw [hq]; exact r2.1, r2.2, fun _ => rfl⟩
      | exact ⟨_, _, rfl, rfl, by rw [pNu_w hw]; exact h, Lc.rf, fun z => absurd ((hw.symm.trans ((congrArg (fun a : PS => a.2.2.2.2) (pNu_w (T := T) (c := c) (hi := hi) hw)).symm.trans z)) : true = false) (by decide)⟩
  · have hw := h.fw h1
    refine x_iconst hm rfl (v := nI 0) (by decide) ?_
    refine x_iret hm rfl rfl (by first | rfl | exact bI_nar | decide) ?_
    first
      | exact ⟨_, _, rfl, rfl, by rw [pNu_w hw]; exact h, Lc.rf, fun z => absurd ((hw.symm.trans ((congrArg (fun a : PS => a.2.2.2.2) (pNu_w (T := T) (c := c) (hi := hi) hw)).symm.trans z)) : true = false) (by decide)⟩
      | exact ⟨_, _, rfl, rfl, by rw [hq]; exact r0.1, r0.2, fun _ => rfl⟩
theorem k111 {q : PS} {hi : Int32} (h : CT T c q M) (hB : ∀ k, k < c → T k < 256) : ∃ v M', mT X 111 [.ref 52, .int hi] (con M) (some (.int v)) (con M') ∧ CT T c (pNu T c q hi) M' ∧ Lc M M' ∧ ((pNu T c q hi).2.2.2.2 = false → v = nI q.2.2.2.1) := by
  refine ti_of (row := _) rfl (Nat.le_of_ble_eq_true rfl) ?_
  have hm : mMet 111 = some _ := rfl
  have hs3 := h.2.2.2.2.2.2.2.2.2.2.2.1
  refine x_aload_n hm rfl rfl ?_
  refine x_getf hm rfl (gI rfl rfl) ?_
  refine x_iconst hm rfl (v := nI 2) (by decide) ?_
  refine x_icmp_ne hm rfl (t := 16) rfl (fun h1 => ?_) (fun h1 => ?_)
  · have hq : pNu T c q hi = pMu T c q (nI 0) := congrArg (pMu T c q) (if_neg fun z => h1 (h.2.2.1.trans ((tkc_e hs3 (by decide)).mpr z.1)))
    refine x_aload_n hm rfl rfl ?_
    refine x_cVv hm rfl rfl (k112 h) (fun M2 r2 => ?_)
    first
      | exact k111g h hB h2 hle
      | exact k111f r1.1 r1.2 hq
      | exact k111f r2.1 r2.2 hq
      | exact k111f r3.1 r3.2 hq
      | exact k111f r4.1 r4.2 hq
      | exact k111f r5.1 r5.2 hq
      | exact k111f r6.1 r6.2 hq
      | exact k111f r7.1 r7.2 hq
      | exact k111f r8.1 r8.2 hq
  · have h2 := (tkc_e hs3 (by decide)).mp (h.2.2.1.symm.trans h1)
    refine x_aload_n hm rfl rfl ?_
    refine x_getf hm rfl (gI rfl rfl) ?_
    rw [h.2.2.2.1 h2]
    refine x_iload_n hm rfl rfl ?_
    refine x_icmp_le hm rfl (t := 20) rfl (fun h3 => ?_) (fun h3 => ?_)
    · have hle := h3
      first
        | exact k111g h hB h2 hle
        | exact k111f r1.1 r1.2 hq
        | exact k111f r2.1 r2.2 hq
        | exact k111f r3.1 r3.2 hq
        | exact k111f r4.1 r4.2 hq
        | exact k111f r5.1 r5.2 hq
        | exact k111f r6.1 r6.2 hq
        | exact k111f r7.1 r7.2 hq
        | exact k111f r8.1 r8.2 hq
    · have hq : pNu T c q hi = pMu T c q (nI 0) := congrArg (pMu T c q) (if_neg fun z => h3 z.2)
      refine x_aload_n hm rfl rfl ?_
      refine x_cVv hm rfl rfl (k112 h) (fun M4 r4 => ?_)
      first
        | exact k111g h hB h2 hle
        | exact k111f r1.1 r1.2 hq
        | exact k111f r2.1 r2.2 hq
        | exact k111f r3.1 r3.2 hq
        | exact k111f r4.1 r4.2 hq
        | exact k111f r5.1 r5.2 hq
        | exact k111f r6.1 r6.2 hq
        | exact k111f r7.1 r7.2 hq
        | exact k111f r8.1 r8.2 hq
theorem ch_lt2 {t k : Nat} (ht : t < 15) : (mTx.getD t []).getD k 0 < 128 := by
  have e : ∀ t, t < 15 → (mTx.getD t []).all (fun x => decide (x < 128)) = true := by decide +kernel
  have h := List.all_eq_true.mp (e t ht)
  rw [List.getD_eq_getElem?_getD]
  cases hg : (mTx.getD t [])[k]? with
  | none => exact (by decide : (0 : Nat) < 128)
  | some x => exact of_decide_eq_true (h x (List.mem_of_getElem? hg))
theorem k97l {q : PS} {t : Nat} (h : CT T c q M) (hB : ∀ k, k < c → T k < 256) (ht : t < 15) (hs1 : q.2.2.1 = 1) (hlen : q.2.1 - q.1 = (mTx.getD t []).length) : ∀ (n k : Nat), (mTx.getD t []).length - k < n → k ≤ (mTx.getD t []).length → (∀ j, j < k → T (q.1 + j) = (mTx.getD t []).getD j 0) → mEv X (QE M (fun v => v = bI (pWd T q t))) 97 28 [some (.ref 52), some (.ref (1000000 + t)), some (.int (nI k))] [] (con M) := by
  have hm : mMet 97 = some _ := rfl
  intro n
  induction n with
  | zero =>
    intro k hkn hkb hch
    omega
  | succ n ih =>
    intro k hkn hkb hch
    have hle := mTx_le t
    obtain ⟨a1, a2, a3, a4, a5, a6, a7, b1, b2, b3, b4, b5, b6⟩ := id h
    refine x_iload_n hm rfl rfl ?_
    refine x_aload_n hm rfl rfl ?_
    refine x_libV hm rfl (len_call ht rfl) ?_
    dsimp only
    refine x_icmp_ge hm rfl (t := 63) rfl (fun h1 => ?_) (fun h1 => ?_)
    · have hkl : (mTx.getD t []).length ≤ k := (jI_le (by omega) (by omega)).mp h1
      have hv : nI 1 = bI (pWd T q t) := bI_t ⟨hs1, hlen, fun j hj => hch j (by omega)⟩
      refine x_iconst hm rfl (v := nI 1) (by decide) ?_
      refine x_iret hm rfl rfl (by first | rfl | exact bI_nar | decide) ?_
      exact ⟨_, rfl, rfl, hv⟩
    · have hk : k < (mTx.getD t []).length := Nat.lt_of_not_le fun h => h1 (nI_le h (by omega))
      have hkc : q.1 + k < c := by omega
      have hx1 := ch_lt2 (k := k) ht
      have hx2 := hB _ hkc
      refine x_aload_n hm rfl rfl ?_
      refine x_getf hm rfl (gR rfl rfl) ?_
      refine x_aload_n hm rfl rfl ?_
      refine x_getf hm rfl (gI rfl rfl) ?_
      rw [a1]
      refine x_iload_n hm rfl rfl ?_
      refine x_iadd hm rfl ?_
      rw [jI_add]
      refine x_bald hm rfl (lB rfl (by omega) (by decide)) ?_
      rw [a7 _ hkc]
      refine x_aload_n hm rfl rfl ?_
      refine x_iload_n hm rfl rfl ?_
      refine x_libV hm rfl (chr_call ht rfl hk) ?_
      dsimp only
      refine x_icmp_eq hm rfl (t := 57) rfl (fun h2 => ?_) (fun h2 => ?_)
      · have hyes := (bt_eq hx2 hx1).mp h2
        refine x_iinc hm rfl rfl (v := nI 1) (by decide) rfl ?_
        rw [jI_add]
        refine x_goto hm rfl (t := 28) rfl ?_
        exact ih _ (by omega) (by omega) (wd_c hch hyes)
      · have hv : nI 0 = bI (pWd T q t) := bI_f fun z => h2 ((bt_eq hx2 hx1).mpr (z.2.2 k hk))
        refine x_iconst hm rfl (v := nI 0) (by decide) ?_
        refine x_iret hm rfl rfl (by first | rfl | exact bI_nar | decide) ?_
        exact ⟨_, rfl, rfl, hv⟩
theorem k97 {q : PS} {t : Nat} (h : CT T c q M) (hB : ∀ k, k < c → T k < 256) (ht : t < 15) : ∃ v, mT X 97 [.ref 52, .ref (1000000 + t)] (con M) (some (.int v)) (con M) ∧ v = bI (pWd T q t) := by
  refine te_of (row := _) rfl (Nat.le_of_ble_eq_true rfl) ?_
  have hm : mMet 97 = some _ := rfl
  have hle := mTx_le t
  obtain ⟨a1, a2, a3, a4, a5, a6, a7, b1, b2, b3, b4, b5, b6⟩ := id h
  refine x_aload_n hm rfl rfl ?_
  refine x_getf hm rfl (gI rfl rfl) ?_
  refine x_iconst hm rfl (v := nI 1) (by decide) ?_
  refine x_icmp_ne hm rfl (t := 24) rfl (fun h1 => ?_) (fun h1 => ?_)
  · have hv : nI 0 = bI (pWd T q t) := bI_f fun z => h1 (a3.trans ((tkc_e b5 (by decide)).mpr z.1))
    refine x_iconst hm rfl (v := nI 0) (by decide) ?_
    refine x_iret hm rfl rfl (by first | rfl | exact bI_nar | decide) ?_
    exact ⟨_, rfl, rfl, hv⟩
  · have hs1 := (tkc_e b5 (by decide)).mp (a3.symm.trans h1)
    refine x_aload_n hm rfl rfl ?_
    refine x_getf hm rfl (gI rfl rfl) ?_
    rw [a2]
    refine x_aload_n hm rfl rfl ?_
    refine x_getf hm rfl (gI rfl rfl) ?_
    rw [a1]
    refine x_isub hm rfl ?_
    rw [subI b2]
    refine x_aload_n hm rfl rfl ?_
    refine x_libV hm rfl (len_call ht rfl) ?_
    dsimp only
    refine x_icmp_eq hm rfl (t := 26) rfl (fun h2 => ?_) (fun h2 => ?_)
    · have hlen := jI_inj (by omega) (by omega) h2
      refine x_iconst hm rfl (v := nI 0) (by decide) ?_
      refine x_istore_n hm rfl rfl ?_
      exact k97l h hB ht hs1 hlen _ 0 (Nat.lt_succ_self _) (Nat.zero_le _) (fun j hj => absurd hj (Nat.not_lt_zero j))
    · have hv : nI 0 = bI (pWd T q t) := bI_f fun z => h2 (by rw [z.2.1])
      refine x_iconst hm rfl (v := nI 0) (by decide) ?_
      refine x_iret hm rfl rfl (by first | rfl | exact bI_nar | decide) ?_
      exact ⟨_, rfl, rfl, hv⟩
theorem gd_e {A B : List Nat} {i : Nat} (h1 : i < A.length) (h2 : i < B.length) (e : A.getD i 0 = B.getD i 0) : A[i] = B[i] := by
  rw [List.getD_eq_getElem?_getD, List.getD_eq_getElem?_getD, List.getElem?_eq_getElem h1, List.getElem?_eq_getElem h2] at e
  exact e
theorem wd_u {q : PS} {t u : Nat} (h : pWd T q t) (g : pWd T q u) : mTx.getD t [] = mTx.getD u [] := by
  refine List.ext_getElem (h.2.1.symm.trans g.2.1) fun i h1 h2 => ?_
  have e := (h.2.2 i h1).symm.trans (g.2.2 i h2)
  exact gd_e h1 h2 e
theorem kt_u : ∀ j, j < 7 → ∀ k, k < 7 → mTx.getD (kt j) [] = mTx.getD (kt k) [] → j = k := by decide +kernel
theorem kt_t : ∀ j, j < 7 → ¬ mTx.getD (kt j) [] = mTx.getD 0 [] := by decide +kernel
theorem pKd_no {q : PS} : ∀ k, (∀ j, j < k → ¬ pWd T q (kt j)) → pKd T q k = -1 := by
  intro k
  induction k with
  | zero => intro _; rfl
  | succ k ih =>
    intro h
    rw [show pKd T q (k + 1) = pKd T q k from if_neg (h k (Nat.lt_succ_self _))]
    exact ih fun j hj => h j (by omega)
theorem pKd_yes {q : PS} {j : Nat} (h : pWd T q (kt j)) : ∀ k, j < k → k ≤ 7 → pKd T q k = nI j := by
  intro k
  induction k with
  | zero => intro h _; omega
  | succ k ih =>
    intro hj hk
    by_cases g : pWd T q (kt k)
    · rw [show pKd T q (k + 1) = nI k from if_pos g, kt_u j (by omega) k (by omega) (wd_u h g)]
    · rw [show pKd T q (k + 1) = pKd T q k from if_neg g]
      refine ih (Nat.lt_of_le_of_ne (by omega) fun e => g (by rw [← e]; exact h)) (by omega)
theorem k95l {q : PS} (h : CT T c q M) (hB : ∀ k, k < c → T k < 256) : ∀ (n k : Nat), 7 - k < n → k ≤ 7 → (∀ j, j < k → ¬ pWd T q (kt j)) → mEv X (QE M (fun v => v = pKd T q 7)) 95 2 [some (.ref 52), some (.int (nI k))] [] (con M) := by
  have hm : mMet 95 = some _ := rfl
  intro n
  induction n with
  | zero =>
    intro k hkn hkb hno
    omega
  | succ n ih =>
    intro k hkn hkb hno
    refine x_iload_n hm rfl rfl ?_
    refine x_bipush hm rfl (v := nI 7) (by decide) ?_
    refine x_icmp_ge hm rfl (t := 27) rfl (fun h1 => ?_) (fun h1 => ?_)
    · obtain rfl : k = 7 := Nat.le_antisymm hkb ((jI_le (by decide) (by omega)).mp h1)
      have hv : -1 = pKd T q 7 := (pKd_no 7 hno).symm
      refine x_iconst hm rfl (v := (-1 : Int32)) (by decide) ?_
      refine x_iret hm rfl rfl (by first | rfl | exact bI_nar | decide) ?_
      exact ⟨_, rfl, rfl, hv⟩
    · have hk : k < 7 := Nat.lt_of_not_le fun h => h1 (nI_le h (by omega))
      refine x_aload_n hm rfl rfl ?_
      refine x_iload_n hm rfl rfl ?_
      refine x_callS hm rfl rfl (t96 hk) ?_
      refine x_cVe hm rfl rfl (k97 h hB (kt_lt hk)) (fun v2 r2 => ?_)
      subst r2
      refine x_if_eq hm rfl (t := 21) rfl (fun h3 => ?_) (fun h3 => ?_)
      · have hn := bI_eq0.mp h3
        refine x_iinc hm rfl rfl (v := nI 1) (by decide) rfl ?_
        rw [jI_add]
        refine x_goto hm rfl (t := 2) rfl ?_
        refine ih _ (by omega) (by omega) fun j hj => ?_
        by_cases e : j = k
        · subst e; exact hn
        · exact hno j (by omega)
      · have hv : nI k = pKd T q 7 := (pKd_yes (bI_ne0 h3) 7 hk (Nat.le_refl _)).symm
        refine x_iload_n hm rfl rfl ?_
        refine x_iret hm rfl rfl (by first | rfl | exact bI_nar | decide) ?_
        exact ⟨_, rfl, rfl, hv⟩
end CV
