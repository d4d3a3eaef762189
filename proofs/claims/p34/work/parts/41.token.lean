/-! ===== the reference: the tape read token by token ===== -/
section RM
variable {X : mSc} {Q : Option Value → mHp → Prop} {M : mM}
/-- only the reader's four numbers changed -/
def Lx (M M' : mM) : Prop := ∀ a x, (a ≠ 66 ∨ x < 10 ∨ 13 < x) → M' a x = M a x
theorem Lx.rf : Lx M M := fun _ _ _ => rfl
theorem Lx.trans {M1 M2 : mM} (h : Lx M M1) (g : Lx M1 M2) : Lx M M2 := fun a x hx => (g a x hx).trans (h a x hx)
theorem Lx.put {x : Nat} {v : Int32} (h1 : 10 ≤ x) (h2 : x ≤ 13) : Lx M (mput M 66 x v) := fun a y h => by
  unfold mput
  rw [if_neg]
  rintro ⟨e1, e2⟩
  omega
def by8 (M : mM) (c k : Nat) : Int32 := if k < c then M 73 k else -1
theorem by8_lt {c k : Nat} {lo : Nat} (h : nI lo ≤ by8 M c k) (hl : lo ≤ 1000) : k < c := by
  unfold by8 at h
  by_cases hk : k < c
  · exact hk
  · rw [if_neg hk, Int32.le_iff_toInt_le, jI_int (by omega)] at h
    have e : (-1 : Int32).toInt = -1 := by decide +kernel
    omega
theorem mpf {a b j : Nat} {v : Int32} (h : j ≠ b) : mput M a b v a j = M a j := by
  unfold mput
  rw [if_neg fun e => h e.2]
theorem t222 {c k : Nat} (hc : M 66 9 = nI c) (hc1 : c ≤ 120) (hk : k < 1000) : mT X 222 [.ref 66, .int (nI k)] (con M) (some (.int (by8 M c k))) (con M) := by
  refine mT.of (row := _) rfl (Nat.le_of_ble_eq_true rfl) ?_
  have hm : mMet 222 = some _ := rfl
  refine x_iload_n hm rfl rfl ?_
  refine x_aload_n hm rfl rfl ?_
  refine x_getf hm rfl (gI rfl rfl) ?_
  rw [hc]
  refine x_icmp_ge hm rfl (t := 17) rfl (fun h1 => ?_) (fun h1 => ?_)
  · refine x_iconst hm rfl (v := (-1 : Int32)) (by decide) ?_
    refine x_iret hm rfl rfl (by first | rfl | exact bI_nar | decide) ?_
    exact qt (congrArg Value.int (by unfold by8; first | rw [if_pos hlt] | rw [if_neg (fun q => nI_ge q (by omega) h1)]))
  · have hlt : k < c := Nat.lt_of_not_le fun h => h1 (nI_le h (by omega))
    refine x_aload_n hm rfl rfl ?_
    refine x_getf hm rfl (gR rfl rfl) ?_
    refine x_iload_n hm rfl rfl ?_
    refine x_iald hm rfl (lI rfl (by omega) (by decide)) ?_
    refine x_goto hm rfl (t := 18) rfl ?_
    refine x_iret hm rfl rfl (by first | rfl | exact bI_nar | decide) ?_
    exact qt (congrArg Value.int (by unfold by8; first | rw [if_pos hlt] | rw [if_neg (fun q => nI_ge q (by omega) h1)]))
theorem l221w {c e0 : Nat} (hc9 : M 66 9 = nI c) (hc1 : c ≤ 120) {b : Nat} {v : Int32} (he0 : e0 ≤ b) : ∀ (n e : Nat) (M1 : mM), c - e < n → b ≤ e → e ≤ c → M1 66 10 = nI b → M1 66 11 = nI e → M1 66 12 = nI 1 → Lx M M1 → (b < e ∨ (e = b ∧ nI 97 ≤ by8 M c b ∧ by8 M c b ≤ nI 122)) → mEv X (QV (fun M' => ∃ b e, M' 66 10 = nI b ∧ M' 66 11 = nI e ∧ e0 ≤ b ∧ b ≤ e ∧ e ≤ c ∧ (¬ M' 66 12 = 0 → b < e) ∧ Lx M M')) 221 84 [some (.ref 66), some (.int v)] [] (con M1) := by
  have hm : mMet 221 = some _ := rfl
  intro n
  induction n with
  | zero =>
    intro e M1 hen hbe hec h10 h11 h12 hL hne
    omega
  | succ n ih =>
    intro e M1 hen hbe hec h10 h11 h12 hL hne
    have h9 : M1 66 9 = nI c := (hL 66 9 (by omega)).trans hc9
    have e8 : ∀ k, by8 M1 c k = by8 M c k := fun k => by
      unfold by8
      rw [hL 73 k (by omega)]
    refine x_aload_n hm rfl rfl ?_
    refine x_aload_n hm rfl rfl ?_
    refine x_getf hm rfl (gI rfl rfl) ?_
    rw [h11]
    refine x_callV hm rfl rfl (t222 h9 hc1 (by omega)) ?_
    refine x_bipush hm rfl (v := nI 97) (by decide) ?_
    refine x_bipush hm rfl (v := nI 122) (by decide) ?_
    refine x_callS hm rfl rfl (t133) ?_
    refine x_if_eq hm rfl (t := 206) rfl (fun h1 => ?_) (fun h1 => ?_)
    · refine x_ret hm rfl rfl ?_
      exact ⟨_, rfl, rfl, b, e, h10, h11, he0, hbe, hec, fun _ => hne.resolve_right (fun ⟨q1, q2⟩ => by subst q1; exact bI_eq0.mp h1 (by rw [e8]; exact q2)), hL⟩
    · have hlt : e < c := by8_lt (bI_ne0 h1).1 (by decide)
      refine x_aload_n hm rfl rfl ?_
      refine x_dup hm rfl rfl ?_
      refine x_getf hm rfl (gI rfl rfl) ?_
      rw [h11]
      refine x_iconst hm rfl (v := nI 1) (by decide) ?_
      refine x_iadd hm rfl ?_
      rw [jI_add]
      refine x_putf hm rfl (pI rfl rfl (by decide) (by first | exact mFit_int | rfl | decide) rfl) ?_
      refine x_goto hm rfl (t := 84) rfl ?_
      exact ih (e + 1) _ (by omega) (by omega) (by omega) (by rw [mpf (by decide)]; exact h10) mp0 (by rw [mpf (by decide)]; exact h12) (hL.trans (Lx.put (by decide) (by decide))) (Or.inl (by omega))
theorem l221n {c e0 : Nat} (hc9 : M 66 9 = nI c) (hc1 : c ≤ 120) {b : Nat} {v : Int32} (he0 : e0 ≤ b) : ∀ (n e : Nat) (M1 : mM), c - e < n → b ≤ e → e ≤ c → M1 66 10 = nI b → M1 66 11 = nI e → M1 66 12 = nI 2 → Lx M M1 → (b < e ∨ (e = b ∧ nI 48 ≤ by8 M c b ∧ by8 M c b ≤ nI 57)) → mEv X (QV (fun M' => ∃ b e, M' 66 10 = nI b ∧ M' 66 11 = nI e ∧ e0 ≤ b ∧ b ≤ e ∧ e ≤ c ∧ (¬ M' 66 12 = 0 → b < e) ∧ Lx M M')) 221 131 [some (.ref 66), some (.int v)] [] (con M1) := by
  have hm : mMet 221 = some _ := rfl
  intro n
  induction n with
  | zero =>
    intro e M1 hen hbe hec h10 h11 h12 hL hne
    omega
  | succ n ih =>
    intro e M1 hen hbe hec h10 h11 h12 hL hne
    have h9 : M1 66 9 = nI c := (hL 66 9 (by omega)).trans hc9
    have e8 : ∀ k, by8 M1 c k = by8 M c k := fun k => by
      unfold by8
      rw [hL 73 k (by omega)]
    refine x_aload_n hm rfl rfl ?_
    refine x_aload_n hm rfl rfl ?_
    refine x_getf hm rfl (gI rfl rfl) ?_
    rw [h11]
    refine x_callV hm rfl rfl (t222 h9 hc1 (by omega)) ?_
    refine x_bipush hm rfl (v := nI 48) (by decide) ?_
    refine x_bipush hm rfl (v := nI 57) (by decide) ?_
    refine x_callS hm rfl rfl (t133) ?_
    refine x_if_eq hm rfl (t := 206) rfl (fun h1 => ?_) (fun h1 => ?_)
    · refine x_ret hm rfl rfl ?_
      exact ⟨_, rfl, rfl, b, e, h10, h11, he0, hbe, hec, fun _ => hne.resolve_right (fun ⟨q1, q2⟩ => by subst q1; exact bI_eq0.mp h1 (by rw [e8]; exact q2)), hL⟩
    · have hlt : e < c := by8_lt (bI_ne0 h1).1 (by decide)
      refine x_aload_n hm rfl rfl ?_
      refine x_sipush hm rfl (v := nI 1000) (by decide) ?_
      refine x_bipush hm rfl (v := nI 10) (by decide) ?_
      refine x_aload_n hm rfl rfl ?_
      refine x_getf hm rfl (gI rfl rfl) ?_
      refine x_imul hm rfl ?_
      refine x_aload_n hm rfl rfl ?_
      refine x_aload_n hm rfl rfl ?_
      refine x_getf hm rfl (gI rfl rfl) ?_
      rw [h11]
      refine x_callV hm rfl rfl (t222 h9 hc1 (by omega)) ?_
      refine x_iadd hm rfl ?_
      refine x_bipush hm rfl (v := nI 48) (by decide) ?_
      refine x_isub hm rfl ?_
      refine x_lib hm rfl rfl ?_
      dsimp only
      refine x_putf hm rfl (pI rfl rfl (by decide) (by first | exact mFit_int | rfl | decide) rfl) ?_
      refine x_aload_n hm rfl rfl ?_
      refine x_dup hm rfl rfl ?_
      refine x_getf hm rfl (gI rfl rfl) ?_
      rw [mpf (by decide), h11]
      refine x_iconst hm rfl (v := nI 1) (by decide) ?_
      refine x_iadd hm rfl ?_
      rw [jI_add]
      refine x_putf hm rfl (pI rfl rfl (by decide) (by first | exact mFit_int | rfl | decide) rfl) ?_
      refine x_goto hm rfl (t := 131) rfl ?_
      exact ih (e + 1) _ (by omega) (by omega) (by omega) (by rw [mpf (by decide), mpf (by decide)]; exact h10) mp0 (by rw [mpf (by decide), mpf (by decide)]; exact h12) ((hL.trans (Lx.put (by decide) (by decide))).trans (Lx.put (by decide) (by decide))) (Or.inl (by omega))
theorem l221s {c e0 : Nat} (hc9 : M 66 9 = nI c) (hc1 : c ≤ 120) : ∀ (n b : Nat) (x1 : Option Value) (M1 : mM), c - b < n → e0 ≤ b → b ≤ c → M1 66 10 = nI b → Lx M M1 → mEv X (QV (fun M' => ∃ b e, M' 66 10 = nI b ∧ M' 66 11 = nI e ∧ e0 ≤ b ∧ b ≤ e ∧ e ≤ c ∧ (¬ M' 66 12 = 0 → b < e) ∧ Lx M M')) 221 8 [some (.ref 66), x1] [] (con M1) := by
  have hm : mMet 221 = some _ := rfl
  intro n
  induction n with
  | zero =>
    intro b x1 M1 hbn he0 hbc h10 hL
    omega
  | succ n ih =>
    intro b x1 M1 hbn he0 hbc h10 hL
    have h9 : M1 66 9 = nI c := (hL 66 9 (by omega)).trans hc9
    have e8 : ∀ k, by8 M1 c k = by8 M c k := fun k => by
      unfold by8
      rw [hL 73 k (by omega)]
    refine x_aload_n hm rfl rfl ?_
    refine x_aload_n hm rfl rfl ?_
    refine x_getf hm rfl (gI rfl rfl) ?_
    rw [h10]
    refine x_callV hm rfl rfl (t222 h9 hc1 (by omega)) ?_
    refine x_bipush hm rfl (v := nI 32) (by decide) ?_
    refine x_icmp_ne hm rfl (t := 34) rfl (fun h1 => ?_) (fun h1 => ?_)
    · refine x_aload_n hm rfl rfl ?_
      refine x_aload_n hm rfl rfl ?_
      refine x_getf hm rfl (gI rfl rfl) ?_
      rw [h10]
      refine x_callV hm rfl rfl (t222 h9 hc1 (by omega)) ?_
      refine x_istore_n hm rfl rfl ?_
      refine x_aload_n hm rfl rfl ?_
      refine x_aload_n hm rfl rfl ?_
      refine x_getf hm rfl (gI rfl rfl) ?_
      rw [h10]
      refine x_putf hm rfl (pI rfl rfl (by decide) (by first | exact mFit_int | rfl | decide) rfl) ?_
      refine x_aload_n hm rfl rfl ?_
      refine x_iconst hm rfl (v := nI 0) (by decide) ?_
      refine x_putf hm rfl (pI rfl rfl (by decide) (by first | exact mFit_int | rfl | decide) rfl) ?_
      refine x_iload_n hm rfl rfl ?_
      refine x_if_ge hm rfl (t := 68) rfl (fun h2 => ?_) (fun h2 => ?_)
      · have hv0 : nI 0 ≤ by8 M1 c b := h2
        have hlt : b < c := by8_lt hv0 (by decide)
        refine x_iload_n hm rfl rfl ?_
        refine x_bipush hm rfl (v := nI 97) (by decide) ?_
        refine x_bipush hm rfl (v := nI 122) (by decide) ?_
        refine x_callS hm rfl rfl (t133) ?_
        refine x_if_eq hm rfl (t := 115) rfl (fun h3 => ?_) (fun h3 => ?_)
        · refine x_iload_n hm rfl rfl ?_
          refine x_bipush hm rfl (v := nI 48) (by decide) ?_
          refine x_bipush hm rfl (v := nI 57) (by decide) ?_
          refine x_callS hm rfl rfl (t133) ?_
          refine x_if_eq hm rfl (t := 191) rfl (fun h4 => ?_) (fun h4 => ?_)
          · refine x_aload_n hm rfl rfl ?_
            refine x_iconst hm rfl (v := nI 3) (by decide) ?_
            refine x_putf hm rfl (pI rfl rfl (by decide) (by first | exact mFit_int | rfl | decide) rfl) ?_
            refine x_aload_n hm rfl rfl ?_
            refine x_dup hm rfl rfl ?_
            refine x_getf hm rfl (gI rfl rfl) ?_
            rw [mpf (by decide), mpf (by decide), mp0]
            refine x_iconst hm rfl (v := nI 1) (by decide) ?_
            refine x_iadd hm rfl ?_
            rw [jI_add]
            refine x_putf hm rfl (pI rfl rfl (by decide) (by first | exact mFit_int | rfl | decide) rfl) ?_
            refine x_ret hm rfl rfl ?_
            first
              | exact ⟨_, rfl, rfl, b, b, by rw [mpf (by decide), mpf (by decide), mpf (by decide)]; exact h10, by rw [mpf (by decide), mpf (by decide)]; exact mp0, he0, Nat.le_refl _, hbc, fun q => absurd mp0 q, hL.trans (((Lx.put (M := M1) (x := 11) (v := nI b) (by decide) (by decide)).trans (Lx.put (x := 13) (v := nI 0) (by decide) (by decide))).trans (Lx.put (x := 12) (v := nI 0) (by decide) (by decide)))⟩
              | exact ⟨_, rfl, rfl, b, b + 1, by rw [mpf (by decide), mpf (by decide), mpf (by decide), mpf (by decide)]; exact h10, mp0, he0, Nat.le_succ _, hlt, fun _ => Nat.lt_succ_self _, (hL.trans (((Lx.put (M := M1) (x := 11) (v := nI b) (by decide) (by decide)).trans (Lx.put (x := 13) (v := nI 0) (by decide) (by decide))).trans (Lx.put (x := 12) (v := nI 3) (by decide) (by decide)))).trans (Lx.put (by decide) (by decide))⟩
          · refine x_aload_n hm rfl rfl ?_
            refine x_iconst hm rfl (v := nI 2) (by decide) ?_
            refine x_putf hm rfl (pI rfl rfl (by decide) (by first | exact mFit_int | rfl | decide) rfl) ?_
            exact l221n hc9 hc1 he0 _ b _ (Nat.lt_succ_self _) (Nat.le_refl _) hbc (by rw [mpf (by decide), mpf (by decide), mpf (by decide)]; exact h10) (by rw [mpf (by decide), mpf (by decide)]; exact mp0) mp0 (hL.trans (((Lx.put (M := M1) (x := 11) (v := nI b) (by decide) (by decide)).trans (Lx.put (x := 13) (v := nI 0) (by decide) (by decide))).trans (Lx.put (x := 12) (v := nI 2) (by decide) (by decide)))) (Or.inr ⟨rfl, by rw [← e8]; exact bI_ne0 (by assumption)⟩)
        · refine x_aload_n hm rfl rfl ?_
          refine x_iconst hm rfl (v := nI 1) (by decide) ?_
          refine x_putf hm rfl (pI rfl rfl (by decide) (by first | exact mFit_int | rfl | decide) rfl) ?_
          exact l221w hc9 hc1 he0 _ b _ (Nat.lt_succ_self _) (Nat.le_refl _) hbc (by rw [mpf (by decide), mpf (by decide), mpf (by decide)]; exact h10) (by rw [mpf (by decide), mpf (by decide)]; exact mp0) mp0 (hL.trans (((Lx.put (M := M1) (x := 11) (v := nI b) (by decide) (by decide)).trans (Lx.put (x := 13) (v := nI 0) (by decide) (by decide))).trans (Lx.put (x := 12) (v := nI 1) (by decide) (by decide)))) (Or.inr ⟨rfl, by rw [← e8]; exact bI_ne0 (by assumption)⟩)
      · refine x_aload_n hm rfl rfl ?_
        refine x_iconst hm rfl (v := nI 0) (by decide) ?_
        refine x_putf hm rfl (pI rfl rfl (by decide) (by first | exact mFit_int | rfl | decide) rfl) ?_
        refine x_goto hm rfl (t := 206) rfl ?_
        refine x_ret hm rfl rfl ?_
        first
          | exact ⟨_, rfl, rfl, b, b, by rw [mpf (by decide), mpf (by decide), mpf (by decide)]; exact h10, by rw [mpf (by decide), mpf (by decide)]; exact mp0, he0, Nat.le_refl _, hbc, fun q => absurd mp0 q, hL.trans (((Lx.put (M := M1) (x := 11) (v := nI b) (by decide) (by decide)).trans (Lx.put (x := 13) (v := nI 0) (by decide) (by decide))).trans (Lx.put (x := 12) (v := nI 0) (by decide) (by decide)))⟩
          | exact ⟨_, rfl, rfl, b, b + 1, by rw [mpf (by decide), mpf (by decide), mpf (by decide), mpf (by decide)]; exact h10, mp0, he0, Nat.le_succ _, hlt, fun _ => Nat.lt_succ_self _, (hL.trans (((Lx.put (M := M1) (x := 11) (v := nI b) (by decide) (by decide)).trans (Lx.put (x := 13) (v := nI 0) (by decide) (by decide))).trans (Lx.put (x := 12) (v := nI 3) (by decide) (by decide)))).trans (Lx.put (by decide) (by decide))⟩
    · have hlt : b < c := by8_lt (lo := 32) (by rw [h1]; exact Int32.le_refl _) (by decide)
      refine x_aload_n hm rfl rfl ?_
      refine x_dup hm rfl rfl ?_
      refine x_getf hm rfl (gI rfl rfl) ?_
      rw [h10]
      refine x_iconst hm rfl (v := nI 1) (by decide) ?_
      refine x_iadd hm rfl ?_
      rw [jI_add]
      refine x_putf hm rfl (pI rfl rfl (by decide) (by first | exact mFit_int | rfl | decide) rfl) ?_
      refine x_goto hm rfl (t := 8) rfl ?_
      exact ih (b + 1) _ _ (by omega) (by omega) (by omega) mp0 (hL.trans (Lx.put (by decide) (by decide)))
theorem t221 {c e0 : Nat} (hc9 : M 66 9 = nI c) (hc1 : c ≤ 120) (he : M 66 11 = nI e0) (hec : e0 ≤ c) : ∃ M', mT X 221 [.ref 66] (con M) none (con M') ∧ ∃ b e, M' 66 10 = nI b ∧ M' 66 11 = nI e ∧ e0 ≤ b ∧ b ≤ e ∧ e ≤ c ∧ (¬ M' 66 12 = 0 → b < e) ∧ Lx M M' := by
  refine tv_of (row := _) rfl (Nat.le_of_ble_eq_true rfl) ?_
  have hm : mMet 221 = some _ := rfl
  refine x_aload_n hm rfl rfl ?_
  refine x_aload_n hm rfl rfl ?_
  refine x_getf hm rfl (gI rfl rfl) ?_
  rw [he]
  refine x_putf hm rfl (pI rfl rfl (by decide) (by first | exact mFit_int | rfl | decide) rfl) ?_
  exact l221s hc9 hc1 _ e0 _ _ (Nat.lt_succ_self _) (Nat.le_refl _) hec mp0 (Lx.put (by decide) (by decide))
end RM
