section
/-! ===== the class: the tape read token by token ===== -/
section CT
variable {X : mSc} {Q : Option Value → mHp → Prop} {M : mM} {b : Nat}
/-- only the reader's numbers changed -/
def Lc (M M' : mM) : Prop := ∀ a x, (a ≠ 52 ∨ x < 2 ∨ 6 < x) → M' a x = M a x
theorem Lc.rf : Lc M M := fun _ _ _ => rfl
theorem Lc.trans {M1 M2 : mM} (h : Lc M M1) (g : Lc M1 M2) : Lc M M2 := fun a x hx => (g a x hx).trans (h a x hx)
theorem Lc.put {x : Nat} {v : Int32} (h1 : 2 ≤ x) (h2 : x ≤ 6) : Lc M (mput M 52 x v) := fun a y h => mpn (by omega)
theorem Lc.bq {M1 : mM} (h : Lc M M1) : Bq 1 M M1 := by
  refine ⟨fun hW a x => ?_, fun a ha => funext fun x => h a x (by omega), fun c hc _ => ⟨h c 3 (by omega), h c 4 (by omega)⟩⟩
  by_cases h1 : a ≠ 52 ∨ x < 2 ∨ 6 < x
  · rw [h a x h1]; exact hW a x
  · have e : a = 52 := by omega
    subst e
    have e2 : kd 52 x = 0 := by
      unfold kd
      repeat' split
      all_goals omega
    rw [e2]; trivial
def Cx (s e c : Nat) (M : mM) : Prop := M 52 3 = nI s ∧ M 52 4 = nI e ∧ M 52 1 = nI c ∧ s ≤ e ∧ e ≤ c ∧ c ≤ 120 ∧ (M 52 2 = nI 2 → ∃ x, x ≤ 1000 ∧ M 52 5 = nI x)
theorem pos_k {v : Int32} {lo hi : Nat} (hl : lo ≤ 999) (hh : hi ≤ 999) (h : ¬ v < nI lo) (g : ¬ nI hi < v) : ∃ d, lo ≤ d ∧ d ≤ hi ∧ v = nI d := by
  obtain ⟨d, hd, rfl⟩ := bt_k hl hh ⟨Int32.not_lt.mp h, Int32.not_lt.mp g⟩
  exact ⟨d, (jI_le (by omega) (by omega)).mp (Int32.not_lt.mp h), hd, rfl⟩
theorem nI_nm1 {k : Nat} (h : k < 2147483648) : ¬ nI k = -1 := fun q => by
  have h1 := congrArg Int32.toInt q
  rw [jI_int h] at h1
  have e : (-1 : Int32).toInt = -1 := by decide +kernel
  omega
def inB (lo hi : Nat) (v : Int32) : Prop := nI lo ≤ v ∧ v ≤ nI hi
theorem t93 {v : Int32} : ∃ w, mT X 93 [.int v] (con M) (some (.int w)) (con M) ∧ (w = nI 0 ∨ (w = nI 1 ∧ inB 97 122 v)) := by
  refine te_of (row := _) rfl (Nat.le_of_ble_eq_true rfl) ?_
  have hm : mMet 93 = some _ := rfl
  refine x_iload_n hm rfl rfl ?_
  refine x_bipush hm rfl (v := nI 97) (by decide) ?_
  refine x_icmp_lt hm rfl (t := 16) rfl (fun h1 => ?_) (fun h1 => ?_)
  · refine x_iconst hm rfl (v := nI 0) (by decide) ?_
    refine x_iret hm rfl rfl (by first | rfl | exact bI_nar | decide) ?_
    exact ⟨_, rfl, rfl, by first | exact Or.inl rfl | exact Or.inr ⟨rfl, Int32.not_lt.mp h1, Int32.not_lt.mp h2⟩⟩
  · refine x_iload_n hm rfl rfl ?_
    refine x_bipush hm rfl (v := nI 122) (by decide) ?_
    refine x_icmp_gt hm rfl (t := 16) rfl (fun h2 => ?_) (fun h2 => ?_)
    · refine x_iconst hm rfl (v := nI 0) (by decide) ?_
      refine x_iret hm rfl rfl (by first | rfl | exact bI_nar | decide) ?_
      exact ⟨_, rfl, rfl, by first | exact Or.inl rfl | exact Or.inr ⟨rfl, Int32.not_lt.mp h1, Int32.not_lt.mp h2⟩⟩
    · refine x_iconst hm rfl (v := nI 1) (by decide) ?_
      refine x_goto hm rfl (t := 17) rfl ?_
      refine x_iret hm rfl rfl (by first | rfl | exact bI_nar | decide) ?_
      exact ⟨_, rfl, rfl, by first | exact Or.inl rfl | exact Or.inr ⟨rfl, Int32.not_lt.mp h1, Int32.not_lt.mp h2⟩⟩
theorem t94 {v : Int32} : ∃ w, mT X 94 [.int v] (con M) (some (.int w)) (con M) ∧ (w = nI 0 ∨ (w = nI 1 ∧ inB 48 57 v)) := by
  refine te_of (row := _) rfl (Nat.le_of_ble_eq_true rfl) ?_
  have hm : mMet 94 = some _ := rfl
  refine x_iload_n hm rfl rfl ?_
  refine x_bipush hm rfl (v := nI 48) (by decide) ?_
  refine x_icmp_lt hm rfl (t := 16) rfl (fun h1 => ?_) (fun h1 => ?_)
  · refine x_iconst hm rfl (v := nI 0) (by decide) ?_
    refine x_iret hm rfl rfl (by first | rfl | exact bI_nar | decide) ?_
    exact ⟨_, rfl, rfl, by first | exact Or.inl rfl | exact Or.inr ⟨rfl, Int32.not_lt.mp h1, Int32.not_lt.mp h2⟩⟩
  · refine x_iload_n hm rfl rfl ?_
    refine x_bipush hm rfl (v := nI 57) (by decide) ?_
    refine x_icmp_gt hm rfl (t := 16) rfl (fun h2 => ?_) (fun h2 => ?_)
    · refine x_iconst hm rfl (v := nI 0) (by decide) ?_
      refine x_iret hm rfl rfl (by first | rfl | exact bI_nar | decide) ?_
      exact ⟨_, rfl, rfl, by first | exact Or.inl rfl | exact Or.inr ⟨rfl, Int32.not_lt.mp h1, Int32.not_lt.mp h2⟩⟩
    · refine x_iconst hm rfl (v := nI 1) (by decide) ?_
      refine x_goto hm rfl (t := 17) rfl ?_
      refine x_iret hm rfl rfl (by first | rfl | exact bI_nar | decide) ?_
      exact ⟨_, rfl, rfl, by first | exact Or.inl rfl | exact Or.inr ⟨rfl, Int32.not_lt.mp h1, Int32.not_lt.mp h2⟩⟩
theorem dig_k {x : Nat} {v : Int32} (hx : x ≤ 1000) (h : inB 48 57 v) : ∃ y, y ≤ 1000 ∧ (if nI x * nI 10 + v - nI 48 < nI 1000 then nI x * nI 10 + v - nI 48 else nI 1000) = nI y := by
  obtain ⟨d, hd, rfl⟩ := bt_k (by decide) (by decide) h
  have h48 : 48 ≤ d := (jI_le (by omega) (by omega)).mp h.1
  rw [jI_mul, jI_add, sub_k (by omega)]
  split
  · rename_i h1
    exact ⟨_, Nat.le_of_lt ((jI_lt (by omega) (by omega)).mp h1), rfl⟩
  · exact ⟨1000, by omega, rfl⟩
theorem l92w {c s : Nat} (hc0 : M 52 1 = nI c) (hc : c ≤ 120) : ∀ (n e : Nat) (M1 : mM), c - e < n → s ≤ e → e ≤ c → M1 52 3 = nI s → M1 52 4 = nI e → M1 52 2 = nI 1 → Lc M M1 → mEv X (QV (fun M' => Lc M M' ∧ ∃ s e, Cx s e c M')) 92 93 [some (.ref 52)] [] (con M1) := by
  have hm : mMet 92 = some _ := rfl
  intro n
  induction n with
  | zero =>
    intro e M1 hen hse hec g3 g4 g2 hL
    omega
  | succ n ih =>
    intro e M1 hen hse hec g3 g4 g2 hL
    have hc1 : M1 52 1 = nI c := (hL 52 1 (by omega)).trans hc0
    refine x_aload_n hm rfl rfl ?_
    refine x_getf hm rfl (gI rfl rfl) ?_
    rw [g4]
    refine x_aload_n hm rfl rfl ?_
    refine x_getf hm rfl (gI rfl rfl) ?_
    rw [hc1]
    refine x_icmp_ge hm rfl (t := 259) rfl (fun h1 => ?_) (fun h1 => ?_)
    · refine x_ret hm rfl rfl ?_
      exact ⟨_, rfl, rfl, hL, s, e, g3, g4, hc1, hse, hec, hc, fun q => absurd (g2.symm.trans q) (by decide)⟩
    · have hlt : e < c := Nat.lt_of_not_le fun h => h1 (nI_le h (by omega))
      refine x_aload_n hm rfl rfl ?_
      refine x_getf hm rfl (gR rfl rfl) ?_
      refine x_aload_n hm rfl rfl ?_
      refine x_getf hm rfl (gI rfl rfl) ?_
      rw [g4]
      refine x_bald hm rfl (lB rfl (by omega) (by decide)) ?_
      refine x_cSe hm rfl rfl (t93) (fun v2 r2 => ?_)
      refine x_if_eq hm rfl (t := 259) rfl (fun h3 => ?_) (fun h3 => ?_)
      · refine x_ret hm rfl rfl ?_
        exact ⟨_, rfl, rfl, hL, s, e, g3, g4, hc1, hse, hec, hc, fun q => absurd (g2.symm.trans q) (by decide)⟩
      · refine x_aload_n hm rfl rfl ?_
        refine x_dup hm rfl rfl ?_
        refine x_getf hm rfl (gI rfl rfl) ?_
        rw [g4]
        refine x_iconst hm rfl (v := nI 1) (by decide) ?_
        refine x_iadd hm rfl ?_
        rw [jI_add]
        refine x_putf hm rfl (pI rfl rfl (by decide) (by first | exact mFit_int | rfl | decide) rfl) ?_
        refine x_goto hm rfl (t := 93) rfl ?_
        exact ih (e + 1) _ (by omega) (by omega) (by omega) (by rw [mpf (by decide)]; exact g3) mp0 (by rw [mpf (by decide)]; exact g2) (hL.trans (Lc.put (by decide) (by decide)))
theorem l92n {c s : Nat} (hc0 : M 52 1 = nI c) (hc : c ≤ 120) : ∀ (n e x : Nat) (M1 : mM), c - e < n → s ≤ e → e ≤ c → x ≤ 1000 → M1 52 3 = nI s → M1 52 4 = nI e → M1 52 5 = nI x → Lc M M1 → mEv X (QV (fun M' => Lc M M' ∧ ∃ s e, Cx s e c M')) 92 157 [some (.ref 52)] [] (con M1) := by
  have hm : mMet 92 = some _ := rfl
  intro n
  induction n with
  | zero =>
    intro e x M1 hen hse hec hx g3 g4 g5 hL
    omega
  | succ n ih =>
    intro e x M1 hen hse hec hx g3 g4 g5 hL
    have hc1 : M1 52 1 = nI c := (hL 52 1 (by omega)).trans hc0
    refine x_aload_n hm rfl rfl ?_
    refine x_getf hm rfl (gI rfl rfl) ?_
    rw [g4]
    refine x_aload_n hm rfl rfl ?_
    refine x_getf hm rfl (gI rfl rfl) ?_
    rw [hc1]
    refine x_icmp_ge hm rfl (t := 259) rfl (fun h1 => ?_) (fun h1 => ?_)
    · refine x_ret hm rfl rfl ?_
      exact ⟨_, rfl, rfl, hL, s, e, g3, g4, hc1, hse, hec, hc, fun _ => ⟨x, hx, g5⟩⟩
    · have hlt : e < c := Nat.lt_of_not_le fun h => h1 (nI_le h (by omega))
      refine x_aload_n hm rfl rfl ?_
      refine x_getf hm rfl (gR rfl rfl) ?_
      refine x_aload_n hm rfl rfl ?_
      refine x_getf hm rfl (gI rfl rfl) ?_
      rw [g4]
      refine x_bald hm rfl (lB rfl (by omega) (by decide)) ?_
      refine x_cSe hm rfl rfl (t94) (fun v2 r2 => ?_)
      refine x_if_eq hm rfl (t := 259) rfl (fun h3 => ?_) (fun h3 => ?_)
      · refine x_ret hm rfl rfl ?_
        exact ⟨_, rfl, rfl, hL, s, e, g3, g4, hc1, hse, hec, hc, fun _ => ⟨x, hx, g5⟩⟩
      · first
          | obtain ⟨-, hdg⟩ := r2.resolve_left (fun q => by subst q; exact h3 rfl)
          | obtain ⟨-, hdg⟩ := r8.resolve_left (fun q => by subst q; exact h3 rfl)
          | obtain ⟨-, hdg⟩ := r7.resolve_left (fun q => by subst q; exact h3 rfl)
          | obtain ⟨-, hdg⟩ := r6.resolve_left (fun q => by subst q; exact h3 rfl)
          | obtain ⟨-, hdg⟩ := r5.resolve_left (fun q => by subst q; exact h3 rfl)
          | obtain ⟨-, hdg⟩ := r4.resolve_left (fun q => by subst q; exact h3 rfl)
          | obtain ⟨-, hdg⟩ := r3.resolve_left (fun q => by subst q; exact h3 rfl)
          | obtain ⟨-, hdg⟩ := r1.resolve_left (fun q => by subst q; exact h3 rfl)
        refine x_aload_n hm rfl rfl ?_
        refine x_sipush hm rfl (v := nI 1000) (by decide) ?_
        refine x_aload_n hm rfl rfl ?_
        refine x_getf hm rfl (gI rfl rfl) ?_
        rw [g5]
        refine x_bipush hm rfl (v := nI 10) (by decide) ?_
        refine x_imul hm rfl ?_
        refine x_aload_n hm rfl rfl ?_
        refine x_getf hm rfl (gR rfl rfl) ?_
        refine x_aload_n hm rfl rfl ?_
        refine x_getf hm rfl (gI rfl rfl) ?_
        rw [g4]
        refine x_bald hm rfl (lB rfl (by omega) (by decide)) ?_
        refine x_iadd hm rfl ?_
        refine x_bipush hm rfl (v := nI 48) (by decide) ?_
        refine x_isub hm rfl ?_
        refine x_lib hm rfl rfl ?_
        dsimp only
        obtain ⟨y, hy, hy2⟩ := dig_k hx hdg
        rw [hy2]
        refine x_putf hm rfl (pI rfl rfl (by decide) (by first | exact mFit_int | rfl | decide) rfl) ?_
        refine x_aload_n hm rfl rfl ?_
        refine x_dup hm rfl rfl ?_
        refine x_getf hm rfl (gI rfl rfl) ?_
        rw [mpf (by decide), g4]
        refine x_iconst hm rfl (v := nI 1) (by decide) ?_
        refine x_iadd hm rfl ?_
        rw [jI_add]
        refine x_putf hm rfl (pI rfl rfl (by decide) (by first | exact mFit_int | rfl | decide) rfl) ?_
        refine x_goto hm rfl (t := 157) rfl ?_
        exact ih (e + 1) y _ (by omega) (by omega) (by omega) hy (by rw [mpf (by decide), mpf (by decide)]; exact g3) mp0 (by rw [mpf (by decide)]; exact mp0) ((hL.trans (Lc.put (by decide) (by decide))).trans (Lc.put (by decide) (by decide)))
theorem l92s {c : Nat} (hc0 : M 52 1 = nI c) (hc : c ≤ 120) : ∀ (n s : Nat) (M1 : mM), c - s < n → s ≤ c → M1 52 3 = nI s → Lc M M1 → mEv X (QV (fun M' => Lc M M' ∧ ∃ s e, Cx s e c M')) 92 8 [some (.ref 52)] [] (con M1) := by
  have hm : mMet 92 = some _ := rfl
  intro n
  induction n with
  | zero =>
    intro s M1 hsn hsc g3 hL
    omega
  | succ n ih =>
    intro s M1 hsn hsc g3 hL
    have hc1 : M1 52 1 = nI c := (hL 52 1 (by omega)).trans hc0
    refine x_aload_n hm rfl rfl ?_
    refine x_getf hm rfl (gI rfl rfl) ?_
    rw [g3]
    refine x_aload_n hm rfl rfl ?_
    refine x_getf hm rfl (gI rfl rfl) ?_
    rw [hc1]
    refine x_icmp_ge hm rfl (t := 46) rfl (fun h1 => ?_) (fun h1 => ?_)
    · refine x_aload_n hm rfl rfl ?_
      refine x_aload_n hm rfl rfl ?_
      refine x_getf hm rfl (gI rfl rfl) ?_
      rw [g3]
      refine x_putf hm rfl (pI rfl rfl (by decide) (by first | exact mFit_int | rfl | decide) rfl) ?_
      refine x_aload_n hm rfl rfl ?_
      refine x_getf hm rfl (gI rfl rfl) ?_
      rw [mpf (by decide), g3]
      refine x_aload_n hm rfl rfl ?_
      refine x_getf hm rfl (gI rfl rfl) ?_
      rw [mpf (by decide), hc1]
      refine x_icmp_lt hm rfl (t := 73) rfl (fun h2 => ?_) (fun h2 => ?_)
      · have hlt2 : s < c := (jI_lt (by omega) (by omega)).mp h2
        refine x_aload_n hm rfl rfl ?_
        refine x_getf hm rfl (gR rfl rfl) ?_
        refine x_aload_n hm rfl rfl ?_
        refine x_getf hm rfl (gI rfl rfl) ?_
        rw [mp0]
        refine x_bald hm rfl (lB rfl (by omega) (by decide)) ?_
        refine x_cSe hm rfl rfl (t93) (fun v3 r3 => ?_)
        refine x_if_eq hm rfl (t := 132) rfl (fun h4 => ?_) (fun h4 => ?_)
        · refine x_aload_n hm rfl rfl ?_
          refine x_getf hm rfl (gR rfl rfl) ?_
          refine x_aload_n hm rfl rfl ?_
          refine x_getf hm rfl (gI rfl rfl) ?_
          rw [mp0]
          refine x_bald hm rfl (lB rfl (by omega) (by decide)) ?_
          refine x_cSe hm rfl rfl (t94) (fun v5 r5 => ?_)
          refine x_if_eq hm rfl (t := 226) rfl (fun h6 => ?_) (fun h6 => ?_)
          · refine x_aload_n hm rfl rfl ?_
            refine x_aload_n hm rfl rfl ?_
            refine x_getf hm rfl (gR rfl rfl) ?_
            refine x_aload_n hm rfl rfl ?_
            refine x_getf hm rfl (gI rfl rfl) ?_
            rw [mpf (by decide), g3]
            refine x_bald hm rfl (lB rfl (by omega) (by decide)) ?_
            refine x_bipush hm rfl (v := nI 59) (by decide) ?_
            refine x_icmp_ne hm rfl (t := 245) rfl (fun h7 => ?_) (fun h7 => ?_)
            · refine x_iconst hm rfl (v := nI 4) (by decide) ?_
              refine x_putf hm rfl (pI rfl rfl (by decide) (by first | exact mFit_int | rfl | decide) rfl) ?_
              refine x_aload_n hm rfl rfl ?_
              refine x_dup hm rfl rfl ?_
              refine x_getf hm rfl (gI rfl rfl) ?_
              rw [mpf (by decide), mp0]
              refine x_iconst hm rfl (v := nI 1) (by decide) ?_
              refine x_iadd hm rfl ?_
              rw [jI_add]
              refine x_putf hm rfl (pI rfl rfl (by decide) (by first | exact mFit_int | rfl | decide) rfl) ?_
              refine x_ret hm rfl rfl ?_
              first
                | exact ⟨_, rfl, rfl, (hL.trans (Lc.put (M := M1) (x := 4) (v := nI s) (by decide) (by decide))).trans (Lc.put (by decide) (by decide)), s, s, by rw [mpf (by decide), mpf (by decide)]; exact g3, by rw [mpf (by decide)]; exact mp0, by rw [mpf (by decide), mpf (by decide)]; exact hc1, Nat.le_refl _, hsc, hc, fun q => absurd (mp0.symm.trans q) (by decide)⟩
                | exact ⟨_, rfl, rfl, ((hL.trans (Lc.put (M := M1) (x := 4) (v := nI s) (by decide) (by decide))).trans (Lc.put (by decide) (by decide))).trans (Lc.put (by decide) (by decide)), s, s + 1, by rw [mpf (by decide), mpf (by decide), mpf (by decide)]; exact g3, mp0, by rw [mpf (by decide), mpf (by decide), mpf (by decide)]; exact hc1, Nat.le_succ _, hlt2, hc, fun q => absurd ((mpf (by decide)).symm.trans q) (by rw [mp0]; decide)⟩
            · refine x_iconst hm rfl (v := nI 3) (by decide) ?_
              refine x_goto hm rfl (t := 246) rfl ?_
              refine x_putf hm rfl (pI rfl rfl (by decide) (by first | exact mFit_int | rfl | decide) rfl) ?_
              refine x_aload_n hm rfl rfl ?_
              refine x_dup hm rfl rfl ?_
              refine x_getf hm rfl (gI rfl rfl) ?_
              rw [mpf (by decide), mp0]
              refine x_iconst hm rfl (v := nI 1) (by decide) ?_
              refine x_iadd hm rfl ?_
              rw [jI_add]
              refine x_putf hm rfl (pI rfl rfl (by decide) (by first | exact mFit_int | rfl | decide) rfl) ?_
              refine x_ret hm rfl rfl ?_
              first
                | exact ⟨_, rfl, rfl, (hL.trans (Lc.put (M := M1) (x := 4) (v := nI s) (by decide) (by decide))).trans (Lc.put (by decide) (by decide)), s, s, by rw [mpf (by decide), mpf (by decide)]; exact g3, by rw [mpf (by decide)]; exact mp0, by rw [mpf (by decide), mpf (by decide)]; exact hc1, Nat.le_refl _, hsc, hc, fun q => absurd (mp0.symm.trans q) (by decide)⟩
                | exact ⟨_, rfl, rfl, ((hL.trans (Lc.put (M := M1) (x := 4) (v := nI s) (by decide) (by decide))).trans (Lc.put (by decide) (by decide))).trans (Lc.put (by decide) (by decide)), s, s + 1, by rw [mpf (by decide), mpf (by decide), mpf (by decide)]; exact g3, mp0, by rw [mpf (by decide), mpf (by decide), mpf (by decide)]; exact hc1, Nat.le_succ _, hlt2, hc, fun q => absurd ((mpf (by decide)).symm.trans q) (by rw [mp0]; decide)⟩
          · refine x_aload_n hm rfl rfl ?_
            refine x_iconst hm rfl (v := nI 2) (by decide) ?_
            refine x_putf hm rfl (pI rfl rfl (by decide) (by first | exact mFit_int | rfl | decide) rfl) ?_
            refine x_aload_n hm rfl rfl ?_
            refine x_iconst hm rfl (v := nI 0) (by decide) ?_
            refine x_putf hm rfl (pI rfl rfl (by decide) (by first | exact mFit_int | rfl | decide) rfl) ?_
            exact l92n hc0 hc _ s 0 _ (Nat.lt_succ_self _) (Nat.le_refl _) hsc (by decide) (by rw [mpf (by decide), mpf (by decide), mpf (by decide)]; exact g3) (by rw [mpf (by decide), mpf (by decide)]; exact mp0) mp0 (((hL.trans (Lc.put (M := M1) (x := 4) (v := nI s) (by decide) (by decide))).trans (Lc.put (by decide) (by decide))).trans (Lc.put (by decide) (by decide)))
        · refine x_aload_n hm rfl rfl ?_
          refine x_iconst hm rfl (v := nI 1) (by decide) ?_
          refine x_putf hm rfl (pI rfl rfl (by decide) (by first | exact mFit_int | rfl | decide) rfl) ?_
          exact l92w hc0 hc _ s _ (Nat.lt_succ_self _) (Nat.le_refl _) hsc (by rw [mpf (by decide), mpf (by decide)]; exact g3) (by rw [mpf (by decide)]; exact mp0) mp0 ((hL.trans (Lc.put (M := M1) (x := 4) (v := nI s) (by decide) (by decide))).trans (Lc.put (by decide) (by decide)))
      · refine x_aload_n hm rfl rfl ?_
        refine x_iconst hm rfl (v := nI 0) (by decide) ?_
        refine x_putf hm rfl (pI rfl rfl (by decide) (by first | exact mFit_int | rfl | decide) rfl) ?_
        refine x_goto hm rfl (t := 259) rfl ?_
        refine x_ret hm rfl rfl ?_
        first
          | exact ⟨_, rfl, rfl, (hL.trans (Lc.put (M := M1) (x := 4) (v := nI s) (by decide) (by decide))).trans (Lc.put (by decide) (by decide)), s, s, by rw [mpf (by decide), mpf (by decide)]; exact g3, by rw [mpf (by decide)]; exact mp0, by rw [mpf (by decide), mpf (by decide)]; exact hc1, Nat.le_refl _, hsc, hc, fun q => absurd (mp0.symm.trans q) (by decide)⟩
          | exact ⟨_, rfl, rfl, ((hL.trans (Lc.put (M := M1) (x := 4) (v := nI s) (by decide) (by decide))).trans (Lc.put (by decide) (by decide))).trans (Lc.put (by decide) (by decide)), s, s + 1, by rw [mpf (by decide), mpf (by decide), mpf (by decide)]; exact g3, mp0, by rw [mpf (by decide), mpf (by decide), mpf (by decide)]; exact hc1, Nat.le_succ _, hlt2, hc, fun q => absurd ((mpf (by decide)).symm.trans q) (by rw [mp0]; decide)⟩
    · have hlt : s < c := Nat.lt_of_not_le fun h => h1 (nI_le h (by omega))
      refine x_aload_n hm rfl rfl ?_
      refine x_getf hm rfl (gR rfl rfl) ?_
      refine x_aload_n hm rfl rfl ?_
      refine x_getf hm rfl (gI rfl rfl) ?_
      rw [g3]
      refine x_bald hm rfl (lB rfl (by omega) (by decide)) ?_
      refine x_bipush hm rfl (v := nI 32) (by decide) ?_
      refine x_icmp_ne hm rfl (t := 46) rfl (fun h8 => ?_) (fun h8 => ?_)
      · refine x_aload_n hm rfl rfl ?_
        refine x_aload_n hm rfl rfl ?_
        refine x_getf hm rfl (gI rfl rfl) ?_
        rw [g3]
        refine x_putf hm rfl (pI rfl rfl (by decide) (by first | exact mFit_int | rfl | decide) rfl) ?_
        refine x_aload_n hm rfl rfl ?_
        refine x_getf hm rfl (gI rfl rfl) ?_
        rw [mpf (by decide), g3]
        refine x_aload_n hm rfl rfl ?_
        refine x_getf hm rfl (gI rfl rfl) ?_
        rw [mpf (by decide), hc1]
        refine x_icmp_lt hm rfl (t := 73) rfl (fun h9 => ?_) (fun h9 => ?_)
        · have hlt2 : s < c := (jI_lt (by omega) (by omega)).mp h9
          refine x_aload_n hm rfl rfl ?_
          refine x_getf hm rfl (gR rfl rfl) ?_
          refine x_aload_n hm rfl rfl ?_
          refine x_getf hm rfl (gI rfl rfl) ?_
          rw [mp0]
          refine x_bald hm rfl (lB rfl (by omega) (by decide)) ?_
          refine x_cSe hm rfl rfl (t93) (fun v10 r10 => ?_)
          refine x_if_eq hm rfl (t := 132) rfl (fun h11 => ?_) (fun h11 => ?_)
          · refine x_aload_n hm rfl rfl ?_
            refine x_getf hm rfl (gR rfl rfl) ?_
            refine x_aload_n hm rfl rfl ?_
            refine x_getf hm rfl (gI rfl rfl) ?_
            rw [mp0]
            refine x_bald hm rfl (lB rfl (by omega) (by decide)) ?_
            refine x_cSe hm rfl rfl (t94) (fun v12 r12 => ?_)
            refine x_if_eq hm rfl (t := 226) rfl (fun h13 => ?_) (fun h13 => ?_)
            · refine x_aload_n hm rfl rfl ?_
              refine x_aload_n hm rfl rfl ?_
              refine x_getf hm rfl (gR rfl rfl) ?_
              refine x_aload_n hm rfl rfl ?_
              refine x_getf hm rfl (gI rfl rfl) ?_
              rw [mpf (by decide), g3]
              refine x_bald hm rfl (lB rfl (by omega) (by decide)) ?_
              refine x_bipush hm rfl (v := nI 59) (by decide) ?_
              refine x_icmp_ne hm rfl (t := 245) rfl (fun h14 => ?_) (fun h14 => ?_)
              · refine x_iconst hm rfl (v := nI 4) (by decide) ?_
                refine x_putf hm rfl (pI rfl rfl (by decide) (by first | exact mFit_int | rfl | decide) rfl) ?_
                refine x_aload_n hm rfl rfl ?_
                refine x_dup hm rfl rfl ?_
                refine x_getf hm rfl (gI rfl rfl) ?_
                rw [mpf (by decide), mp0]
                refine x_iconst hm rfl (v := nI 1) (by decide) ?_
                refine x_iadd hm rfl ?_
                rw [jI_add]
                refine x_putf hm rfl (pI rfl rfl (by decide) (by first | exact mFit_int | rfl | decide) rfl) ?_
                refine x_ret hm rfl rfl ?_
                first
                  | exact ⟨_, rfl, rfl, (hL.trans (Lc.put (M := M1) (x := 4) (v := nI s) (by decide) (by decide))).trans (Lc.put (by decide) (by decide)), s, s, by rw [mpf (by decide), mpf (by decide)]; exact g3, by rw [mpf (by decide)]; exact mp0, by rw [mpf (by decide), mpf (by decide)]; exact hc1, Nat.le_refl _, hsc, hc, fun q => absurd (mp0.symm.trans q) (by decide)⟩
                  | exact ⟨_, rfl, rfl, ((hL.trans (Lc.put (M := M1) (x := 4) (v := nI s) (by decide) (by decide))).trans (Lc.put (by decide) (by decide))).trans (Lc.put (by decide) (by decide)), s, s + 1, by rw [mpf (by decide), mpf (by decide), mpf (by decide)]; exact g3, mp0, by rw [mpf (by decide), mpf (by decide), mpf (by decide)]; exact hc1, Nat.le_succ _, hlt2, hc, fun q => absurd ((mpf (by decide)).symm.trans q) (by rw [mp0]; decide)⟩
              · refine x_iconst hm rfl (v := nI 3) (by decide) ?_
                refine x_goto hm rfl (t := 246) rfl ?_
                refine x_putf hm rfl (pI rfl rfl (by decide) (by first | exact mFit_int | rfl | decide) rfl) ?_
                refine x_aload_n hm rfl rfl ?_
                refine x_dup hm rfl rfl ?_
                refine x_getf hm rfl (gI rfl rfl) ?_
                rw [mpf (by decide), mp0]
                refine x_iconst hm rfl (v := nI 1) (by decide) ?_
                refine x_iadd hm rfl ?_
                rw [jI_add]
                refine x_putf hm rfl (pI rfl rfl (by decide) (by first | exact mFit_int | rfl | decide) rfl) ?_
                refine x_ret hm rfl rfl ?_
                first
                  | exact ⟨_, rfl, rfl, (hL.trans (Lc.put (M := M1) (x := 4) (v := nI s) (by decide) (by decide))).trans (Lc.put (by decide) (by decide)), s, s, by rw [mpf (by decide), mpf (by decide)]; exact g3, by rw [mpf (by decide)]; exact mp0, by rw [mpf (by decide), mpf (by decide)]; exact hc1, Nat.le_refl _, hsc, hc, fun q => absurd (mp0.symm.trans q) (by decide)⟩
                  | exact ⟨_, rfl, rfl, ((hL.trans (Lc.put (M := M1) (x := 4) (v := nI s) (by decide) (by decide))).trans (Lc.put (by decide) (by decide))).trans (Lc.put (by decide) (by decide)), s, s + 1, by rw [mpf (by decide), mpf (by decide), mpf (by decide)]; exact g3, mp0, by rw [mpf (by decide), mpf (by decide), mpf (by decide)]; exact hc1, Nat.le_succ _, hlt2, hc, fun q => absurd ((mpf (by decide)).symm.trans q) (by rw [mp0]; decide)⟩
            · refine x_aload_n hm rfl rfl ?_
              refine x_iconst hm rfl (v := nI 2) (by decide) ?_
              refine x_putf hm rfl (pI rfl rfl (by decide) (by first | exact mFit_int | rfl | decide) rfl) ?_
              refine x_aload_n hm rfl rfl ?_
              refine x_iconst hm rfl (v := nI 0) (by decide) ?_
              refine x_putf hm rfl (pI rfl rfl (by decide) (by first | exact mFit_int | rfl | decide) rfl) ?_
              exact l92n hc0 hc _ s 0 _ (Nat.lt_succ_self _) (Nat.le_refl _) hsc (by decide) (by rw [mpf (by decide), mpf (by decide), mpf (by decide)]; exact g3) (by rw [mpf (by decide), mpf (by decide)]; exact mp0) mp0 (((hL.trans (Lc.put (M := M1) (x := 4) (v := nI s) (by decide) (by decide))).trans (Lc.put (by decide) (by decide))).trans (Lc.put (by decide) (by decide)))
          · refine x_aload_n hm rfl rfl ?_
            refine x_iconst hm rfl (v := nI 1) (by decide) ?_
            refine x_putf hm rfl (pI rfl rfl (by decide) (by first | exact mFit_int | rfl | decide) rfl) ?_
            exact l92w hc0 hc _ s _ (Nat.lt_succ_self _) (Nat.le_refl _) hsc (by rw [mpf (by decide), mpf (by decide)]; exact g3) (by rw [mpf (by decide)]; exact mp0) mp0 ((hL.trans (Lc.put (M := M1) (x := 4) (v := nI s) (by decide) (by decide))).trans (Lc.put (by decide) (by decide)))
        · refine x_aload_n hm rfl rfl ?_
          refine x_iconst hm rfl (v := nI 0) (by decide) ?_
          refine x_putf hm rfl (pI rfl rfl (by decide) (by first | exact mFit_int | rfl | decide) rfl) ?_
          refine x_goto hm rfl (t := 259) rfl ?_
          refine x_ret hm rfl rfl ?_
          first
            | exact ⟨_, rfl, rfl, (hL.trans (Lc.put (M := M1) (x := 4) (v := nI s) (by decide) (by decide))).trans (Lc.put (by decide) (by decide)), s, s, by rw [mpf (by decide), mpf (by decide)]; exact g3, by rw [mpf (by decide)]; exact mp0, by rw [mpf (by decide), mpf (by decide)]; exact hc1, Nat.le_refl _, hsc, hc, fun q => absurd (mp0.symm.trans q) (by decide)⟩
            | exact ⟨_, rfl, rfl, ((hL.trans (Lc.put (M := M1) (x := 4) (v := nI s) (by decide) (by decide))).trans (Lc.put (by decide) (by decide))).trans (Lc.put (by decide) (by decide)), s, s + 1, by rw [mpf (by decide), mpf (by decide), mpf (by decide)]; exact g3, mp0, by rw [mpf (by decide), mpf (by decide), mpf (by decide)]; exact hc1, Nat.le_succ _, hlt2, hc, fun q => absurd ((mpf (by decide)).symm.trans q) (by rw [mp0]; decide)⟩
      · refine x_aload_n hm rfl rfl ?_
        refine x_dup hm rfl rfl ?_
        refine x_getf hm rfl (gI rfl rfl) ?_
        rw [g3]
        refine x_iconst hm rfl (v := nI 1) (by decide) ?_
        refine x_iadd hm rfl ?_
        rw [jI_add]
        refine x_putf hm rfl (pI rfl rfl (by decide) (by first | exact mFit_int | rfl | decide) rfl) ?_
        refine x_goto hm rfl (t := 8) rfl ?_
        exact ih (s + 1) _ (by omega) (by omega) mp0 (hL.trans (Lc.put (by decide) (by decide)))
theorem t92 {s e c : Nat} (hx : Cx s e c M) : ∃ M', mT X 92 [.ref 52] (con M) none (con M') ∧ Lc M M' ∧ ∃ s e, Cx s e c M' := by
  refine tv_of (row := _) rfl (Nat.le_of_ble_eq_true rfl) ?_
  have hm : mMet 92 = some _ := rfl
  obtain ⟨y1, y2, y3, y4, y5, y6, y7⟩ := hx
  refine x_aload_n hm rfl rfl ?_
  refine x_aload_n hm rfl rfl ?_
  refine x_getf hm rfl (gI rfl rfl) ?_
  rw [y2]
  refine x_putf hm rfl (pI rfl rfl (by decide) (by first | exact mFit_int | rfl | decide) rfl) ?_
  exact l92s y3 y6 _ e _ (Nat.lt_succ_self _) y5 mp0 (Lc.put (by decide) (by decide))
theorem u92 {e c : Nat} (y2 : M 52 4 = nI e) (y3 : M 52 1 = nI c) (y5 : e ≤ c) (y6 : c ≤ 120) : ∃ M', mT X 92 [.ref 52] (con M) none (con M') ∧ Lc M M' ∧ ∃ s e, Cx s e c M' := by
  refine tv_of (row := _) rfl (Nat.le_of_ble_eq_true rfl) ?_
  have hm : mMet 92 = some _ := rfl
  refine x_aload_n hm rfl rfl ?_
  refine x_aload_n hm rfl rfl ?_
  refine x_getf hm rfl (gI rfl rfl) ?_
  rw [y2]
  refine x_putf hm rfl (pI rfl rfl (by decide) (by first | exact mFit_int | rfl | decide) rfl) ?_
  exact l92s y3 y6 _ e _ (Nat.lt_succ_self _) y5 mp0 (Lc.put (by decide) (by decide))
/-- the reader stands well, and only it changed -/
def Cy (c : Nat) (M M' : mM) : Prop := Lc M M' ∧ ∃ s e, Cx s e c M'
theorem Cx.f6 {s e c : Nat} {v : Int32} (h : Cx s e c M) : Cx s e c (mput M 52 6 v) := by
  obtain ⟨y1, y2, y3, y4, y5, y6, y7⟩ := h
  exact ⟨(mpf (by decide)).trans y1, (mpf (by decide)).trans y2, (mpf (by decide)).trans y3, y4, y5, y6, fun q => by
    rw [mpf (by decide)] at q ⊢
    exact y7 q⟩
theorem t112 {s e c : Nat} (hx : Cx s e c M) : ∃ M', mT X 112 [.ref 52] (con M) none (con M') ∧ Lc M M' ∧ Cx s e c M' ∧ ¬ M' 52 6 = -1 ∧ M' 52 2 = M 52 2 := by
  refine tv_of (row := _) rfl (Nat.le_of_ble_eq_true rfl) ?_
  have hm : mMet 112 = some _ := rfl
  obtain ⟨y1, y2, y3, y4, y5, y6, y7⟩ := id hx
  refine x_aload_n hm rfl rfl ?_
  refine x_getf hm rfl (gI rfl rfl) ?_
  refine x_iconst hm rfl (v := (-1 : Int32)) (by decide) ?_
  refine x_icmp_ne hm rfl (t := 16) rfl (fun h1 => ?_) (fun h1 => ?_)
  · refine x_ret hm rfl rfl ?_
    first
      | exact ⟨_, rfl, rfl, Lc.rf, hx, h1, rfl⟩
      | exact ⟨_, rfl, rfl, Lc.put (by decide) (by decide), hx.f6, (by rw [mp0]; exact nI_nm1 (by omega)), mpf (by decide)⟩
  · refine x_aload_n hm rfl rfl ?_
    refine x_aload_n hm rfl rfl ?_
    refine x_getf hm rfl (gI rfl rfl) ?_
    rw [y1]
    refine x_putf hm rfl (pI rfl rfl (by decide) (by first | exact mFit_int | rfl | decide) rfl) ?_
    refine x_ret hm rfl rfl ?_
    first
      | exact ⟨_, rfl, rfl, Lc.rf, hx, h1, rfl⟩
      | exact ⟨_, rfl, rfl, Lc.put (by decide) (by decide), hx.f6, (by rw [mp0]; exact nI_nm1 (by omega)), mpf (by decide)⟩
theorem l111f {c : Nat} {m : Int32} {M0 : mM} {x2 : Option Value} (hy : Cy c M0 M) (k2 : ¬ M 52 6 = -1) : mEv X (QI (fun v M' => Cy c M0 M' ∧ (∃ x, v = nI x ∧ (x = 0 ∨ (nI x ≤ m ∧ x ≤ 1000))))) 111 20 [some (.ref 52), some (.int m), x2] [] (con M) := by
  have hm : mMet 111 = some _ := rfl
  refine x_aload_n hm rfl rfl ?_
  refine x_getf hm rfl (gI rfl rfl) ?_
  refine x_iconst hm rfl (v := (-1 : Int32)) (by decide) ?_
  refine x_icmp_eq hm rfl (t := 30) rfl (fun h1 => ?_) (fun h1 => ?_)
  · exact absurd h1 k2 --stop
  · refine x_iconst hm rfl (v := nI 0) (by decide) ?_
    refine x_iret hm rfl rfl (by first | rfl | exact bI_nar | decide) ?_
    exact ⟨_, _, rfl, rfl, hy, 0, rfl, Or.inl rfl⟩
theorem l111g {s e c x : Nat} {m : Int32} {x2 : Option Value} (hx : Cx s e c M) (hx5 : M 52 5 = nI x) (hx1 : x ≤ 1000) (hle : nI x ≤ m) : mEv X (QI (fun v M' => Cy c M M' ∧ (∃ x, v = nI x ∧ (x = 0 ∨ (nI x ≤ m ∧ x ≤ 1000))))) 111 20 [some (.ref 52), some (.int m), x2] [] (con M) := by
  have hm : mMet 111 = some _ := rfl
  refine x_aload_n hm rfl rfl ?_
  refine x_getf hm rfl (gI rfl rfl) ?_
  refine x_iconst hm rfl (v := (-1 : Int32)) (by decide) ?_
  refine x_icmp_eq hm rfl (t := 30) rfl (fun h1 => ?_) (fun h1 => ?_)
  · refine x_aload_n hm rfl rfl ?_
    refine x_getf hm rfl (gI rfl rfl) ?_
    rw [hx5]
    refine x_istore_n hm rfl rfl ?_
    refine x_aload_n hm rfl rfl ?_
    refine x_cVv hm rfl rfl (by first | exact t92 hx | exact t92 hx2) (fun M2 r2 => ?_)
    refine x_iload_n hm rfl rfl ?_
    refine x_iret hm rfl rfl (by first | rfl | exact bI_nar | decide) ?_
    first
      | exact ⟨_, _, rfl, rfl, r2, x, rfl, Or.inr ⟨hle, hx1⟩⟩
      | exact ⟨_, _, rfl, rfl, ⟨Lc.rf, s, e, hx⟩, 0, rfl, Or.inl rfl⟩
      | exact ⟨_, _, rfl, rfl, r1, x, rfl, Or.inr ⟨hle, hx1⟩⟩
      | exact ⟨_, _, rfl, rfl, r3, x, rfl, Or.inr ⟨hle, hx1⟩⟩
      | exact ⟨_, _, rfl, rfl, r4, x, rfl, Or.inr ⟨hle, hx1⟩⟩
      | exact ⟨_, _, rfl, rfl, r5, x, rfl, Or.inr ⟨hle, hx1⟩⟩
      | exact ⟨_, _, rfl, rfl, r6, x, rfl, Or.inr ⟨hle, hx1⟩⟩
      | exact ⟨_, _, rfl, rfl, r7, x, rfl, Or.inr ⟨hle, hx1⟩⟩
      | exact ⟨_, _, rfl, rfl, r8, x, rfl, Or.inr ⟨hle, hx1⟩⟩
  · refine x_iconst hm rfl (v := nI 0) (by decide) ?_
    refine x_iret hm rfl rfl (by first | rfl | exact bI_nar | decide) ?_
    first
      | exact ⟨_, _, rfl, rfl, ⟨Lc.rf, s, e, hx⟩, 0, rfl, Or.inl rfl⟩
      | exact ⟨_, _, rfl, rfl, r1, x, rfl, Or.inr ⟨hle, hx1⟩⟩
      | exact ⟨_, _, rfl, rfl, r2, x, rfl, Or.inr ⟨hle, hx1⟩⟩
      | exact ⟨_, _, rfl, rfl, r3, x, rfl, Or.inr ⟨hle, hx1⟩⟩
      | exact ⟨_, _, rfl, rfl, r4, x, rfl, Or.inr ⟨hle, hx1⟩⟩
      | exact ⟨_, _, rfl, rfl, r5, x, rfl, Or.inr ⟨hle, hx1⟩⟩
      | exact ⟨_, _, rfl, rfl, r6, x, rfl, Or.inr ⟨hle, hx1⟩⟩
      | exact ⟨_, _, rfl, rfl, r7, x, rfl, Or.inr ⟨hle, hx1⟩⟩
      | exact ⟨_, _, rfl, rfl, r8, x, rfl, Or.inr ⟨hle, hx1⟩⟩
theorem t111 {s e c : Nat} {m : Int32} (hx : Cx s e c M) : ∃ v M', mT X 111 [.ref 52, .int m] (con M) (some (.int v)) (con M') ∧ Cy c M M' ∧ (∃ x, v = nI x ∧ (x = 0 ∨ (nI x ≤ m ∧ x ≤ 1000))) := by
  refine ti_of (row := _) rfl (Nat.le_of_ble_eq_true rfl) ?_
  have hm : mMet 111 = some _ := rfl
  obtain ⟨y1, y2, y3, y4, y5, y6, y7⟩ := id hx
  refine x_aload_n hm rfl rfl ?_
  refine x_getf hm rfl (gI rfl rfl) ?_
  refine x_iconst hm rfl (v := nI 2) (by decide) ?_
  refine x_icmp_ne hm rfl (t := 16) rfl (fun h1 => ?_) (fun h1 => ?_)
  · refine x_aload_n hm rfl rfl ?_
    refine x_cVv hm rfl rfl (t112 hx) (fun M2 r2 => ?_)
    first
      | exact l111f ⟨r2.1, _, _, r2.2.1⟩ r2.2.2.1
      | exact l111g hx hx5 hx1 (by rw [← hx5]; exact hle)
      | exact l111f ⟨r1.1, _, _, r1.2.1⟩ r1.2.2.1
      | exact l111f ⟨r3.1, _, _, r3.2.1⟩ r3.2.2.1
      | exact l111f ⟨r4.1, _, _, r4.2.1⟩ r4.2.2.1
      | exact l111f ⟨r5.1, _, _, r5.2.1⟩ r5.2.2.1
      | exact l111f ⟨r6.1, _, _, r6.2.1⟩ r6.2.2.1
      | exact l111f ⟨r7.1, _, _, r7.2.1⟩ r7.2.2.1
      | exact l111f ⟨r8.1, _, _, r8.2.1⟩ r8.2.2.1
  · obtain ⟨x, hx1, hx5⟩ := y7 (by first | exact h1 | exact Classical.byContradiction h1)
    refine x_aload_n hm rfl rfl ?_
    refine x_getf hm rfl (gI rfl rfl) ?_
    refine x_iload_n hm rfl rfl ?_
    refine x_icmp_le hm rfl (t := 20) rfl (fun h3 => ?_) (fun h3 => ?_)
    · have hle := h3
      first
        | exact l111g hx hx5 hx1 (by rw [← hx5]; exact hle)
        | exact l111f ⟨r1.1, _, _, r1.2.1⟩ r1.2.2.1
        | exact l111f ⟨r2.1, _, _, r2.2.1⟩ r2.2.2.1
        | exact l111f ⟨r3.1, _, _, r3.2.1⟩ r3.2.2.1
        | exact l111f ⟨r4.1, _, _, r4.2.1⟩ r4.2.2.1
        | exact l111f ⟨r5.1, _, _, r5.2.1⟩ r5.2.2.1
        | exact l111f ⟨r6.1, _, _, r6.2.1⟩ r6.2.2.1
        | exact l111f ⟨r7.1, _, _, r7.2.1⟩ r7.2.2.1
        | exact l111f ⟨r8.1, _, _, r8.2.1⟩ r8.2.2.1
    · refine x_aload_n hm rfl rfl ?_
      refine x_cVv hm rfl rfl (t112 hx) (fun M4 r4 => ?_)
      first
        | exact l111f ⟨r4.1, _, _, r4.2.1⟩ r4.2.2.1
        | exact l111g hx hx5 hx1 (by rw [← hx5]; exact hle)
        | exact l111f ⟨r1.1, _, _, r1.2.1⟩ r1.2.2.1
        | exact l111f ⟨r2.1, _, _, r2.2.1⟩ r2.2.2.1
        | exact l111f ⟨r3.1, _, _, r3.2.1⟩ r3.2.2.1
        | exact l111f ⟨r5.1, _, _, r5.2.1⟩ r5.2.2.1
        | exact l111f ⟨r6.1, _, _, r6.2.1⟩ r6.2.2.1
        | exact l111f ⟨r7.1, _, _, r7.2.1⟩ r7.2.2.1
        | exact l111f ⟨r8.1, _, _, r8.2.1⟩ r8.2.2.1
theorem l97 {s e c t : Nat} (hx : Cx s e c M) (ht : t < 15) (hlen : e - s = (mTx.getD t []).length) : ∀ (n k : Nat), (mTx.getD t []).length - k < n → k ≤ (mTx.getD t []).length → mEv X (QE M (fun v => v = nI 0 ∨ v = nI 1)) 97 28 [some (.ref 52), some (.ref (1000000 + t)), some (.int (nI k))] [] (con M) := by
  have hm : mMet 97 = some _ := rfl
  intro n
  induction n with
  | zero =>
    intro k hkn hkb
    omega
  | succ n ih =>
    intro k hkn hkb
    have hle := mTx_le t
    obtain ⟨y1, y2, y3, y4, y5, y6, y7⟩ := id hx
    refine x_iload_n hm rfl rfl ?_
    refine x_aload_n hm rfl rfl ?_
    refine x_libV hm rfl (len_call ht rfl) ?_
    dsimp only
    refine x_icmp_ge hm rfl (t := 63) rfl (fun h1 => ?_) (fun h1 => ?_)
    · refine x_iconst hm rfl (v := nI 1) (by decide) ?_
      refine x_iret hm rfl rfl (by first | rfl | exact bI_nar | decide) ?_
      exact ⟨_, rfl, rfl, by first | exact Or.inl rfl | exact Or.inr rfl⟩
    · have hk : k < (mTx.getD t []).length := Nat.lt_of_not_le fun h => h1 (nI_le h (by omega))
      refine x_aload_n hm rfl rfl ?_
      refine x_getf hm rfl (gR rfl rfl) ?_
      refine x_aload_n hm rfl rfl ?_
      refine x_getf hm rfl (gI rfl rfl) ?_
      rw [y1]
      refine x_iload_n hm rfl rfl ?_
      refine x_iadd hm rfl ?_
      rw [jI_add]
      refine x_bald hm rfl (lB rfl (by omega) (by decide)) ?_
      refine x_aload_n hm rfl rfl ?_
      refine x_iload_n hm rfl rfl ?_
      refine x_libV hm rfl (chr_call ht rfl hk) ?_
      dsimp only
      refine x_icmp_eq hm rfl (t := 57) rfl (fun h2 => ?_) (fun h2 => ?_)
      · refine x_iinc hm rfl rfl (v := nI 1) (by decide) rfl ?_
        rw [jI_add]
        refine x_goto hm rfl (t := 28) rfl ?_
        exact ih _ (by omega) (by omega)
      · refine x_iconst hm rfl (v := nI 0) (by decide) ?_
        refine x_iret hm rfl rfl (by first | rfl | exact bI_nar | decide) ?_
        exact ⟨_, rfl, rfl, by first | exact Or.inl rfl | exact Or.inr rfl⟩
theorem t97 {s e c t : Nat} (hx : Cx s e c M) (ht : t < 15) : ∃ v, mT X 97 [.ref 52, .ref (1000000 + t)] (con M) (some (.int v)) (con M) ∧ (v = nI 0 ∨ v = nI 1) := by
  refine te_of (row := _) rfl (Nat.le_of_ble_eq_true rfl) ?_
  have hm : mMet 97 = some _ := rfl
  have hle := mTx_le t
  obtain ⟨y1, y2, y3, y4, y5, y6, y7⟩ := id hx
  refine x_aload_n hm rfl rfl ?_
  refine x_getf hm rfl (gI rfl rfl) ?_
  refine x_iconst hm rfl (v := nI 1) (by decide) ?_
  refine x_icmp_ne hm rfl (t := 24) rfl (fun h1 => ?_) (fun h1 => ?_)
  · refine x_iconst hm rfl (v := nI 0) (by decide) ?_
    refine x_iret hm rfl rfl (by first | rfl | exact bI_nar | decide) ?_
    exact ⟨_, rfl, rfl, by first | exact Or.inl rfl | exact Or.inr rfl⟩
  · refine x_aload_n hm rfl rfl ?_
    refine x_getf hm rfl (gI rfl rfl) ?_
    rw [y2]
    refine x_aload_n hm rfl rfl ?_
    refine x_getf hm rfl (gI rfl rfl) ?_
    rw [y1]
    refine x_isub hm rfl ?_
    rw [subI y4]
    refine x_aload_n hm rfl rfl ?_
    refine x_libV hm rfl (len_call ht rfl) ?_
    dsimp only
    refine x_icmp_eq hm rfl (t := 26) rfl (fun h2 => ?_) (fun h2 => ?_)
    · have hlen := jI_inj (by omega) (by omega) h2
      refine x_iconst hm rfl (v := nI 0) (by decide) ?_
      refine x_istore_n hm rfl rfl ?_
      exact l97 hx ht hlen _ 0 (Nat.lt_succ_self _) (Nat.zero_le _)
    · refine x_iconst hm rfl (v := nI 0) (by decide) ?_
      refine x_iret hm rfl rfl (by first | rfl | exact bI_nar | decide) ?_
      exact ⟨_, rfl, rfl, by first | exact Or.inl rfl | exact Or.inr rfl⟩
theorem t96 {k : Nat} (hk : k < 7) : mT X 96 [.int (nI k)] (con M) (some (.ref (1000000 + kt k))) (con M) := by
  refine mT.of (row := _) rfl (Nat.le_of_ble_eq_true rfl) ?_
  have hm : mMet 96 = some _ := rfl
  refine x_iload_n hm rfl rfl ?_
  refine x_ts hm rfl (fun h1 => ⟨58, rfl, ?_⟩) (fun i1 h1 g1 => ?_)
  · refine x_ldcS hm rfl ?_
    refine x_aret hm rfl rfl ?_
    have e : k = 0 := by
      have := jI_int (k := k) (by omega)
      omega
    subst e
    exact ⟨rfl, rfl⟩
  · have k1 : i1 = 0 ∨ i1 = 1 ∨ i1 = 2 ∨ i1 = 3 ∨ i1 = 4 ∨ i1 = 5 := by omega
    rcases k1 with rfl | rfl | rfl | rfl | rfl | rfl
    · refine ⟨_, 40, rfl, rfl, ?_⟩
      refine x_ldcS hm rfl ?_
      refine x_aret hm rfl rfl ?_
      have e : k = 1 := by
        have := jI_int (k := k) (by omega)
        omega
      subst e
      exact ⟨rfl, rfl⟩
    · refine ⟨_, 43, rfl, rfl, ?_⟩
      refine x_ldcS hm rfl ?_
      refine x_aret hm rfl rfl ?_
      have e : k = 2 := by
        have := jI_int (k := k) (by omega)
        omega
      subst e
      exact ⟨rfl, rfl⟩
    · refine ⟨_, 46, rfl, rfl, ?_⟩
      refine x_ldcS hm rfl ?_
      refine x_aret hm rfl rfl ?_
      have e : k = 3 := by
        have := jI_int (k := k) (by omega)
        omega
      subst e
      exact ⟨rfl, rfl⟩
    · refine ⟨_, 49, rfl, rfl, ?_⟩
      refine x_ldcS hm rfl ?_
      refine x_aret hm rfl rfl ?_
      have e : k = 4 := by
        have := jI_int (k := k) (by omega)
        omega
      subst e
      exact ⟨rfl, rfl⟩
    · refine ⟨_, 52, rfl, rfl, ?_⟩
      refine x_ldcS hm rfl ?_
      refine x_aret hm rfl rfl ?_
      have e : k = 5 := by
        have := jI_int (k := k) (by omega)
        omega
      subst e
      exact ⟨rfl, rfl⟩
    · refine ⟨_, 55, rfl, rfl, ?_⟩
      refine x_ldcS hm rfl ?_
      refine x_aret hm rfl rfl ?_
      have e : k = 6 := by
        have := jI_int (k := k) (by omega)
        omega
      subst e
      exact ⟨rfl, rfl⟩
theorem l95 {s e c : Nat} (hx : Cx s e c M) : ∀ (n k : Nat), 7 - k < n → k ≤ 7 → mEv X (QE M (fun v => (v = -1 ∨ ∃ k, k < 7 ∧ v = nI k))) 95 2 [some (.ref 52), some (.int (nI k))] [] (con M) := by
  have hm : mMet 95 = some _ := rfl
  intro n
  induction n with
  | zero =>
    intro k hkn hkb
    omega
  | succ n ih =>
    intro k hkn hkb
    refine x_iload_n hm rfl rfl ?_
    refine x_bipush hm rfl (v := nI 7) (by decide) ?_
    refine x_icmp_ge hm rfl (t := 27) rfl (fun h1 => ?_) (fun h1 => ?_)
    · refine x_iconst hm rfl (v := (-1 : Int32)) (by decide) ?_
      refine x_iret hm rfl rfl (by first | rfl | exact bI_nar | decide) ?_
      first
        | exact ⟨_, rfl, rfl, Or.inl rfl⟩
        | exact ⟨_, rfl, rfl, Or.inr ⟨k, hk, rfl⟩⟩
    · have hk : k < 7 := Nat.lt_of_not_le fun h => h1 (nI_le h (by omega))
      refine x_aload_n hm rfl rfl ?_
      refine x_iload_n hm rfl rfl ?_
      refine x_callS hm rfl rfl (t96 hk) ?_
      refine x_cVe hm rfl rfl (t97 hx (kt_lt hk)) (fun v2 r2 => ?_)
      refine x_if_eq hm rfl (t := 21) rfl (fun h3 => ?_) (fun h3 => ?_)
      · refine x_iinc hm rfl rfl (v := nI 1) (by decide) rfl ?_
        rw [jI_add]
        refine x_goto hm rfl (t := 2) rfl ?_
        exact ih _ (by omega) (by omega)
      · refine x_iload_n hm rfl rfl ?_
        refine x_iret hm rfl rfl (by first | rfl | exact bI_nar | decide) ?_
        first
          | exact ⟨_, rfl, rfl, Or.inl rfl⟩
          | exact ⟨_, rfl, rfl, Or.inr ⟨k, hk, rfl⟩⟩
theorem t95 {s e c : Nat} (hx : Cx s e c M) : ∃ v, mT X 95 [.ref 52] (con M) (some (.int v)) (con M) ∧ (v = -1 ∨ ∃ k, k < 7 ∧ v = nI k) := by
  refine te_of (row := _) rfl (Nat.le_of_ble_eq_true rfl) ?_
  have hm : mMet 95 = some _ := rfl
  refine x_iconst hm rfl (v := nI 0) (by decide) ?_
  refine x_istore_n hm rfl rfl ?_
  exact l95 hx _ 0 (Nat.lt_succ_self _) (Nat.zero_le _)
theorem l110 {c : Nat} {m w x : Int32} {t : Nat} {M0 : mM} (hL : Lc M0 M) {s2 e2 : Nat} (hx2 : Cx s2 e2 c M) : mEv X (QI (fun v M' => Cy c M0 M' ∧ (v = w ∨ (∃ x, v = nI x ∧ (x = 0 ∨ (nI x ≤ m ∧ x ≤ 1000)))))) 110 22 [some (.ref 52), some (.ref t), some (.int m), some (.int w)] [] (con M) := by
  have hm : mMet 110 = some _ := rfl
  refine x_aload_n hm rfl rfl ?_
  refine x_iload_n hm rfl rfl ?_
  refine x_cVi hm rfl rfl (t111 hx2) (fun v1 M1 r1 => ?_)
  refine x_iret hm rfl rfl (by first | rfl | exact bI_nar | decide) ?_
  exact ⟨_, _, rfl, rfl, ⟨hL.trans r1.1.1, r1.1.2⟩, Or.inr r1.2⟩
theorem t110 {s e c t : Nat} {m w : Int32} (hx : Cx s e c M) (ht : t < 15) : ∃ v M', mT X 110 [.ref 52, .ref (1000000 + t), .int m, .int w] (con M) (some (.int v)) (con M') ∧ Cy c M M' ∧ (v = w ∨ (∃ x, v = nI x ∧ (x = 0 ∨ (nI x ≤ m ∧ x ≤ 1000)))) := by
  refine ti_of (row := _) rfl (Nat.le_of_ble_eq_true rfl) ?_
  have hm : mMet 110 = some _ := rfl
  refine x_aload_n hm rfl rfl ?_
  refine x_getf hm rfl (gI rfl rfl) ?_
  refine x_iconst hm rfl (v := (-1 : Int32)) (by decide) ?_
  refine x_icmp_ne hm rfl (t := 16) rfl (fun h1 => ?_) (fun h1 => ?_)
  · refine x_iload_n hm rfl rfl ?_
    refine x_iret hm rfl rfl (by first | rfl | exact bI_nar | decide) ?_
    exact ⟨_, _, rfl, rfl, ⟨Lc.rf, s, e, hx⟩, Or.inl rfl⟩
  · refine x_aload_n hm rfl rfl ?_
    refine x_aload_n hm rfl rfl ?_
    refine x_cVe hm rfl rfl (t97 hx ht) (fun v2 r2 => ?_)
    refine x_if_ne hm rfl (t := 18) rfl (fun h3 => ?_) (fun h3 => ?_)
    · refine x_aload_n hm rfl rfl ?_
      refine x_cVv hm rfl rfl (t92 hx) (fun M4 r4 => ?_)
      first
        | (obtain ⟨k1, s2, e2, k2⟩ := r4; exact l110 (x := 0) k1 k2)
        | (obtain ⟨k1, s2, e2, k2⟩ := r2; exact l110 (x := 0) k1 k2)
        | (obtain ⟨k1, s2, e2, k2⟩ := r1; exact l110 (x := 0) k1 k2)
        | (obtain ⟨k1, s2, e2, k2⟩ := r3; exact l110 (x := 0) k1 k2)
        | (obtain ⟨k1, s2, e2, k2⟩ := r5; exact l110 (x := 0) k1 k2)
        | (obtain ⟨k1, s2, e2, k2⟩ := r6; exact l110 (x := 0) k1 k2)
        | (obtain ⟨k1, s2, e2, k2⟩ := r7; exact l110 (x := 0) k1 k2)
        | (obtain ⟨k1, s2, e2, k2⟩ := r8; exact l110 (x := 0) k1 k2)
    · refine x_iload_n hm rfl rfl ?_
      refine x_iret hm rfl rfl (by first | rfl | exact bI_nar | decide) ?_
      exact ⟨_, _, rfl, rfl, ⟨Lc.rf, s, e, hx⟩, Or.inl rfl⟩
end CT
end
section
/-! ===== the class: its texts ===== -/
section CU
variable {X : mSc} {Q : Option Value → mHp → Prop} {M : mM}
def addC (M : mM) (n : Nat) (s p : Int32) : mM := mput (mput (mput (mput (mput (mput (mput M 1 3 (nI (n + 1))) 3 n s) 4 n p) 5 n (nI 100)) 6 n (nI 0)) 7 n (-1)) 8 n (-1)
def lkc (M : mM) (n : Nat) : Nat → mM
  | 0 => M
  | i + 1 => mput (lkc M n i) (1 + 9 + (3 + i)) n (nI 1)
def joinC (M : mM) (n : Nat) (k p : Int32) : mM := lkc (mput (mput (mput (mput M 1 4 (nI (n + 1))) 10 n k) 11 n p) 12 n (nI 1)) n 4
theorem u8 {n : Nat} {s p : Int32} (hn : M 1 3 = nI n) (h8 : n < 8) : mT X 8 [.ref 1, .int s, .int p] (con M) (some (.int (nI n))) (con (addC M n s p)) := by
  refine mT.of (row := _) rfl (Nat.le_of_ble_eq_true rfl) ?_
  have hm : mMet 8 = some _ := rfl
  refine x_aload_n hm rfl rfl ?_
  refine x_getf hm rfl (gI rfl rfl) ?_
  rw [hn]
  refine x_istore_n hm rfl rfl ?_
  refine x_aload_n hm rfl rfl ?_
  refine x_dup hm rfl rfl ?_
  refine x_getf hm rfl (gI rfl rfl) ?_
  rw [hn]
  refine x_iconst hm rfl (v := nI 1) (by decide) ?_
  refine x_iadd hm rfl ?_
  rw [jI_add]
  refine x_putf hm rfl (pI rfl rfl (by decide) (by first | exact mFit_int | rfl | decide) rfl) ?_
  refine x_aload_n hm rfl rfl ?_
  refine x_getf hm rfl (gR rfl rfl) ?_
  refine x_iconst hm rfl (v := nI 0) (by decide) ?_
  refine x_aald hm rfl (lQ _ (by decide) rfl rfl (by omega) (by decide)) ?_
  refine x_iload_n hm rfl rfl ?_
  refine x_iload_n hm rfl rfl ?_
  refine x_iast hm rfl (sI rfl (by omega) (by decide)) ?_
  refine x_aload_n hm rfl rfl ?_
  refine x_getf hm rfl (gR rfl rfl) ?_
  refine x_iconst hm rfl (v := nI 1) (by decide) ?_
  refine x_aald hm rfl (lQ _ (by decide) rfl rfl (by omega) (by decide)) ?_
  refine x_iload_n hm rfl rfl ?_
  refine x_iload_n hm rfl rfl ?_
  refine x_iast hm rfl (sI rfl (by omega) (by decide)) ?_
  refine x_aload_n hm rfl rfl ?_
  refine x_getf hm rfl (gR rfl rfl) ?_
  refine x_iconst hm rfl (v := nI 2) (by decide) ?_
  refine x_aald hm rfl (lQ _ (by decide) rfl rfl (by omega) (by decide)) ?_
  refine x_iload_n hm rfl rfl ?_
  refine x_bipush hm rfl (v := nI 100) (by decide) ?_
  refine x_iast hm rfl (sI rfl (by omega) (by decide)) ?_
  refine x_aload_n hm rfl rfl ?_
  refine x_getf hm rfl (gR rfl rfl) ?_
  refine x_iconst hm rfl (v := nI 3) (by decide) ?_
  refine x_aald hm rfl (lQ _ (by decide) rfl rfl (by omega) (by decide)) ?_
  refine x_iload_n hm rfl rfl ?_
  refine x_iconst hm rfl (v := nI 0) (by decide) ?_
  refine x_iast hm rfl (sI rfl (by omega) (by decide)) ?_
  refine x_aload_n hm rfl rfl ?_
  refine x_getf hm rfl (gR rfl rfl) ?_
  refine x_iconst hm rfl (v := nI 4) (by decide) ?_
  refine x_aald hm rfl (lQ _ (by decide) rfl rfl (by omega) (by decide)) ?_
  refine x_iload_n hm rfl rfl ?_
  refine x_iconst hm rfl (v := (-1 : Int32)) (by decide) ?_
  refine x_iast hm rfl (sI rfl (by omega) (by decide)) ?_
  refine x_aload_n hm rfl rfl ?_
  refine x_getf hm rfl (gR rfl rfl) ?_
  refine x_iconst hm rfl (v := nI 5) (by decide) ?_
  refine x_aald hm rfl (lQ _ (by decide) rfl rfl (by omega) (by decide)) ?_
  refine x_iload_n hm rfl rfl ?_
  refine x_iconst hm rfl (v := (-1 : Int32)) (by decide) ?_
  refine x_iast hm rfl (sI rfl (by omega) (by decide)) ?_
  refine x_iload_n hm rfl rfl ?_
  refine x_iret hm rfl rfl (by first | rfl | exact bI_nar | decide) ?_
  exact ⟨rfl, rfl⟩
theorem v23 {n : Nat} {k p : Int32} {M0 : mM} (h8 : n < 8) : ∀ (m i : Nat), 4 - i < m → i ≤ 4 → mEv X (fun r D => r = some (.int (nI n)) ∧ D = con (lkc M0 n 4)) 23 45 [some (.ref 1), some (.int k), some (.int p), some (.int (nI n)), some (.int (nI i))] [] (con (lkc M0 n i)) := by
  have hm : mMet 23 = some _ := rfl
  intro m
  induction m with
  | zero =>
    intro i him hi4
    omega
  | succ m ih =>
    intro i him hi4
    refine x_iload hm rfl rfl ?_
    refine x_iconst hm rfl (v := nI 4) (by decide) ?_
    refine x_icmp_ge hm rfl (t := 69) rfl (fun h1 => ?_) (fun h1 => ?_)
    · obtain rfl : i = 4 := Nat.le_antisymm hi4 ((jI_le (by decide) (by omega)).mp h1)
      refine x_iload_n hm rfl rfl ?_
      refine x_iret hm rfl rfl (by first | rfl | exact bI_nar | decide) ?_
      exact ⟨rfl, rfl⟩
    · have hk : i < 4 := Nat.lt_of_not_le fun h => h1 (nI_le h (by omega))
      refine x_aload_n hm rfl rfl ?_
      refine x_getf hm rfl (gR rfl rfl) ?_
      refine x_iconst hm rfl (v := nI 3) (by decide) ?_
      refine x_iload hm rfl rfl ?_
      refine x_iadd hm rfl ?_
      rw [jI_add]
      refine x_aald hm rfl (lQ 3 (Or.inr (Or.inl rfl)) (tF (b := 1) (by decide)) (tFk (by omega)) (by omega) (by decide)) ?_
      refine x_iload_n hm rfl rfl ?_
      refine x_iconst hm rfl (v := nI 1) (by decide) ?_
      refine x_iast hm rfl (sI (tRowF (b := 1) (by decide) (by omega)) (by omega) (by decide)) ?_
      refine x_iinc hm rfl rfl (v := nI 1) (by decide) rfl ?_
      rw [jI_add]
      refine x_goto hm rfl (t := 45) rfl ?_
      exact ih (i + 1) (by omega) (by omega)
theorem u23 {n : Nat} {k p : Int32} (hn : M 1 4 = nI n) (h8 : n < 8) : mT X 23 [.ref 1, .int k, .int p] (con M) (some (.int (nI n))) (con (joinC M n k p)) := by
  refine mT.of (row := _) rfl (Nat.le_of_ble_eq_true rfl) ?_
  have hm : mMet 23 = some _ := rfl
  refine x_aload_n hm rfl rfl ?_
  refine x_getf hm rfl (gI rfl rfl) ?_
  rw [hn]
  refine x_istore_n hm rfl rfl ?_
  refine x_aload_n hm rfl rfl ?_
  refine x_dup hm rfl rfl ?_
  refine x_getf hm rfl (gI rfl rfl) ?_
  rw [hn]
  refine x_iconst hm rfl (v := nI 1) (by decide) ?_
  refine x_iadd hm rfl ?_
  rw [jI_add]
  refine x_putf hm rfl (pI rfl rfl (by decide) (by first | exact mFit_int | rfl | decide) rfl) ?_
  refine x_aload_n hm rfl rfl ?_
  refine x_getf hm rfl (gR rfl rfl) ?_
  refine x_iconst hm rfl (v := nI 0) (by decide) ?_
  refine x_aald hm rfl (lQ _ (by decide) rfl rfl (by omega) (by decide)) ?_
  refine x_iload_n hm rfl rfl ?_
  refine x_iload_n hm rfl rfl ?_
  refine x_iast hm rfl (sI rfl (by omega) (by decide)) ?_
  refine x_aload_n hm rfl rfl ?_
  refine x_getf hm rfl (gR rfl rfl) ?_
  refine x_iconst hm rfl (v := nI 1) (by decide) ?_
  refine x_aald hm rfl (lQ _ (by decide) rfl rfl (by omega) (by decide)) ?_
  refine x_iload_n hm rfl rfl ?_
  refine x_iload_n hm rfl rfl ?_
  refine x_iast hm rfl (sI rfl (by omega) (by decide)) ?_
  refine x_aload_n hm rfl rfl ?_
  refine x_getf hm rfl (gR rfl rfl) ?_
  refine x_iconst hm rfl (v := nI 2) (by decide) ?_
  refine x_aald hm rfl (lQ _ (by decide) rfl rfl (by omega) (by decide)) ?_
  refine x_iload_n hm rfl rfl ?_
  refine x_iconst hm rfl (v := nI 1) (by decide) ?_
  refine x_iast hm rfl (sI rfl (by omega) (by decide)) ?_
  refine x_iconst hm rfl (v := nI 0) (by decide) ?_
  refine x_istore hm rfl rfl ?_
  exact v23 (M0 := mput (mput (mput (mput M 1 4 (nI (n + 1))) 10 n k) 11 n p) 12 n (nI 1)) h8 _ 0 (Nat.lt_succ_self _) (Nat.zero_le _)
def Cp (c nt np : Nat) (M0 M : mM) : Prop := Bq 1 M0 M ∧ (∃ s e, Cx s e c M) ∧ M 1 3 = nI nt ∧ M 1 4 = nI np
theorem Cp.lc {c nt np : Nat} {M0 M1 : mM} (h : Cp c nt np M0 M) (hL : Lc M M1) (hx : ∃ s e, Cx s e c M1) : Cp c nt np M0 M1 := ⟨h.1.trans hL.bq, hx, (hL 1 3 (by omega)).trans h.2.2.1, (hL 1 4 (by omega)).trans h.2.2.2⟩
theorem Cx.of {s e c : Nat} {M1 : mM} (h : Cx s e c M) (e2 : M1 52 = M 52) : Cx s e c M1 := by
  unfold Cx at h ⊢
  rw [e2]
  exact h
theorem Cp.row {c nt np j x : Nat} {v : Int32} {M0 : mM} (h : Cp c nt np M0 M) (h1 : 1 ≤ j) (h2 : j ≤ 16) (hv : okx (if j = 2 then 3 else if j = 6 ∨ j = 7 ∨ j = 16 then 2 else 0) v) : Cp c nt np M0 (mput M (1 + j) x v) := by
  obtain ⟨g1, ⟨s, e, g2⟩, g3, g4⟩ := h
  have t := Tw.row (M := M) (x := x) (v := v) (Or.inl rfl : (1 : Nat) = 1 ∨ (1 : Nat) = 18 ∨ (1 : Nat) = 35) h1 h2 hv
  exact ⟨g1.trans t.bq, ⟨s, e, g2.of (mpo (by omega))⟩, (t.2.2 1 (Or.inl rfl)).1.trans g3, (t.2.2 1 (Or.inl rfl)).2.trans g4⟩
theorem Cp.fld {c nt np x : Nat} {v : Int32} {M0 : mM} (h : Cp c nt np M0 M) (hv : okx (if x = 3 ∨ x = 4 then 1 else 0) v) : Bq 1 M0 (mput M 1 x v) := h.1.trans (Bq.fld (Or.inl rfl) hv)
theorem Cp.n3 {c nt np : Nat} {M0 : mM} (h : Cp c nt np M0 M) (h8 : nt < 8) : Cp c (nt + 1) np M0 (mput M 1 3 (nI (nt + 1))) := by
  obtain ⟨s, e, g2⟩ := h.2.1
  exact ⟨h.fld (okI1 (by omega)), ⟨s, e, g2.of (mpo (by decide))⟩, mp0, (mpf (by decide)).trans h.2.2.2⟩
theorem Cp.n4 {c nt np : Nat} {M0 : mM} (h : Cp c nt np M0 M) (h8 : np < 8) : Cp c nt (np + 1) M0 (mput M 1 4 (nI (np + 1))) := by
  obtain ⟨s, e, g2⟩ := h.2.1
  exact ⟨h.fld (okI1 (by omega)), ⟨s, e, g2.of (mpo (by decide))⟩, (mpf (by decide)).trans h.2.2.1, mp0⟩
theorem Cp.addC {c nt np : Nat} {M0 : mM} {s p : Int32} (h : Cp c nt np M0 M) (h8 : nt < 8) (hs : okx 3 s) : Cp c (nt + 1) np M0 (addC M nt s p) :=
  (((((((h.n3 h8).row (j := 2) (by decide) (by decide) hs).row (j := 3) (by decide) (by decide) trivial).row (j := 4) (by decide) (by decide) trivial).row (j := 5) (by decide) (by decide) trivial).row (j := 6) (by decide) (by decide) okM1).row (j := 7) (by decide) (by decide) okM1)
theorem Cp.lkc {c nt np n : Nat} {M0 : mM} (h : Cp c nt np M0 M) : ∀ i, i ≤ 4 → Cp c nt np M0 (lkc M n i) := by
  intro i
  induction i with
  | zero => intro _; exact h
  | succ i ih =>
    intro hi
    have := (ih (by omega)).row (j := 9 + (3 + i)) (x := n) (v := nI 1) (by omega) (by omega) (by rw [if_neg (by omega), if_neg (by omega)]; trivial)
    rw [← Nat.add_assoc] at this
    exact this
theorem Cp.joinC {c nt np : Nat} {M0 : mM} {k p : Int32} (h : Cp c nt np M0 M) (h8 : np < 8) : Cp c nt (np + 1) M0 (joinC M np k p) :=
  Cp.lkc ((((h.n4 h8).row (j := 9) (by decide) (by decide) trivial).row (j := 10) (by decide) (by decide) trivial).row (j := 11) (by decide) (by decide) trivial) 4 (by decide)
theorem w92 {c nt np : Nat} {M0 : mM} (h : Cp c nt np M0 M) : ∃ M', mT X 92 [.ref 52] (con M) none (con M') ∧ Cp c nt np M0 M' := by
  obtain ⟨s, e, hx⟩ := h.2.1
  obtain ⟨M1, h1, h2, h3⟩ := t92 (X := X) hx
  exact ⟨M1, h1, h.lc h2 h3⟩
theorem w112 {c nt np : Nat} {M0 : mM} (h : Cp c nt np M0 M) : ∃ M', mT X 112 [.ref 52] (con M) none (con M') ∧ Cp c nt np M0 M' := by
  obtain ⟨s, e, hx⟩ := h.2.1
  obtain ⟨M1, h1, h2, h3, -⟩ := t112 (X := X) hx
  exact ⟨M1, h1, h.lc h2 ⟨s, e, h3⟩⟩
def Nv (m v : Int32) : Prop := ∃ x, v = nI x ∧ (x = 0 ∨ (nI x ≤ m ∧ x ≤ 1000))
theorem w111 {c nt np : Nat} {M0 : mM} {m : Int32} (h : Cp c nt np M0 M) : ∃ v M', mT X 111 [.ref 52, .int m] (con M) (some (.int v)) (con M') ∧ Cp c nt np M0 M' ∧ Nv m v := by
  obtain ⟨s, e, hx⟩ := h.2.1
  obtain ⟨v, M1, h1, h2, h3⟩ := t111 (X := X) (m := m) hx
  exact ⟨v, M1, h1, h.lc h2.1 h2.2, h3⟩
theorem w110 {c nt np t : Nat} {M0 : mM} {m w : Int32} (ht : t < 15) (h : Cp c nt np M0 M) : ∃ v M', mT X 110 [.ref 52, .ref (1000000 + t), .int m, .int w] (con M) (some (.int v)) (con M') ∧ Cp c nt np M0 M' ∧ (v = w ∨ Nv m v) := by
  obtain ⟨s, e, hx⟩ := h.2.1
  obtain ⟨v, M1, h1, h2, h3⟩ := t110 (X := X) (m := m) (w := w) hx ht
  exact ⟨v, M1, h1, h.lc h2.1 h2.2, h3⟩
theorem w97 {c nt np t : Nat} {M0 : mM} (ht : t < 15) (h : Cp c nt np M0 M) : ∃ v, mT X 97 [.ref 52, .ref (1000000 + t)] (con M) (some (.int v)) (con M) ∧ (v = nI 0 ∨ v = nI 1) := by
  obtain ⟨s, e, hx⟩ := h.2.1
  exact t97 hx ht
theorem w95 {c nt np : Nat} {M0 : mM} (h : Cp c nt np M0 M) : ∃ v, mT X 95 [.ref 52] (con M) (some (.int v)) (con M) ∧ (v = -1 ∨ ∃ k, k < 7 ∧ v = nI k) := by
  obtain ⟨s, e, hx⟩ := h.2.1
  exact t95 hx
theorem nv3 {v : Int32} (h : Nv (nI 3) v) : okx 3 v := by
  obtain ⟨x, rfl, hx⟩ := h
  rcases hx with rfl | ⟨h1, h2⟩
  · exact okI3 (by decide)
  · exact okI3 ((jI_le (by omega) (by decide)).mp h1)
theorem nvn {v : Int32} {n : Nat} (hn : n ≤ 8) (h : v = -1 ∨ Nv (nI n - nI 1) v) : okx 2 v := by
  rcases h with rfl | ⟨x, rfl, hx⟩
  · exact okM1
  · rcases hx with rfl | ⟨h1, h2⟩
    · exact okI2 (by decide)
    · obtain ⟨u, hu, e⟩ := in_k (n := n) rfl (by omega) ⟨(jI_le (by decide) (by omega)).mpr (Nat.zero_le x), h1⟩
      rw [e]
      exact okI2 (by omega)
theorem t113 {c nt np : Nat} {M0 : mM} (h : Cp c nt np M0 M) (h8 : nt < 8) (hp8 : np ≤ 8) : ∃ M', mT X 113 [.ref 52, .ref 1] (con M) none (con M') ∧ Cp c (nt + 1) np M0 M' := by
  refine tv_of (row := _) rfl (Nat.le_of_ble_eq_true rfl) ?_
  have hm : mMet 113 = some _ := rfl
  refine x_aload_n hm rfl rfl ?_
  refine x_cVv hm rfl rfl (w92 (by assumption)) (fun M1 r1 => ?_)
  refine x_aload_n hm rfl rfl ?_
  refine x_iconst hm rfl (v := nI 3) (by decide) ?_
  refine x_cVi hm rfl rfl (w111 (by assumption)) (fun v2 M2 r2 => ?_)
  first
    | have a1 := r15.1
    | have a1 := r14.1
    | have a1 := r13.1
    | have a1 := r12.1
    | have a1 := r11.1
    | have a1 := r10.1
    | have a1 := r9.1
    | have a1 := r8.1
    | have a1 := r7.1
    | have a1 := r6.1
    | have a1 := r5.1
    | have a1 := r4.1
    | have a1 := r3.1
    | have a1 := r2.1
    | have a1 := r1.1
  first
    | have q1 := nv3 r15.2
    | have q1 := nv3 r14.2
    | have q1 := nv3 r13.2
    | have q1 := nv3 r12.2
    | have q1 := nv3 r11.2
    | have q1 := nv3 r10.2
    | have q1 := nv3 r9.2
    | have q1 := nv3 r8.2
    | have q1 := nv3 r7.2
    | have q1 := nv3 r6.2
    | have q1 := nv3 r5.2
    | have q1 := nv3 r4.2
    | have q1 := nv3 r3.2
    | have q1 := nv3 r2.2
    | have q1 := nv3 r1.2
  refine x_istore_n hm rfl rfl ?_
  refine x_aload_n hm rfl rfl ?_
  refine x_ldcS hm rfl ?_
  refine x_bipush hm rfl (v := nI 15) (by decide) ?_
  refine x_iconst hm rfl (v := nI 0) (by decide) ?_
  refine x_cVi hm rfl rfl (w110 (by decide) (by assumption)) (fun v3 M3 r3 => ?_)
  first
    | have a2 := r3.1
    | have a2 := r2.1
    | have a2 := r1.1
    | have a2 := r15.1
    | have a2 := r14.1
    | have a2 := r13.1
    | have a2 := r12.1
    | have a2 := r11.1
    | have a2 := r10.1
    | have a2 := r9.1
    | have a2 := r8.1
    | have a2 := r7.1
    | have a2 := r6.1
    | have a2 := r5.1
    | have a2 := r4.1
  refine x_istore_n hm rfl rfl ?_
  refine x_aload_n hm rfl rfl ?_
  refine x_ldcS hm rfl ?_
  refine x_sipush hm rfl (v := nI 999) (by decide) ?_
  refine x_bipush hm rfl (v := nI 100) (by decide) ?_
  refine x_cVi hm rfl rfl (w110 (by decide) (by assumption)) (fun v4 M4 r4 => ?_)
  first
    | have a3 := r4.1
    | have a3 := r3.1
    | have a3 := r2.1
    | have a3 := r1.1
    | have a3 := r15.1
    | have a3 := r14.1
    | have a3 := r13.1
    | have a3 := r12.1
    | have a3 := r11.1
    | have a3 := r10.1
    | have a3 := r9.1
    | have a3 := r8.1
    | have a3 := r7.1
    | have a3 := r6.1
    | have a3 := r5.1
  refine x_istore hm rfl rfl ?_
  refine x_aload_n hm rfl rfl ?_
  refine x_ldcS hm rfl ?_
  refine x_bipush hm rfl (v := nI 9) (by decide) ?_
  refine x_iconst hm rfl (v := nI 0) (by decide) ?_
  refine x_cVi hm rfl rfl (w110 (by decide) (by assumption)) (fun v5 M5 r5 => ?_)
  first
    | have a4 := r5.1
    | have a4 := r4.1
    | have a4 := r3.1
    | have a4 := r2.1
    | have a4 := r1.1
    | have a4 := r15.1
    | have a4 := r14.1
    | have a4 := r13.1
    | have a4 := r12.1
    | have a4 := r11.1
    | have a4 := r10.1
    | have a4 := r9.1
    | have a4 := r8.1
    | have a4 := r7.1
    | have a4 := r6.1
  refine x_istore hm rfl rfl ?_
  refine x_aload_n hm rfl rfl ?_
  refine x_ldcS hm rfl ?_
  refine x_aload_n hm rfl rfl ?_
  refine x_getf hm rfl (gI rfl rfl) ?_
  rw [a4.2.2.2]
  refine x_iconst hm rfl (v := nI 1) (by decide) ?_
  refine x_isub hm rfl ?_
  refine x_iconst hm rfl (v := (-1 : Int32)) (by decide) ?_
  refine x_cVi hm rfl rfl (w110 (by decide) (by assumption)) (fun v6 M6 r6 => ?_)
  first
    | have a5 := r15.1
    | have a5 := r14.1
    | have a5 := r13.1
    | have a5 := r12.1
    | have a5 := r11.1
    | have a5 := r10.1
    | have a5 := r9.1
    | have a5 := r8.1
    | have a5 := r7.1
    | have a5 := r6.1
    | have a5 := r5.1
    | have a5 := r4.1
    | have a5 := r3.1
    | have a5 := r2.1
    | have a5 := r1.1
  first
    | have q5 := nvn hp8 r15.2
    | have q5 := nvn hp8 r14.2
    | have q5 := nvn hp8 r13.2
    | have q5 := nvn hp8 r12.2
    | have q5 := nvn hp8 r11.2
    | have q5 := nvn hp8 r10.2
    | have q5 := nvn hp8 r9.2
    | have q5 := nvn hp8 r8.2
    | have q5 := nvn hp8 r7.2
    | have q5 := nvn hp8 r6.2
    | have q5 := nvn hp8 r5.2
    | have q5 := nvn hp8 r4.2
    | have q5 := nvn hp8 r3.2
    | have q5 := nvn hp8 r2.2
    | have q5 := nvn hp8 r1.2
  refine x_istore hm rfl rfl ?_
  refine x_aload_n hm rfl rfl ?_
  refine x_ldcS hm rfl ?_
  refine x_aload_n hm rfl rfl ?_
  refine x_getf hm rfl (gI rfl rfl) ?_
  rw [a5.2.2.1]
  refine x_iconst hm rfl (v := nI 1) (by decide) ?_
  refine x_isub hm rfl ?_
  refine x_iconst hm rfl (v := (-1 : Int32)) (by decide) ?_
  refine x_cVi hm rfl rfl (w110 (by decide) (by assumption)) (fun v7 M7 r7 => ?_)
  first
    | have a6 := r15.1
    | have a6 := r14.1
    | have a6 := r13.1
    | have a6 := r12.1
    | have a6 := r11.1
    | have a6 := r10.1
    | have a6 := r9.1
    | have a6 := r8.1
    | have a6 := r7.1
    | have a6 := r6.1
    | have a6 := r5.1
    | have a6 := r4.1
    | have a6 := r3.1
    | have a6 := r2.1
    | have a6 := r1.1
  first
    | have q6 := nvn (Nat.le_of_lt h8) r15.2
    | have q6 := nvn (Nat.le_of_lt h8) r14.2
    | have q6 := nvn (Nat.le_of_lt h8) r13.2
    | have q6 := nvn (Nat.le_of_lt h8) r12.2
    | have q6 := nvn (Nat.le_of_lt h8) r11.2
    | have q6 := nvn (Nat.le_of_lt h8) r10.2
    | have q6 := nvn (Nat.le_of_lt h8) r9.2
    | have q6 := nvn (Nat.le_of_lt h8) r8.2
    | have q6 := nvn (Nat.le_of_lt h8) r7.2
    | have q6 := nvn (Nat.le_of_lt h8) r6.2
    | have q6 := nvn (Nat.le_of_lt h8) r5.2
    | have q6 := nvn (Nat.le_of_lt h8) r4.2
    | have q6 := nvn (Nat.le_of_lt h8) r3.2
    | have q6 := nvn (Nat.le_of_lt h8) r2.2
    | have q6 := nvn (Nat.le_of_lt h8) r1.2
  refine x_istore hm rfl rfl ?_
  refine x_aload_n hm rfl rfl ?_
  refine x_iload_n hm rfl rfl ?_
  refine x_iload_n hm rfl rfl ?_
  refine x_callV hm rfl rfl (u8 a6.2.2.1 h8) ?_
  refine x_istore hm rfl rfl ?_
  refine x_aload_n hm rfl rfl ?_
  refine x_getf hm rfl (gR rfl rfl) ?_
  refine x_iconst hm rfl (v := nI 2) (by decide) ?_
  refine x_aald hm rfl (lQ _ (by decide) rfl rfl (by omega) (by decide)) ?_
  refine x_iload hm rfl rfl ?_
  refine x_iload hm rfl rfl ?_
  refine x_iast hm rfl (sI rfl (by omega) (by decide)) ?_
  refine x_aload_n hm rfl rfl ?_
  refine x_getf hm rfl (gR rfl rfl) ?_
  refine x_iconst hm rfl (v := nI 3) (by decide) ?_
  refine x_aald hm rfl (lQ _ (by decide) rfl rfl (by omega) (by decide)) ?_
  refine x_iload hm rfl rfl ?_
  refine x_iload hm rfl rfl ?_
  refine x_iast hm rfl (sI rfl (by omega) (by decide)) ?_
  refine x_aload_n hm rfl rfl ?_
  refine x_getf hm rfl (gR rfl rfl) ?_
  refine x_iconst hm rfl (v := nI 4) (by decide) ?_
  refine x_aald hm rfl (lQ _ (by decide) rfl rfl (by omega) (by decide)) ?_
  refine x_iload hm rfl rfl ?_
  refine x_iload hm rfl rfl ?_
  refine x_iast hm rfl (sI rfl (by omega) (by decide)) ?_
  refine x_aload_n hm rfl rfl ?_
  refine x_getf hm rfl (gR rfl rfl) ?_
  refine x_iconst hm rfl (v := nI 5) (by decide) ?_
  refine x_aald hm rfl (lQ _ (by decide) rfl rfl (by omega) (by decide)) ?_
  refine x_iload hm rfl rfl ?_
  refine x_iload hm rfl rfl ?_
  refine x_iast hm rfl (sI rfl (by omega) (by decide)) ?_
  refine x_ret hm rfl rfl ?_
  exact ⟨_, rfl, rfl, (((((a6.addC h8 q1).row (j := 4) (by decide) (by decide) trivial).row (j := 5) (by decide) (by decide) trivial).row (j := 6) (by decide) (by decide) q5).row (j := 7) (by decide) (by decide) q6)⟩
theorem l109 {c nt np : Nat} {M0 : mM} {k v3 v4 : Int32} (h8 : np < 8) : ∀ (m i : Nat) (M : mM), 4 - i < m → i ≤ 4 → Cp c nt (np + 1) M0 M → mEv X (QV (fun M' => Cp c nt (np + 1) M0 M')) 109 68 [some (.ref 52), some (.ref 1), some (.int k), some (.int v3), some (.int v4), some (.int (nI np)), some (.int (nI i))] [] (con M) := by
  have hm : mMet 109 = some _ := rfl
  intro m
  induction m with
  | zero =>
    intro i M him hi4 h
    omega
  | succ m ih =>
    intro i M him hi4 h
    refine x_iload hm rfl rfl ?_
    refine x_iconst hm rfl (v := nI 4) (by decide) ?_
    refine x_icmp_ge hm rfl (t := 98) rfl (fun h1 => ?_) (fun h1 => ?_)
    · refine x_ret hm rfl rfl ?_
      exact ⟨_, rfl, rfl, h⟩
    · have hk : i < 4 := Nat.lt_of_not_le fun h => h1 (nI_le h (by omega))
      refine x_aload_n hm rfl rfl ?_
      refine x_getf hm rfl (gR rfl rfl) ?_
      refine x_iconst hm rfl (v := nI 3) (by decide) ?_
      refine x_iload hm rfl rfl ?_
      refine x_iadd hm rfl ?_
      rw [jI_add]
      refine x_aald hm rfl (lQ 3 (Or.inr (Or.inl rfl)) (tF (b := 1) (by decide)) (tFk (by omega)) (by omega) (by decide)) ?_
      refine x_iload hm rfl rfl ?_
      refine x_aload_n hm rfl rfl ?_
      refine x_bipush hm rfl (v := nI 9) (by decide) ?_
      refine x_cVi hm rfl rfl (w111 (by assumption)) (fun v2 M2 r2 => ?_)
      refine x_iast hm rfl (sI (tRowF (b := 1) (by decide) (by omega)) (by omega) (by decide)) ?_
      refine x_iinc hm rfl rfl (v := nI 1) (by decide) rfl ?_
      rw [jI_add]
      refine x_goto hm rfl (t := 68) rfl ?_
      first
        | exact ih _ _ (by omega) (by omega) (by rw [Nat.add_assoc]; exact r2.1.row (by omega) (by omega) (by rw [if_neg (by omega), if_neg (by omega)]; trivial))
        | exact ih _ _ (by omega) (by omega) (by rw [Nat.add_assoc]; exact r5.1.row (by omega) (by omega) (by rw [if_neg (by omega), if_neg (by omega)]; trivial))
        | exact ih _ _ (by omega) (by omega) (by rw [Nat.add_assoc]; exact r4.1.row (by omega) (by omega) (by rw [if_neg (by omega), if_neg (by omega)]; trivial))
        | exact ih _ _ (by omega) (by omega) (by rw [Nat.add_assoc]; exact r3.1.row (by omega) (by omega) (by rw [if_neg (by omega), if_neg (by omega)]; trivial))
        | exact ih _ _ (by omega) (by omega) (by rw [Nat.add_assoc]; exact r1.1.row (by omega) (by omega) (by rw [if_neg (by omega), if_neg (by omega)]; trivial))
theorem t109 {c nt np : Nat} {M0 : mM} (h : Cp c nt np M0 M) {k : Int32} (h8 : np < 8) : ∃ M', mT X 109 [.ref 52, .ref 1, .int k] (con M) none (con M') ∧ Cp c nt (np + 1) M0 M' := by
  refine tv_of (row := _) rfl (Nat.le_of_ble_eq_true rfl) ?_
  have hm : mMet 109 = some _ := rfl
  refine x_aload_n hm rfl rfl ?_
  refine x_cVv hm rfl rfl (w92 (by assumption)) (fun M1 r1 => ?_)
  refine x_aload_n hm rfl rfl ?_
  refine x_ldcS hm rfl ?_
  refine x_bipush hm rfl (v := nI 15) (by decide) ?_
  refine x_iconst hm rfl (v := nI 0) (by decide) ?_
  refine x_cVi hm rfl rfl (w110 (by decide) (by assumption)) (fun v2 M2 r2 => ?_)
  first
    | have a1 := r2.1
    | have a1 := r1.1
    | have a1 := r15.1
    | have a1 := r14.1
    | have a1 := r13.1
    | have a1 := r12.1
    | have a1 := r11.1
    | have a1 := r10.1
    | have a1 := r9.1
    | have a1 := r8.1
    | have a1 := r7.1
    | have a1 := r6.1
    | have a1 := r5.1
    | have a1 := r4.1
    | have a1 := r3.1
  refine x_istore_n hm rfl rfl ?_
  refine x_aload_n hm rfl rfl ?_
  refine x_ldcS hm rfl ?_
  refine x_bipush hm rfl (v := nI 15) (by decide) ?_
  refine x_iconst hm rfl (v := nI 1) (by decide) ?_
  refine x_cVi hm rfl rfl (w110 (by decide) (by assumption)) (fun v3 M3 r3 => ?_)
  first
    | have a2 := r3.1
    | have a2 := r2.1
    | have a2 := r1.1
    | have a2 := r15.1
    | have a2 := r14.1
    | have a2 := r13.1
    | have a2 := r12.1
    | have a2 := r11.1
    | have a2 := r10.1
    | have a2 := r9.1
    | have a2 := r8.1
    | have a2 := r7.1
    | have a2 := r6.1
    | have a2 := r5.1
    | have a2 := r4.1
  refine x_istore hm rfl rfl ?_
  refine x_aload_n hm rfl rfl ?_
  refine x_iload_n hm rfl rfl ?_
  refine x_iload_n hm rfl rfl ?_
  refine x_callV hm rfl rfl (u23 a2.2.2.2 h8) ?_
  refine x_istore hm rfl rfl ?_
  refine x_aload_n hm rfl rfl ?_
  refine x_getf hm rfl (gR rfl rfl) ?_
  refine x_iconst hm rfl (v := nI 2) (by decide) ?_
  refine x_aald hm rfl (lQ _ (by decide) rfl rfl (by omega) (by decide)) ?_
  refine x_iload hm rfl rfl ?_
  refine x_iload hm rfl rfl ?_
  refine x_iast hm rfl (sI rfl (by omega) (by decide)) ?_
  have a3 := (a2.joinC (k := k) (p := v2) h8).row (j := 11) (x := np) (v := v3) (by decide) (by decide) trivial
  refine x_aload_n hm rfl rfl ?_
  refine x_getf hm rfl (gI rfl rfl) ?_
  refine x_iconst hm rfl (v := (-1 : Int32)) (by decide) ?_
  refine x_icmp_ne hm rfl (t := 98) rfl (fun h4 => ?_) (fun h4 => ?_)
  · refine x_ret hm rfl rfl ?_
    exact ⟨_, rfl, rfl, a3⟩
  · refine x_aload_n hm rfl rfl ?_
    refine x_ldcS hm rfl ?_
    refine x_cVe hm rfl rfl (w97 (by decide) (by assumption)) (fun v5 r5 => ?_)
    refine x_if_eq hm rfl (t := 98) rfl (fun h6 => ?_) (fun h6 => ?_)
    · refine x_ret hm rfl rfl ?_
      exact ⟨_, rfl, rfl, a3⟩
    · refine x_aload_n hm rfl rfl ?_
      refine x_cVv hm rfl rfl (w92 (by assumption)) (fun M7 r7 => ?_)
      refine x_iconst hm rfl (v := nI 0) (by decide) ?_
      refine x_istore hm rfl rfl ?_
      first
        | exact l109 h8 _ 0 _ (Nat.lt_succ_self _) (Nat.zero_le _) r7
        | exact l109 h8 _ 0 _ (Nat.lt_succ_self _) (Nat.zero_le _) r5
        | exact l109 h8 _ 0 _ (Nat.lt_succ_self _) (Nat.zero_le _) r3
        | exact l109 h8 _ 0 _ (Nat.lt_succ_self _) (Nat.zero_le _) r2
        | exact l109 h8 _ 0 _ (Nat.lt_succ_self _) (Nat.zero_le _) r1
        | exact l109 h8 _ 0 _ (Nat.lt_succ_self _) (Nat.zero_le _) r15
        | exact l109 h8 _ 0 _ (Nat.lt_succ_self _) (Nat.zero_le _) r14
        | exact l109 h8 _ 0 _ (Nat.lt_succ_self _) (Nat.zero_le _) r13
        | exact l109 h8 _ 0 _ (Nat.lt_succ_self _) (Nat.zero_le _) r12
        | exact l109 h8 _ 0 _ (Nat.lt_succ_self _) (Nat.zero_le _) r11
        | exact l109 h8 _ 0 _ (Nat.lt_succ_self _) (Nat.zero_le _) r10
        | exact l109 h8 _ 0 _ (Nat.lt_succ_self _) (Nat.zero_le _) r9
        | exact l109 h8 _ 0 _ (Nat.lt_succ_self _) (Nat.zero_le _) r8
        | exact l109 h8 _ 0 _ (Nat.lt_succ_self _) (Nat.zero_le _) r6
        | exact l109 h8 _ 0 _ (Nat.lt_succ_self _) (Nat.zero_le _) r4
theorem l91t {c nt np i : Nat} {M0 : mM} {v : Int32} {x4 : Option Value} (hnt : nt ≤ 8) (hnp : np ≤ 8) (hC : Cp c nt np M0 M) (hout : ∀ (nt np : Nat) (v : Int32) (x4 : Option Value) (M : mM), nt ≤ 8 → np ≤ 8 → Cp c nt np M0 M → mEv X (QI (fun _ M' => ∃ nt np, nt ≤ 8 ∧ np ≤ 8 ∧ Cp c nt np M0 M')) 91 18 [some (.ref 52), some (.ref 1), some (.int (nI (i + 1))), some (.int v), x4] [] (con M)) : mEv X (QI (fun _ M' => ∃ nt np, nt ≤ 8 ∧ np ≤ 8 ∧ Cp c nt np M0 M')) 91 89 [some (.ref 52), some (.ref 1), some (.int (nI i)), some (.int v), x4] [] (con M) := by
  have hm : mMet 91 = some _ := rfl
  refine x_iinc hm rfl rfl (v := nI 1) (by decide) rfl ?_
  rw [jI_add]
  refine x_aload_n hm rfl rfl ?_
  refine x_getf hm rfl (gI rfl rfl) ?_
  refine x_iconst hm rfl (v := (-1 : Int32)) (by decide) ?_
  refine x_icmp_ne hm rfl (t := 112) rfl (fun h1 => ?_) (fun h1 => ?_)
  · refine x_iconst hm rfl (v := nI 0) (by decide) ?_
    refine x_istore_n hm rfl rfl ?_
    refine x_iload_n hm rfl rfl ?_
    refine x_if_eq hm rfl (t := 122) rfl (fun h2 => ?_) (fun h2 => ?_)
    · refine x_goto hm rfl (t := 18) rfl ?_
      first
        | exact hout _ _ _ _ _ hnt hnp hC
        | exact hout _ _ _ _ _ hnt hnp r1
        | exact hout _ _ _ _ _ hnt hnp r2
        | exact hout _ _ _ _ _ hnt hnp r3
        | exact hout _ _ _ _ _ hnt hnp r4
        | exact hout _ _ _ _ _ hnt hnp r5
        | exact hout _ _ _ _ _ hnt hnp r6
        | exact hout _ _ _ _ _ hnt hnp r7
        | exact hout _ _ _ _ _ hnt hnp r8
        | exact hout _ _ _ _ _ hnt hnp r9
        | exact hout _ _ _ _ _ hnt hnp r10
        | exact hout _ _ _ _ _ hnt hnp r11
    · refine x_aload_n hm rfl rfl ?_
      refine x_cVv hm rfl rfl (w92 (by assumption)) (fun M3 r3 => ?_)
      refine x_goto hm rfl (t := 18) rfl ?_
      first
        | exact hout _ _ _ _ _ hnt hnp r3
        | exact hout _ _ _ _ _ hnt hnp hC
        | exact hout _ _ _ _ _ hnt hnp r1
        | exact hout _ _ _ _ _ hnt hnp r2
        | exact hout _ _ _ _ _ hnt hnp r4
        | exact hout _ _ _ _ _ hnt hnp r5
        | exact hout _ _ _ _ _ hnt hnp r6
        | exact hout _ _ _ _ _ hnt hnp r7
        | exact hout _ _ _ _ _ hnt hnp r8
        | exact hout _ _ _ _ _ hnt hnp r9
        | exact hout _ _ _ _ _ hnt hnp r10
        | exact hout _ _ _ _ _ hnt hnp r11
  · refine x_aload_n hm rfl rfl ?_
    refine x_getf hm rfl (gI rfl rfl) ?_
    refine x_iconst hm rfl (v := nI 3) (by decide) ?_
    refine x_icmp_ne hm rfl (t := 112) rfl (fun h4 => ?_) (fun h4 => ?_)
    · refine x_iconst hm rfl (v := nI 0) (by decide) ?_
      refine x_istore_n hm rfl rfl ?_
      refine x_iload_n hm rfl rfl ?_
      refine x_if_eq hm rfl (t := 122) rfl (fun h5 => ?_) (fun h5 => ?_)
      · refine x_goto hm rfl (t := 18) rfl ?_
        first
          | exact hout _ _ _ _ _ hnt hnp hC
          | exact hout _ _ _ _ _ hnt hnp r1
          | exact hout _ _ _ _ _ hnt hnp r2
          | exact hout _ _ _ _ _ hnt hnp r3
          | exact hout _ _ _ _ _ hnt hnp r4
          | exact hout _ _ _ _ _ hnt hnp r5
          | exact hout _ _ _ _ _ hnt hnp r6
          | exact hout _ _ _ _ _ hnt hnp r7
          | exact hout _ _ _ _ _ hnt hnp r8
          | exact hout _ _ _ _ _ hnt hnp r9
          | exact hout _ _ _ _ _ hnt hnp r10
          | exact hout _ _ _ _ _ hnt hnp r11
      · refine x_aload_n hm rfl rfl ?_
        refine x_cVv hm rfl rfl (w92 (by assumption)) (fun M6 r6 => ?_)
        refine x_goto hm rfl (t := 18) rfl ?_
        first
          | exact hout _ _ _ _ _ hnt hnp r6
          | exact hout _ _ _ _ _ hnt hnp hC
          | exact hout _ _ _ _ _ hnt hnp r1
          | exact hout _ _ _ _ _ hnt hnp r2
          | exact hout _ _ _ _ _ hnt hnp r3
          | exact hout _ _ _ _ _ hnt hnp r4
          | exact hout _ _ _ _ _ hnt hnp r5
          | exact hout _ _ _ _ _ hnt hnp r7
          | exact hout _ _ _ _ _ hnt hnp r8
          | exact hout _ _ _ _ _ hnt hnp r9
          | exact hout _ _ _ _ _ hnt hnp r10
          | exact hout _ _ _ _ _ hnt hnp r11
    · refine x_iconst hm rfl (v := nI 1) (by decide) ?_
      refine x_goto hm rfl (t := 113) rfl ?_
      refine x_istore_n hm rfl rfl ?_
      refine x_iload_n hm rfl rfl ?_
      refine x_if_eq hm rfl (t := 122) rfl (fun h7 => ?_) (fun h7 => ?_)
      · refine x_goto hm rfl (t := 18) rfl ?_
        first
          | exact hout _ _ _ _ _ hnt hnp hC
          | exact hout _ _ _ _ _ hnt hnp r1
          | exact hout _ _ _ _ _ hnt hnp r2
          | exact hout _ _ _ _ _ hnt hnp r3
          | exact hout _ _ _ _ _ hnt hnp r4
          | exact hout _ _ _ _ _ hnt hnp r5
          | exact hout _ _ _ _ _ hnt hnp r6
          | exact hout _ _ _ _ _ hnt hnp r7
          | exact hout _ _ _ _ _ hnt hnp r8
          | exact hout _ _ _ _ _ hnt hnp r9
          | exact hout _ _ _ _ _ hnt hnp r10
          | exact hout _ _ _ _ _ hnt hnp r11
      · refine x_aload_n hm rfl rfl ?_
        refine x_cVv hm rfl rfl (w92 (by assumption)) (fun M8 r8 => ?_)
        refine x_goto hm rfl (t := 18) rfl ?_
        first
          | exact hout _ _ _ _ _ hnt hnp r8
          | exact hout _ _ _ _ _ hnt hnp hC
          | exact hout _ _ _ _ _ hnt hnp r1
          | exact hout _ _ _ _ _ hnt hnp r2
          | exact hout _ _ _ _ _ hnt hnp r3
          | exact hout _ _ _ _ _ hnt hnp r4
          | exact hout _ _ _ _ _ hnt hnp r5
          | exact hout _ _ _ _ _ hnt hnp r6
          | exact hout _ _ _ _ _ hnt hnp r7
          | exact hout _ _ _ _ _ hnt hnp r9
          | exact hout _ _ _ _ _ hnt hnp r10
          | exact hout _ _ _ _ _ hnt hnp r11
theorem l91e {c nt np : Nat} {M0 : mM} {v w : Int32} {x4 : Option Value} (hnt : nt ≤ 8) (hnp : np ≤ 8) (hC : Cp c nt np M0 M) : mEv X (QI (fun _ M' => ∃ nt np, nt ≤ 8 ∧ np ≤ 8 ∧ Cp c nt np M0 M')) 91 125 [some (.ref 52), some (.ref 1), some (.int w), some (.int v), x4] [] (con M) := by
  have hm : mMet 91 = some _ := rfl
  refine x_aload_n hm rfl rfl ?_
  refine x_getf hm rfl (gI rfl rfl) ?_
  refine x_if_eq hm rfl (t := 136) rfl (fun h1 => ?_) (fun h1 => ?_)
  · refine x_iload_n hm rfl rfl ?_
    refine x_iret hm rfl rfl (by first | rfl | exact bI_nar | decide) ?_
    first
      | exact ⟨_, _, rfl, rfl, nt, np, hnt, hnp, hC⟩
      | exact ⟨_, _, rfl, rfl, nt, np, hnt, hnp, r1⟩
      | exact ⟨_, _, rfl, rfl, nt, np, hnt, hnp, r2⟩
      | exact ⟨_, _, rfl, rfl, nt, np, hnt, hnp, r3⟩
      | exact ⟨_, _, rfl, rfl, nt, np, hnt, hnp, r4⟩
      | exact ⟨_, _, rfl, rfl, nt, np, hnt, hnp, r5⟩
      | exact ⟨_, _, rfl, rfl, nt, np, hnt, hnp, r6⟩
      | exact ⟨_, _, rfl, rfl, nt, np, hnt, hnp, r7⟩
      | exact ⟨_, _, rfl, rfl, nt, np, hnt, hnp, r8⟩
  · refine x_aload_n hm rfl rfl ?_
    refine x_cVv hm rfl rfl (w112 (by assumption)) (fun M2 r2 => ?_)
    refine x_iload_n hm rfl rfl ?_
    refine x_iret hm rfl rfl (by first | rfl | exact bI_nar | decide) ?_
    first
      | exact ⟨_, _, rfl, rfl, nt, np, hnt, hnp, r2⟩
      | exact ⟨_, _, rfl, rfl, nt, np, hnt, hnp, hC⟩
      | exact ⟨_, _, rfl, rfl, nt, np, hnt, hnp, r1⟩
      | exact ⟨_, _, rfl, rfl, nt, np, hnt, hnp, r3⟩
      | exact ⟨_, _, rfl, rfl, nt, np, hnt, hnp, r4⟩
      | exact ⟨_, _, rfl, rfl, nt, np, hnt, hnp, r5⟩
      | exact ⟨_, _, rfl, rfl, nt, np, hnt, hnp, r6⟩
      | exact ⟨_, _, rfl, rfl, nt, np, hnt, hnp, r7⟩
      | exact ⟨_, _, rfl, rfl, nt, np, hnt, hnp, r8⟩
theorem l91 {c : Nat} {M0 : mM} : ∀ (n i nt np : Nat) (v : Int32) (x4 : Option Value) (M : mM), 122 - i < n → i ≤ 121 → nt ≤ 8 → np ≤ 8 → Cp c nt np M0 M → mEv X (QI (fun _ M' => ∃ nt np, nt ≤ 8 ∧ np ≤ 8 ∧ Cp c nt np M0 M')) 91 18 [some (.ref 52), some (.ref 1), some (.int (nI i)), some (.int v), x4] [] (con M) := by
  have hm : mMet 91 = some _ := rfl
  intro n
  induction n with
  | zero =>
    intro i nt np v x4 M hin hi hnt hnp hC
    omega
  | succ n ih =>
    intro i nt np v x4 M hin hi hnt hnp hC
    refine x_iload_n hm rfl rfl ?_
    refine x_if_eq hm rfl (t := 125) rfl (fun h1 => ?_) (fun h1 => ?_)
    · exact l91e hnt hnp hC
    · refine x_iload_n hm rfl rfl ?_
      refine x_bipush hm rfl (v := nI 120) (by decide) ?_
      refine x_icmp_gt hm rfl (t := 125) rfl (fun h2 => ?_) (fun h2 => ?_)
      · exact l91e hnt hnp hC
      · have hi120 : i ≤ 120 := Nat.le_of_not_lt fun h => h2 (nI_lt h (by omega))
        have hout := fun nt np v x4 M h1 h2 h3 => ih (i + 1) nt np v x4 M (by omega) (by omega) h1 h2 h3
        refine x_aload_n hm rfl rfl ?_
        refine x_cVe hm rfl rfl (w95 (by assumption)) (fun v3 r3 => ?_)
        refine x_istore hm rfl rfl ?_
        refine x_iload hm rfl rfl ?_
        refine x_iconst hm rfl (v := (-1 : Int32)) (by decide) ?_
        refine x_icmp_eq hm rfl (t := 59) rfl (fun h4 => ?_) (fun h4 => ?_)
        · refine x_aload_n hm rfl rfl ?_
          refine x_ldcS hm rfl ?_
          refine x_cVe hm rfl rfl (w97 (by decide) (by assumption)) (fun v5 r5 => ?_)
          refine x_if_eq hm rfl (t := 85) rfl (fun h6 => ?_) (fun h6 => ?_)
          · refine x_aload_n hm rfl rfl ?_
            refine x_cVv hm rfl rfl (w112 (by assumption)) (fun M7 r7 => ?_)
            first
              | exact l91t hnt hnp r7 hout
              | exact l91t hnt (Nat.succ_le_of_lt hlt) r7 hout
              | exact l91t (Nat.succ_le_of_lt hlt) hnp r7 hout
              | exact l91t hnt hnp r5 hout
              | exact l91t hnt (Nat.succ_le_of_lt hlt) r5 hout
              | exact l91t (Nat.succ_le_of_lt hlt) hnp r5 hout
              | exact l91t hnt hnp r3 hout
              | exact l91t hnt (Nat.succ_le_of_lt hlt) r3 hout
              | exact l91t (Nat.succ_le_of_lt hlt) hnp r3 hout
              | exact l91t hnt hnp r39 hout
              | exact l91t hnt (Nat.succ_le_of_lt hlt) r39 hout
              | exact l91t (Nat.succ_le_of_lt hlt) hnp r39 hout
              | exact l91t hnt hnp r38 hout
              | exact l91t hnt (Nat.succ_le_of_lt hlt) r38 hout
              | exact l91t (Nat.succ_le_of_lt hlt) hnp r38 hout
              | exact l91t hnt hnp r37 hout
              | exact l91t hnt (Nat.succ_le_of_lt hlt) r37 hout
              | exact l91t (Nat.succ_le_of_lt hlt) hnp r37 hout
              | exact l91t hnt hnp r36 hout
              | exact l91t hnt (Nat.succ_le_of_lt hlt) r36 hout
              | exact l91t (Nat.succ_le_of_lt hlt) hnp r36 hout
              | exact l91t hnt hnp r35 hout
              | exact l91t hnt (Nat.succ_le_of_lt hlt) r35 hout
              | exact l91t (Nat.succ_le_of_lt hlt) hnp r35 hout
              | exact l91t hnt hnp r34 hout
              | exact l91t hnt (Nat.succ_le_of_lt hlt) r34 hout
              | exact l91t (Nat.succ_le_of_lt hlt) hnp r34 hout
              | exact l91t hnt hnp r33 hout
              | exact l91t hnt (Nat.succ_le_of_lt hlt) r33 hout
              | exact l91t (Nat.succ_le_of_lt hlt) hnp r33 hout
              | exact l91t hnt hnp r32 hout
              | exact l91t hnt (Nat.succ_le_of_lt hlt) r32 hout
              | exact l91t (Nat.succ_le_of_lt hlt) hnp r32 hout
              | exact l91t hnt hnp r31 hout
              | exact l91t hnt (Nat.succ_le_of_lt hlt) r31 hout
              | exact l91t (Nat.succ_le_of_lt hlt) hnp r31 hout
              | exact l91t hnt hnp r30 hout
              | exact l91t hnt (Nat.succ_le_of_lt hlt) r30 hout
              | exact l91t (Nat.succ_le_of_lt hlt) hnp r30 hout
              | exact l91t hnt hnp r29 hout
              | exact l91t hnt (Nat.succ_le_of_lt hlt) r29 hout
              | exact l91t (Nat.succ_le_of_lt hlt) hnp r29 hout
              | exact l91t hnt hnp r28 hout
              | exact l91t hnt (Nat.succ_le_of_lt hlt) r28 hout
              | exact l91t (Nat.succ_le_of_lt hlt) hnp r28 hout
              | exact l91t hnt hnp r27 hout
              | exact l91t hnt (Nat.succ_le_of_lt hlt) r27 hout
              | exact l91t (Nat.succ_le_of_lt hlt) hnp r27 hout
              | exact l91t hnt hnp r26 hout
              | exact l91t hnt (Nat.succ_le_of_lt hlt) r26 hout
              | exact l91t (Nat.succ_le_of_lt hlt) hnp r26 hout
              | exact l91t hnt hnp r25 hout
              | exact l91t hnt (Nat.succ_le_of_lt hlt) r25 hout
              | exact l91t (Nat.succ_le_of_lt hlt) hnp r25 hout
              | exact l91t hnt hnp r24 hout
              | exact l91t hnt (Nat.succ_le_of_lt hlt) r24 hout
              | exact l91t (Nat.succ_le_of_lt hlt) hnp r24 hout
              | exact l91t hnt hnp r23 hout
              | exact l91t hnt (Nat.succ_le_of_lt hlt) r23 hout
              | exact l91t (Nat.succ_le_of_lt hlt) hnp r23 hout
              | exact l91t hnt hnp r22 hout
              | exact l91t hnt (Nat.succ_le_of_lt hlt) r22 hout
              | exact l91t (Nat.succ_le_of_lt hlt) hnp r22 hout
              | exact l91t hnt hnp r21 hout
              | exact l91t hnt (Nat.succ_le_of_lt hlt) r21 hout
              | exact l91t (Nat.succ_le_of_lt hlt) hnp r21 hout
              | exact l91t hnt hnp r20 hout
              | exact l91t hnt (Nat.succ_le_of_lt hlt) r20 hout
              | exact l91t (Nat.succ_le_of_lt hlt) hnp r20 hout
              | exact l91t hnt hnp r19 hout
              | exact l91t hnt (Nat.succ_le_of_lt hlt) r19 hout
              | exact l91t (Nat.succ_le_of_lt hlt) hnp r19 hout
              | exact l91t hnt hnp r18 hout
              | exact l91t hnt (Nat.succ_le_of_lt hlt) r18 hout
              | exact l91t (Nat.succ_le_of_lt hlt) hnp r18 hout
              | exact l91t hnt hnp r17 hout
              | exact l91t hnt (Nat.succ_le_of_lt hlt) r17 hout
              | exact l91t (Nat.succ_le_of_lt hlt) hnp r17 hout
              | exact l91t hnt hnp r16 hout
              | exact l91t hnt (Nat.succ_le_of_lt hlt) r16 hout
              | exact l91t (Nat.succ_le_of_lt hlt) hnp r16 hout
              | exact l91t hnt hnp r15 hout
              | exact l91t hnt (Nat.succ_le_of_lt hlt) r15 hout
              | exact l91t (Nat.succ_le_of_lt hlt) hnp r15 hout
              | exact l91t hnt hnp r14 hout
              | exact l91t hnt (Nat.succ_le_of_lt hlt) r14 hout
              | exact l91t (Nat.succ_le_of_lt hlt) hnp r14 hout
              | exact l91t hnt hnp r13 hout
              | exact l91t hnt (Nat.succ_le_of_lt hlt) r13 hout
              | exact l91t (Nat.succ_le_of_lt hlt) hnp r13 hout
              | exact l91t hnt hnp r12 hout
              | exact l91t hnt (Nat.succ_le_of_lt hlt) r12 hout
              | exact l91t (Nat.succ_le_of_lt hlt) hnp r12 hout
              | exact l91t hnt hnp r11 hout
              | exact l91t hnt (Nat.succ_le_of_lt hlt) r11 hout
              | exact l91t (Nat.succ_le_of_lt hlt) hnp r11 hout
              | exact l91t hnt hnp r10 hout
              | exact l91t hnt (Nat.succ_le_of_lt hlt) r10 hout
              | exact l91t (Nat.succ_le_of_lt hlt) hnp r10 hout
              | exact l91t hnt hnp r9 hout
              | exact l91t hnt (Nat.succ_le_of_lt hlt) r9 hout
              | exact l91t (Nat.succ_le_of_lt hlt) hnp r9 hout
              | exact l91t hnt hnp r8 hout
              | exact l91t hnt (Nat.succ_le_of_lt hlt) r8 hout
              | exact l91t (Nat.succ_le_of_lt hlt) hnp r8 hout
              | exact l91t hnt hnp r6 hout
              | exact l91t hnt (Nat.succ_le_of_lt hlt) r6 hout
              | exact l91t (Nat.succ_le_of_lt hlt) hnp r6 hout
              | exact l91t hnt hnp r4 hout
              | exact l91t hnt (Nat.succ_le_of_lt hlt) r4 hout
              | exact l91t (Nat.succ_le_of_lt hlt) hnp r4 hout
              | exact l91t hnt hnp r2 hout
              | exact l91t hnt (Nat.succ_le_of_lt hlt) r2 hout
              | exact l91t (Nat.succ_le_of_lt hlt) hnp r2 hout
              | exact l91t hnt hnp r1 hout
              | exact l91t hnt (Nat.succ_le_of_lt hlt) r1 hout
              | exact l91t (Nat.succ_le_of_lt hlt) hnp r1 hout
          · refine x_aload_n hm rfl rfl ?_
            refine x_getf hm rfl (gI rfl rfl) ?_
            rw [hC.2.2.1]
            refine x_bipush hm rfl (v := nI 8) (by decide) ?_
            refine x_icmp_ge hm rfl (t := 85) rfl (fun h8 => ?_) (fun h8 => ?_)
            · refine x_aload_n hm rfl rfl ?_
              refine x_cVv hm rfl rfl (w112 (by assumption)) (fun M9 r9 => ?_)
              first
                | exact l91t hnt hnp r9 hout
                | exact l91t hnt (Nat.succ_le_of_lt hlt) r9 hout
                | exact l91t (Nat.succ_le_of_lt hlt) hnp r9 hout
                | exact l91t hnt hnp r5 hout
                | exact l91t hnt (Nat.succ_le_of_lt hlt) r5 hout
                | exact l91t (Nat.succ_le_of_lt hlt) hnp r5 hout
                | exact l91t hnt hnp r3 hout
                | exact l91t hnt (Nat.succ_le_of_lt hlt) r3 hout
                | exact l91t (Nat.succ_le_of_lt hlt) hnp r3 hout
                | exact l91t hnt hnp r39 hout
                | exact l91t hnt (Nat.succ_le_of_lt hlt) r39 hout
                | exact l91t (Nat.succ_le_of_lt hlt) hnp r39 hout
                | exact l91t hnt hnp r38 hout
                | exact l91t hnt (Nat.succ_le_of_lt hlt) r38 hout
                | exact l91t (Nat.succ_le_of_lt hlt) hnp r38 hout
                | exact l91t hnt hnp r37 hout
                | exact l91t hnt (Nat.succ_le_of_lt hlt) r37 hout
                | exact l91t (Nat.succ_le_of_lt hlt) hnp r37 hout
                | exact l91t hnt hnp r36 hout
                | exact l91t hnt (Nat.succ_le_of_lt hlt) r36 hout
                | exact l91t (Nat.succ_le_of_lt hlt) hnp r36 hout
                | exact l91t hnt hnp r35 hout
                | exact l91t hnt (Nat.succ_le_of_lt hlt) r35 hout
                | exact l91t (Nat.succ_le_of_lt hlt) hnp r35 hout
                | exact l91t hnt hnp r34 hout
                | exact l91t hnt (Nat.succ_le_of_lt hlt) r34 hout
                | exact l91t (Nat.succ_le_of_lt hlt) hnp r34 hout
                | exact l91t hnt hnp r33 hout
                | exact l91t hnt (Nat.succ_le_of_lt hlt) r33 hout
                | exact l91t (Nat.succ_le_of_lt hlt) hnp r33 hout
                | exact l91t hnt hnp r32 hout
                | exact l91t hnt (Nat.succ_le_of_lt hlt) r32 hout
                | exact l91t (Nat.succ_le_of_lt hlt) hnp r32 hout
                | exact l91t hnt hnp r31 hout
                | exact l91t hnt (Nat.succ_le_of_lt hlt) r31 hout
                | exact l91t (Nat.succ_le_of_lt hlt) hnp r31 hout
                | exact l91t hnt hnp r30 hout
                | exact l91t hnt (Nat.succ_le_of_lt hlt) r30 hout
                | exact l91t (Nat.succ_le_of_lt hlt) hnp r30 hout
                | exact l91t hnt hnp r29 hout
                | exact l91t hnt (Nat.succ_le_of_lt hlt) r29 hout
                | exact l91t (Nat.succ_le_of_lt hlt) hnp r29 hout
                | exact l91t hnt hnp r28 hout
                | exact l91t hnt (Nat.succ_le_of_lt hlt) r28 hout
                | exact l91t (Nat.succ_le_of_lt hlt) hnp r28 hout
                | exact l91t hnt hnp r27 hout
                | exact l91t hnt (Nat.succ_le_of_lt hlt) r27 hout
                | exact l91t (Nat.succ_le_of_lt hlt) hnp r27 hout
                | exact l91t hnt hnp r26 hout
                | exact l91t hnt (Nat.succ_le_of_lt hlt) r26 hout
                | exact l91t (Nat.succ_le_of_lt hlt) hnp r26 hout
                | exact l91t hnt hnp r25 hout
                | exact l91t hnt (Nat.succ_le_of_lt hlt) r25 hout
                | exact l91t (Nat.succ_le_of_lt hlt) hnp r25 hout
                | exact l91t hnt hnp r24 hout
                | exact l91t hnt (Nat.succ_le_of_lt hlt) r24 hout
                | exact l91t (Nat.succ_le_of_lt hlt) hnp r24 hout
                | exact l91t hnt hnp r23 hout
                | exact l91t hnt (Nat.succ_le_of_lt hlt) r23 hout
                | exact l91t (Nat.succ_le_of_lt hlt) hnp r23 hout
                | exact l91t hnt hnp r22 hout
                | exact l91t hnt (Nat.succ_le_of_lt hlt) r22 hout
                | exact l91t (Nat.succ_le_of_lt hlt) hnp r22 hout
                | exact l91t hnt hnp r21 hout
                | exact l91t hnt (Nat.succ_le_of_lt hlt) r21 hout
                | exact l91t (Nat.succ_le_of_lt hlt) hnp r21 hout
                | exact l91t hnt hnp r20 hout
                | exact l91t hnt (Nat.succ_le_of_lt hlt) r20 hout
                | exact l91t (Nat.succ_le_of_lt hlt) hnp r20 hout
                | exact l91t hnt hnp r19 hout
                | exact l91t hnt (Nat.succ_le_of_lt hlt) r19 hout
                | exact l91t (Nat.succ_le_of_lt hlt) hnp r19 hout
                | exact l91t hnt hnp r18 hout
                | exact l91t hnt (Nat.succ_le_of_lt hlt) r18 hout
                | exact l91t (Nat.succ_le_of_lt hlt) hnp r18 hout
                | exact l91t hnt hnp r17 hout
                | exact l91t hnt (Nat.succ_le_of_lt hlt) r17 hout
                | exact l91t (Nat.succ_le_of_lt hlt) hnp r17 hout
                | exact l91t hnt hnp r16 hout
                | exact l91t hnt (Nat.succ_le_of_lt hlt) r16 hout
                | exact l91t (Nat.succ_le_of_lt hlt) hnp r16 hout
                | exact l91t hnt hnp r15 hout
                | exact l91t hnt (Nat.succ_le_of_lt hlt) r15 hout
                | exact l91t (Nat.succ_le_of_lt hlt) hnp r15 hout
                | exact l91t hnt hnp r14 hout
                | exact l91t hnt (Nat.succ_le_of_lt hlt) r14 hout
                | exact l91t (Nat.succ_le_of_lt hlt) hnp r14 hout
                | exact l91t hnt hnp r13 hout
                | exact l91t hnt (Nat.succ_le_of_lt hlt) r13 hout
                | exact l91t (Nat.succ_le_of_lt hlt) hnp r13 hout
                | exact l91t hnt hnp r12 hout
                | exact l91t hnt (Nat.succ_le_of_lt hlt) r12 hout
                | exact l91t (Nat.succ_le_of_lt hlt) hnp r12 hout
                | exact l91t hnt hnp r11 hout
                | exact l91t hnt (Nat.succ_le_of_lt hlt) r11 hout
                | exact l91t (Nat.succ_le_of_lt hlt) hnp r11 hout
                | exact l91t hnt hnp r10 hout
                | exact l91t hnt (Nat.succ_le_of_lt hlt) r10 hout
                | exact l91t (Nat.succ_le_of_lt hlt) hnp r10 hout
                | exact l91t hnt hnp r8 hout
                | exact l91t hnt (Nat.succ_le_of_lt hlt) r8 hout
                | exact l91t (Nat.succ_le_of_lt hlt) hnp r8 hout
                | exact l91t hnt hnp r7 hout
                | exact l91t hnt (Nat.succ_le_of_lt hlt) r7 hout
                | exact l91t (Nat.succ_le_of_lt hlt) hnp r7 hout
                | exact l91t hnt hnp r6 hout
                | exact l91t hnt (Nat.succ_le_of_lt hlt) r6 hout
                | exact l91t (Nat.succ_le_of_lt hlt) hnp r6 hout
                | exact l91t hnt hnp r4 hout
                | exact l91t hnt (Nat.succ_le_of_lt hlt) r4 hout
                | exact l91t (Nat.succ_le_of_lt hlt) hnp r4 hout
                | exact l91t hnt hnp r2 hout
                | exact l91t hnt (Nat.succ_le_of_lt hlt) r2 hout
                | exact l91t (Nat.succ_le_of_lt hlt) hnp r2 hout
                | exact l91t hnt hnp r1 hout
                | exact l91t hnt (Nat.succ_le_of_lt hlt) r1 hout
                | exact l91t (Nat.succ_le_of_lt hlt) hnp r1 hout
            · have hlt : nt < 8 := Nat.lt_of_not_le fun q => h8 (nI_le q (by omega))
              refine x_aload_n hm rfl rfl ?_
              refine x_aload_n hm rfl rfl ?_
              refine x_cVv hm rfl rfl (t113 hC hlt (by omega)) (fun M10 r10 => ?_)
              refine x_goto hm rfl (t := 89) rfl ?_
              first
                | exact l91t hnt hnp r10 hout
                | exact l91t hnt (Nat.succ_le_of_lt hlt) r10 hout
                | exact l91t (Nat.succ_le_of_lt hlt) hnp r10 hout
                | exact l91t hnt hnp r5 hout
                | exact l91t hnt (Nat.succ_le_of_lt hlt) r5 hout
                | exact l91t (Nat.succ_le_of_lt hlt) hnp r5 hout
                | exact l91t hnt hnp r3 hout
                | exact l91t hnt (Nat.succ_le_of_lt hlt) r3 hout
                | exact l91t (Nat.succ_le_of_lt hlt) hnp r3 hout
                | exact l91t hnt hnp r39 hout
                | exact l91t hnt (Nat.succ_le_of_lt hlt) r39 hout
                | exact l91t (Nat.succ_le_of_lt hlt) hnp r39 hout
                | exact l91t hnt hnp r38 hout
                | exact l91t hnt (Nat.succ_le_of_lt hlt) r38 hout
                | exact l91t (Nat.succ_le_of_lt hlt) hnp r38 hout
                | exact l91t hnt hnp r37 hout
                | exact l91t hnt (Nat.succ_le_of_lt hlt) r37 hout
                | exact l91t (Nat.succ_le_of_lt hlt) hnp r37 hout
                | exact l91t hnt hnp r36 hout
                | exact l91t hnt (Nat.succ_le_of_lt hlt) r36 hout
                | exact l91t (Nat.succ_le_of_lt hlt) hnp r36 hout
                | exact l91t hnt hnp r35 hout
                | exact l91t hnt (Nat.succ_le_of_lt hlt) r35 hout
                | exact l91t (Nat.succ_le_of_lt hlt) hnp r35 hout
                | exact l91t hnt hnp r34 hout
                | exact l91t hnt (Nat.succ_le_of_lt hlt) r34 hout
                | exact l91t (Nat.succ_le_of_lt hlt) hnp r34 hout
                | exact l91t hnt hnp r33 hout
                | exact l91t hnt (Nat.succ_le_of_lt hlt) r33 hout
                | exact l91t (Nat.succ_le_of_lt hlt) hnp r33 hout
                | exact l91t hnt hnp r32 hout
                | exact l91t hnt (Nat.succ_le_of_lt hlt) r32 hout
                | exact l91t (Nat.succ_le_of_lt hlt) hnp r32 hout
                | exact l91t hnt hnp r31 hout
                | exact l91t hnt (Nat.succ_le_of_lt hlt) r31 hout
                | exact l91t (Nat.succ_le_of_lt hlt) hnp r31 hout
                | exact l91t hnt hnp r30 hout
                | exact l91t hnt (Nat.succ_le_of_lt hlt) r30 hout
                | exact l91t (Nat.succ_le_of_lt hlt) hnp r30 hout
                | exact l91t hnt hnp r29 hout
                | exact l91t hnt (Nat.succ_le_of_lt hlt) r29 hout
                | exact l91t (Nat.succ_le_of_lt hlt) hnp r29 hout
                | exact l91t hnt hnp r28 hout
                | exact l91t hnt (Nat.succ_le_of_lt hlt) r28 hout
                | exact l91t (Nat.succ_le_of_lt hlt) hnp r28 hout
                | exact l91t hnt hnp r27 hout
                | exact l91t hnt (Nat.succ_le_of_lt hlt) r27 hout
                | exact l91t (Nat.succ_le_of_lt hlt) hnp r27 hout
                | exact l91t hnt hnp r26 hout
                | exact l91t hnt (Nat.succ_le_of_lt hlt) r26 hout
                | exact l91t (Nat.succ_le_of_lt hlt) hnp r26 hout
                | exact l91t hnt hnp r25 hout
                | exact l91t hnt (Nat.succ_le_of_lt hlt) r25 hout
                | exact l91t (Nat.succ_le_of_lt hlt) hnp r25 hout
                | exact l91t hnt hnp r24 hout
                | exact l91t hnt (Nat.succ_le_of_lt hlt) r24 hout
                | exact l91t (Nat.succ_le_of_lt hlt) hnp r24 hout
                | exact l91t hnt hnp r23 hout
                | exact l91t hnt (Nat.succ_le_of_lt hlt) r23 hout
                | exact l91t (Nat.succ_le_of_lt hlt) hnp r23 hout
                | exact l91t hnt hnp r22 hout
                | exact l91t hnt (Nat.succ_le_of_lt hlt) r22 hout
                | exact l91t (Nat.succ_le_of_lt hlt) hnp r22 hout
                | exact l91t hnt hnp r21 hout
                | exact l91t hnt (Nat.succ_le_of_lt hlt) r21 hout
                | exact l91t (Nat.succ_le_of_lt hlt) hnp r21 hout
                | exact l91t hnt hnp r20 hout
                | exact l91t hnt (Nat.succ_le_of_lt hlt) r20 hout
                | exact l91t (Nat.succ_le_of_lt hlt) hnp r20 hout
                | exact l91t hnt hnp r19 hout
                | exact l91t hnt (Nat.succ_le_of_lt hlt) r19 hout
                | exact l91t (Nat.succ_le_of_lt hlt) hnp r19 hout
                | exact l91t hnt hnp r18 hout
                | exact l91t hnt (Nat.succ_le_of_lt hlt) r18 hout
                | exact l91t (Nat.succ_le_of_lt hlt) hnp r18 hout
                | exact l91t hnt hnp r17 hout
                | exact l91t hnt (Nat.succ_le_of_lt hlt) r17 hout
                | exact l91t (Nat.succ_le_of_lt hlt) hnp r17 hout
                | exact l91t hnt hnp r16 hout
                | exact l91t hnt (Nat.succ_le_of_lt hlt) r16 hout
                | exact l91t (Nat.succ_le_of_lt hlt) hnp r16 hout
                | exact l91t hnt hnp r15 hout
                | exact l91t hnt (Nat.succ_le_of_lt hlt) r15 hout
                | exact l91t (Nat.succ_le_of_lt hlt) hnp r15 hout
                | exact l91t hnt hnp r14 hout
                | exact l91t hnt (Nat.succ_le_of_lt hlt) r14 hout
                | exact l91t (Nat.succ_le_of_lt hlt) hnp r14 hout
                | exact l91t hnt hnp r13 hout
                | exact l91t hnt (Nat.succ_le_of_lt hlt) r13 hout
                | exact l91t (Nat.succ_le_of_lt hlt) hnp r13 hout
                | exact l91t hnt hnp r12 hout
                | exact l91t hnt (Nat.succ_le_of_lt hlt) r12 hout
                | exact l91t (Nat.succ_le_of_lt hlt) hnp r12 hout
                | exact l91t hnt hnp r11 hout
                | exact l91t hnt (Nat.succ_le_of_lt hlt) r11 hout
                | exact l91t (Nat.succ_le_of_lt hlt) hnp r11 hout
                | exact l91t hnt hnp r9 hout
                | exact l91t hnt (Nat.succ_le_of_lt hlt) r9 hout
                | exact l91t (Nat.succ_le_of_lt hlt) hnp r9 hout
                | exact l91t hnt hnp r8 hout
                | exact l91t hnt (Nat.succ_le_of_lt hlt) r8 hout
                | exact l91t (Nat.succ_le_of_lt hlt) hnp r8 hout
                | exact l91t hnt hnp r7 hout
                | exact l91t hnt (Nat.succ_le_of_lt hlt) r7 hout
                | exact l91t (Nat.succ_le_of_lt hlt) hnp r7 hout
                | exact l91t hnt hnp r6 hout
                | exact l91t hnt (Nat.succ_le_of_lt hlt) r6 hout
                | exact l91t (Nat.succ_le_of_lt hlt) hnp r6 hout
                | exact l91t hnt hnp r4 hout
                | exact l91t hnt (Nat.succ_le_of_lt hlt) r4 hout
                | exact l91t (Nat.succ_le_of_lt hlt) hnp r4 hout
                | exact l91t hnt hnp r2 hout
                | exact l91t hnt (Nat.succ_le_of_lt hlt) r2 hout
                | exact l91t (Nat.succ_le_of_lt hlt) hnp r2 hout
                | exact l91t hnt hnp r1 hout
                | exact l91t hnt (Nat.succ_le_of_lt hlt) r1 hout
                | exact l91t (Nat.succ_le_of_lt hlt) hnp r1 hout
        · refine x_aload_n hm rfl rfl ?_
          refine x_getf hm rfl (gI rfl rfl) ?_
          rw [hC.2.2.2]
          refine x_bipush hm rfl (v := nI 8) (by decide) ?_
          refine x_icmp_ge hm rfl (t := 59) rfl (fun h11 => ?_) (fun h11 => ?_)
          · refine x_aload_n hm rfl rfl ?_
            refine x_ldcS hm rfl ?_
            refine x_cVe hm rfl rfl (w97 (by decide) (by assumption)) (fun v12 r12 => ?_)
            refine x_if_eq hm rfl (t := 85) rfl (fun h13 => ?_) (fun h13 => ?_)
            · refine x_aload_n hm rfl rfl ?_
              refine x_cVv hm rfl rfl (w112 (by assumption)) (fun M14 r14 => ?_)
              first
                | exact l91t hnt hnp r14 hout
                | exact l91t hnt (Nat.succ_le_of_lt hlt) r14 hout
                | exact l91t (Nat.succ_le_of_lt hlt) hnp r14 hout
                | exact l91t hnt hnp r12 hout
                | exact l91t hnt (Nat.succ_le_of_lt hlt) r12 hout
                | exact l91t (Nat.succ_le_of_lt hlt) hnp r12 hout
                | exact l91t hnt hnp r3 hout
                | exact l91t hnt (Nat.succ_le_of_lt hlt) r3 hout
                | exact l91t (Nat.succ_le_of_lt hlt) hnp r3 hout
                | exact l91t hnt hnp r39 hout
                | exact l91t hnt (Nat.succ_le_of_lt hlt) r39 hout
                | exact l91t (Nat.succ_le_of_lt hlt) hnp r39 hout
                | exact l91t hnt hnp r38 hout
                | exact l91t hnt (Nat.succ_le_of_lt hlt) r38 hout
                | exact l91t (Nat.succ_le_of_lt hlt) hnp r38 hout
                | exact l91t hnt hnp r37 hout
                | exact l91t hnt (Nat.succ_le_of_lt hlt) r37 hout
                | exact l91t (Nat.succ_le_of_lt hlt) hnp r37 hout
                | exact l91t hnt hnp r36 hout
                | exact l91t hnt (Nat.succ_le_of_lt hlt) r36 hout
                | exact l91t (Nat.succ_le_of_lt hlt) hnp r36 hout
                | exact l91t hnt hnp r35 hout
                | exact l91t hnt (Nat.succ_le_of_lt hlt) r35 hout
                | exact l91t (Nat.succ_le_of_lt hlt) hnp r35 hout
                | exact l91t hnt hnp r34 hout
                | exact l91t hnt (Nat.succ_le_of_lt hlt) r34 hout
                | exact l91t (Nat.succ_le_of_lt hlt) hnp r34 hout
                | exact l91t hnt hnp r33 hout
                | exact l91t hnt (Nat.succ_le_of_lt hlt) r33 hout
                | exact l91t (Nat.succ_le_of_lt hlt) hnp r33 hout
                | exact l91t hnt hnp r32 hout
                | exact l91t hnt (Nat.succ_le_of_lt hlt) r32 hout
                | exact l91t (Nat.succ_le_of_lt hlt) hnp r32 hout
                | exact l91t hnt hnp r31 hout
                | exact l91t hnt (Nat.succ_le_of_lt hlt) r31 hout
                | exact l91t (Nat.succ_le_of_lt hlt) hnp r31 hout
                | exact l91t hnt hnp r30 hout
                | exact l91t hnt (Nat.succ_le_of_lt hlt) r30 hout
                | exact l91t (Nat.succ_le_of_lt hlt) hnp r30 hout
                | exact l91t hnt hnp r29 hout
                | exact l91t hnt (Nat.succ_le_of_lt hlt) r29 hout
                | exact l91t (Nat.succ_le_of_lt hlt) hnp r29 hout
                | exact l91t hnt hnp r28 hout
                | exact l91t hnt (Nat.succ_le_of_lt hlt) r28 hout
                | exact l91t (Nat.succ_le_of_lt hlt) hnp r28 hout
                | exact l91t hnt hnp r27 hout
                | exact l91t hnt (Nat.succ_le_of_lt hlt) r27 hout
                | exact l91t (Nat.succ_le_of_lt hlt) hnp r27 hout
                | exact l91t hnt hnp r26 hout
                | exact l91t hnt (Nat.succ_le_of_lt hlt) r26 hout
                | exact l91t (Nat.succ_le_of_lt hlt) hnp r26 hout
                | exact l91t hnt hnp r25 hout
                | exact l91t hnt (Nat.succ_le_of_lt hlt) r25 hout
                | exact l91t (Nat.succ_le_of_lt hlt) hnp r25 hout
                | exact l91t hnt hnp r24 hout
                | exact l91t hnt (Nat.succ_le_of_lt hlt) r24 hout
                | exact l91t (Nat.succ_le_of_lt hlt) hnp r24 hout
                | exact l91t hnt hnp r23 hout
                | exact l91t hnt (Nat.succ_le_of_lt hlt) r23 hout
                | exact l91t (Nat.succ_le_of_lt hlt) hnp r23 hout
                | exact l91t hnt hnp r22 hout
                | exact l91t hnt (Nat.succ_le_of_lt hlt) r22 hout
                | exact l91t (Nat.succ_le_of_lt hlt) hnp r22 hout
                | exact l91t hnt hnp r21 hout
                | exact l91t hnt (Nat.succ_le_of_lt hlt) r21 hout
                | exact l91t (Nat.succ_le_of_lt hlt) hnp r21 hout
                | exact l91t hnt hnp r20 hout
                | exact l91t hnt (Nat.succ_le_of_lt hlt) r20 hout
                | exact l91t (Nat.succ_le_of_lt hlt) hnp r20 hout
                | exact l91t hnt hnp r19 hout
                | exact l91t hnt (Nat.succ_le_of_lt hlt) r19 hout
                | exact l91t (Nat.succ_le_of_lt hlt) hnp r19 hout
                | exact l91t hnt hnp r18 hout
                | exact l91t hnt (Nat.succ_le_of_lt hlt) r18 hout
                | exact l91t (Nat.succ_le_of_lt hlt) hnp r18 hout
                | exact l91t hnt hnp r17 hout
                | exact l91t hnt (Nat.succ_le_of_lt hlt) r17 hout
                | exact l91t (Nat.succ_le_of_lt hlt) hnp r17 hout
                | exact l91t hnt hnp r16 hout
                | exact l91t hnt (Nat.succ_le_of_lt hlt) r16 hout
                | exact l91t (Nat.succ_le_of_lt hlt) hnp r16 hout
                | exact l91t hnt hnp r15 hout
                | exact l91t hnt (Nat.succ_le_of_lt hlt) r15 hout
                | exact l91t (Nat.succ_le_of_lt hlt) hnp r15 hout
                | exact l91t hnt hnp r13 hout
                | exact l91t hnt (Nat.succ_le_of_lt hlt) r13 hout
                | exact l91t (Nat.succ_le_of_lt hlt) hnp r13 hout
                | exact l91t hnt hnp r11 hout
                | exact l91t hnt (Nat.succ_le_of_lt hlt) r11 hout
                | exact l91t (Nat.succ_le_of_lt hlt) hnp r11 hout
                | exact l91t hnt hnp r10 hout
                | exact l91t hnt (Nat.succ_le_of_lt hlt) r10 hout
                | exact l91t (Nat.succ_le_of_lt hlt) hnp r10 hout
                | exact l91t hnt hnp r9 hout
                | exact l91t hnt (Nat.succ_le_of_lt hlt) r9 hout
                | exact l91t (Nat.succ_le_of_lt hlt) hnp r9 hout
                | exact l91t hnt hnp r8 hout
                | exact l91t hnt (Nat.succ_le_of_lt hlt) r8 hout
                | exact l91t (Nat.succ_le_of_lt hlt) hnp r8 hout
                | exact l91t hnt hnp r7 hout
                | exact l91t hnt (Nat.succ_le_of_lt hlt) r7 hout
                | exact l91t (Nat.succ_le_of_lt hlt) hnp r7 hout
                | exact l91t hnt hnp r6 hout
                | exact l91t hnt (Nat.succ_le_of_lt hlt) r6 hout
                | exact l91t (Nat.succ_le_of_lt hlt) hnp r6 hout
                | exact l91t hnt hnp r5 hout
                | exact l91t hnt (Nat.succ_le_of_lt hlt) r5 hout
                | exact l91t (Nat.succ_le_of_lt hlt) hnp r5 hout
                | exact l91t hnt hnp r4 hout
                | exact l91t hnt (Nat.succ_le_of_lt hlt) r4 hout
                | exact l91t (Nat.succ_le_of_lt hlt) hnp r4 hout
                | exact l91t hnt hnp r2 hout
                | exact l91t hnt (Nat.succ_le_of_lt hlt) r2 hout
                | exact l91t (Nat.succ_le_of_lt hlt) hnp r2 hout
                | exact l91t hnt hnp r1 hout
                | exact l91t hnt (Nat.succ_le_of_lt hlt) r1 hout
                | exact l91t (Nat.succ_le_of_lt hlt) hnp r1 hout
            · refine x_aload_n hm rfl rfl ?_
              refine x_getf hm rfl (gI rfl rfl) ?_
              rw [hC.2.2.1]
              refine x_bipush hm rfl (v := nI 8) (by decide) ?_
              refine x_icmp_ge hm rfl (t := 85) rfl (fun h15 => ?_) (fun h15 => ?_)
              · refine x_aload_n hm rfl rfl ?_
                refine x_cVv hm rfl rfl (w112 (by assumption)) (fun M16 r16 => ?_)
                first
                  | exact l91t hnt hnp r16 hout
                  | exact l91t hnt (Nat.succ_le_of_lt hlt) r16 hout
                  | exact l91t (Nat.succ_le_of_lt hlt) hnp r16 hout
                  | exact l91t hnt hnp r12 hout
                  | exact l91t hnt (Nat.succ_le_of_lt hlt) r12 hout
                  | exact l91t (Nat.succ_le_of_lt hlt) hnp r12 hout
                  | exact l91t hnt hnp r3 hout
                  | exact l91t hnt (Nat.succ_le_of_lt hlt) r3 hout
                  | exact l91t (Nat.succ_le_of_lt hlt) hnp r3 hout
                  | exact l91t hnt hnp r39 hout
                  | exact l91t hnt (Nat.succ_le_of_lt hlt) r39 hout
                  | exact l91t (Nat.succ_le_of_lt hlt) hnp r39 hout
                  | exact l91t hnt hnp r38 hout
                  | exact l91t hnt (Nat.succ_le_of_lt hlt) r38 hout
                  | exact l91t (Nat.succ_le_of_lt hlt) hnp r38 hout
                  | exact l91t hnt hnp r37 hout
                  | exact l91t hnt (Nat.succ_le_of_lt hlt) r37 hout
                  | exact l91t (Nat.succ_le_of_lt hlt) hnp r37 hout
                  | exact l91t hnt hnp r36 hout
                  | exact l91t hnt (Nat.succ_le_of_lt hlt) r36 hout
                  | exact l91t (Nat.succ_le_of_lt hlt) hnp r36 hout
                  | exact l91t hnt hnp r35 hout
                  | exact l91t hnt (Nat.succ_le_of_lt hlt) r35 hout
                  | exact l91t (Nat.succ_le_of_lt hlt) hnp r35 hout
                  | exact l91t hnt hnp r34 hout
                  | exact l91t hnt (Nat.succ_le_of_lt hlt) r34 hout
                  | exact l91t (Nat.succ_le_of_lt hlt) hnp r34 hout
                  | exact l91t hnt hnp r33 hout
                  | exact l91t hnt (Nat.succ_le_of_lt hlt) r33 hout
                  | exact l91t (Nat.succ_le_of_lt hlt) hnp r33 hout
                  | exact l91t hnt hnp r32 hout
                  | exact l91t hnt (Nat.succ_le_of_lt hlt) r32 hout
                  | exact l91t (Nat.succ_le_of_lt hlt) hnp r32 hout
                  | exact l91t hnt hnp r31 hout
                  | exact l91t hnt (Nat.succ_le_of_lt hlt) r31 hout
                  | exact l91t (Nat.succ_le_of_lt hlt) hnp r31 hout
                  | exact l91t hnt hnp r30 hout
                  | exact l91t hnt (Nat.succ_le_of_lt hlt) r30 hout
                  | exact l91t (Nat.succ_le_of_lt hlt) hnp r30 hout
                  | exact l91t hnt hnp r29 hout
                  | exact l91t hnt (Nat.succ_le_of_lt hlt) r29 hout
                  | exact l91t (Nat.succ_le_of_lt hlt) hnp r29 hout
                  | exact l91t hnt hnp r28 hout
                  | exact l91t hnt (Nat.succ_le_of_lt hlt) r28 hout
                  | exact l91t (Nat.succ_le_of_lt hlt) hnp r28 hout
                  | exact l91t hnt hnp r27 hout
                  | exact l91t hnt (Nat.succ_le_of_lt hlt) r27 hout
                  | exact l91t (Nat.succ_le_of_lt hlt) hnp r27 hout
                  | exact l91t hnt hnp r26 hout
                  | exact l91t hnt (Nat.succ_le_of_lt hlt) r26 hout
                  | exact l91t (Nat.succ_le_of_lt hlt) hnp r26 hout
                  | exact l91t hnt hnp r25 hout
                  | exact l91t hnt (Nat.succ_le_of_lt hlt) r25 hout
                  | exact l91t (Nat.succ_le_of_lt hlt) hnp r25 hout
                  | exact l91t hnt hnp r24 hout
                  | exact l91t hnt (Nat.succ_le_of_lt hlt) r24 hout
                  | exact l91t (Nat.succ_le_of_lt hlt) hnp r24 hout
                  | exact l91t hnt hnp r23 hout
                  | exact l91t hnt (Nat.succ_le_of_lt hlt) r23 hout
                  | exact l91t (Nat.succ_le_of_lt hlt) hnp r23 hout
                  | exact l91t hnt hnp r22 hout
                  | exact l91t hnt (Nat.succ_le_of_lt hlt) r22 hout
                  | exact l91t (Nat.succ_le_of_lt hlt) hnp r22 hout
                  | exact l91t hnt hnp r21 hout
                  | exact l91t hnt (Nat.succ_le_of_lt hlt) r21 hout
                  | exact l91t (Nat.succ_le_of_lt hlt) hnp r21 hout
                  | exact l91t hnt hnp r20 hout
                  | exact l91t hnt (Nat.succ_le_of_lt hlt) r20 hout
                  | exact l91t (Nat.succ_le_of_lt hlt) hnp r20 hout
                  | exact l91t hnt hnp r19 hout
                  | exact l91t hnt (Nat.succ_le_of_lt hlt) r19 hout
                  | exact l91t (Nat.succ_le_of_lt hlt) hnp r19 hout
                  | exact l91t hnt hnp r18 hout
                  | exact l91t hnt (Nat.succ_le_of_lt hlt) r18 hout
                  | exact l91t (Nat.succ_le_of_lt hlt) hnp r18 hout
                  | exact l91t hnt hnp r17 hout
                  | exact l91t hnt (Nat.succ_le_of_lt hlt) r17 hout
                  | exact l91t (Nat.succ_le_of_lt hlt) hnp r17 hout
                  | exact l91t hnt hnp r15 hout
                  | exact l91t hnt (Nat.succ_le_of_lt hlt) r15 hout
                  | exact l91t (Nat.succ_le_of_lt hlt) hnp r15 hout
                  | exact l91t hnt hnp r14 hout
                  | exact l91t hnt (Nat.succ_le_of_lt hlt) r14 hout
                  | exact l91t (Nat.succ_le_of_lt hlt) hnp r14 hout
                  | exact l91t hnt hnp r13 hout
                  | exact l91t hnt (Nat.succ_le_of_lt hlt) r13 hout
                  | exact l91t (Nat.succ_le_of_lt hlt) hnp r13 hout
                  | exact l91t hnt hnp r11 hout
                  | exact l91t hnt (Nat.succ_le_of_lt hlt) r11 hout
                  | exact l91t (Nat.succ_le_of_lt hlt) hnp r11 hout
                  | exact l91t hnt hnp r10 hout
                  | exact l91t hnt (Nat.succ_le_of_lt hlt) r10 hout
                  | exact l91t (Nat.succ_le_of_lt hlt) hnp r10 hout
                  | exact l91t hnt hnp r9 hout
                  | exact l91t hnt (Nat.succ_le_of_lt hlt) r9 hout
                  | exact l91t (Nat.succ_le_of_lt hlt) hnp r9 hout
                  | exact l91t hnt hnp r8 hout
                  | exact l91t hnt (Nat.succ_le_of_lt hlt) r8 hout
                  | exact l91t (Nat.succ_le_of_lt hlt) hnp r8 hout
                  | exact l91t hnt hnp r7 hout
                  | exact l91t hnt (Nat.succ_le_of_lt hlt) r7 hout
                  | exact l91t (Nat.succ_le_of_lt hlt) hnp r7 hout
                  | exact l91t hnt hnp r6 hout
                  | exact l91t hnt (Nat.succ_le_of_lt hlt) r6 hout
                  | exact l91t (Nat.succ_le_of_lt hlt) hnp r6 hout
                  | exact l91t hnt hnp r5 hout
                  | exact l91t hnt (Nat.succ_le_of_lt hlt) r5 hout
                  | exact l91t (Nat.succ_le_of_lt hlt) hnp r5 hout
                  | exact l91t hnt hnp r4 hout
                  | exact l91t hnt (Nat.succ_le_of_lt hlt) r4 hout
                  | exact l91t (Nat.succ_le_of_lt hlt) hnp r4 hout
                  | exact l91t hnt hnp r2 hout
                  | exact l91t hnt (Nat.succ_le_of_lt hlt) r2 hout
                  | exact l91t (Nat.succ_le_of_lt hlt) hnp r2 hout
                  | exact l91t hnt hnp r1 hout
                  | exact l91t hnt (Nat.succ_le_of_lt hlt) r1 hout
                  | exact l91t (Nat.succ_le_of_lt hlt) hnp r1 hout
              · have hlt : nt < 8 := Nat.lt_of_not_le fun q => h15 (nI_le q (by omega))
                refine x_aload_n hm rfl rfl ?_
                refine x_aload_n hm rfl rfl ?_
                refine x_cVv hm rfl rfl (t113 hC hlt (by omega)) (fun M17 r17 => ?_)
                refine x_goto hm rfl (t := 89) rfl ?_
                first
                  | exact l91t hnt hnp r17 hout
                  | exact l91t hnt (Nat.succ_le_of_lt hlt) r17 hout
                  | exact l91t (Nat.succ_le_of_lt hlt) hnp r17 hout
                  | exact l91t hnt hnp r12 hout
                  | exact l91t hnt (Nat.succ_le_of_lt hlt) r12 hout
                  | exact l91t (Nat.succ_le_of_lt hlt) hnp r12 hout
                  | exact l91t hnt hnp r3 hout
                  | exact l91t hnt (Nat.succ_le_of_lt hlt) r3 hout
                  | exact l91t (Nat.succ_le_of_lt hlt) hnp r3 hout
                  | exact l91t hnt hnp r39 hout
                  | exact l91t hnt (Nat.succ_le_of_lt hlt) r39 hout
                  | exact l91t (Nat.succ_le_of_lt hlt) hnp r39 hout
                  | exact l91t hnt hnp r38 hout
                  | exact l91t hnt (Nat.succ_le_of_lt hlt) r38 hout
                  | exact l91t (Nat.succ_le_of_lt hlt) hnp r38 hout
                  | exact l91t hnt hnp r37 hout
                  | exact l91t hnt (Nat.succ_le_of_lt hlt) r37 hout
                  | exact l91t (Nat.succ_le_of_lt hlt) hnp r37 hout
                  | exact l91t hnt hnp r36 hout
                  | exact l91t hnt (Nat.succ_le_of_lt hlt) r36 hout
                  | exact l91t (Nat.succ_le_of_lt hlt) hnp r36 hout
                  | exact l91t hnt hnp r35 hout
                  | exact l91t hnt (Nat.succ_le_of_lt hlt) r35 hout
                  | exact l91t (Nat.succ_le_of_lt hlt) hnp r35 hout
                  | exact l91t hnt hnp r34 hout
                  | exact l91t hnt (Nat.succ_le_of_lt hlt) r34 hout
                  | exact l91t (Nat.succ_le_of_lt hlt) hnp r34 hout
                  | exact l91t hnt hnp r33 hout
                  | exact l91t hnt (Nat.succ_le_of_lt hlt) r33 hout
                  | exact l91t (Nat.succ_le_of_lt hlt) hnp r33 hout
                  | exact l91t hnt hnp r32 hout
                  | exact l91t hnt (Nat.succ_le_of_lt hlt) r32 hout
                  | exact l91t (Nat.succ_le_of_lt hlt) hnp r32 hout
                  | exact l91t hnt hnp r31 hout
                  | exact l91t hnt (Nat.succ_le_of_lt hlt) r31 hout
                  | exact l91t (Nat.succ_le_of_lt hlt) hnp r31 hout
                  | exact l91t hnt hnp r30 hout
                  | exact l91t hnt (Nat.succ_le_of_lt hlt) r30 hout
                  | exact l91t (Nat.succ_le_of_lt hlt) hnp r30 hout
                  | exact l91t hnt hnp r29 hout
                  | exact l91t hnt (Nat.succ_le_of_lt hlt) r29 hout
                  | exact l91t (Nat.succ_le_of_lt hlt) hnp r29 hout
                  | exact l91t hnt hnp r28 hout
                  | exact l91t hnt (Nat.succ_le_of_lt hlt) r28 hout
                  | exact l91t (Nat.succ_le_of_lt hlt) hnp r28 hout
                  | exact l91t hnt hnp r27 hout
                  | exact l91t hnt (Nat.succ_le_of_lt hlt) r27 hout
                  | exact l91t (Nat.succ_le_of_lt hlt) hnp r27 hout
                  | exact l91t hnt hnp r26 hout
                  | exact l91t hnt (Nat.succ_le_of_lt hlt) r26 hout
                  | exact l91t (Nat.succ_le_of_lt hlt) hnp r26 hout
                  | exact l91t hnt hnp r25 hout
                  | exact l91t hnt (Nat.succ_le_of_lt hlt) r25 hout
                  | exact l91t (Nat.succ_le_of_lt hlt) hnp r25 hout
                  | exact l91t hnt hnp r24 hout
                  | exact l91t hnt (Nat.succ_le_of_lt hlt) r24 hout
                  | exact l91t (Nat.succ_le_of_lt hlt) hnp r24 hout
                  | exact l91t hnt hnp r23 hout
                  | exact l91t hnt (Nat.succ_le_of_lt hlt) r23 hout
                  | exact l91t (Nat.succ_le_of_lt hlt) hnp r23 hout
                  | exact l91t hnt hnp r22 hout
                  | exact l91t hnt (Nat.succ_le_of_lt hlt) r22 hout
                  | exact l91t (Nat.succ_le_of_lt hlt) hnp r22 hout
                  | exact l91t hnt hnp r21 hout
                  | exact l91t hnt (Nat.succ_le_of_lt hlt) r21 hout
                  | exact l91t (Nat.succ_le_of_lt hlt) hnp r21 hout
                  | exact l91t hnt hnp r20 hout
                  | exact l91t hnt (Nat.succ_le_of_lt hlt) r20 hout
                  | exact l91t (Nat.succ_le_of_lt hlt) hnp r20 hout
                  | exact l91t hnt hnp r19 hout
                  | exact l91t hnt (Nat.succ_le_of_lt hlt) r19 hout
                  | exact l91t (Nat.succ_le_of_lt hlt) hnp r19 hout
                  | exact l91t hnt hnp r18 hout
                  | exact l91t hnt (Nat.succ_le_of_lt hlt) r18 hout
                  | exact l91t (Nat.succ_le_of_lt hlt) hnp r18 hout
                  | exact l91t hnt hnp r16 hout
                  | exact l91t hnt (Nat.succ_le_of_lt hlt) r16 hout
                  | exact l91t (Nat.succ_le_of_lt hlt) hnp r16 hout
                  | exact l91t hnt hnp r15 hout
                  | exact l91t hnt (Nat.succ_le_of_lt hlt) r15 hout
                  | exact l91t (Nat.succ_le_of_lt hlt) hnp r15 hout
                  | exact l91t hnt hnp r14 hout
                  | exact l91t hnt (Nat.succ_le_of_lt hlt) r14 hout
                  | exact l91t (Nat.succ_le_of_lt hlt) hnp r14 hout
                  | exact l91t hnt hnp r13 hout
                  | exact l91t hnt (Nat.succ_le_of_lt hlt) r13 hout
                  | exact l91t (Nat.succ_le_of_lt hlt) hnp r13 hout
                  | exact l91t hnt hnp r11 hout
                  | exact l91t hnt (Nat.succ_le_of_lt hlt) r11 hout
                  | exact l91t (Nat.succ_le_of_lt hlt) hnp r11 hout
                  | exact l91t hnt hnp r10 hout
                  | exact l91t hnt (Nat.succ_le_of_lt hlt) r10 hout
                  | exact l91t (Nat.succ_le_of_lt hlt) hnp r10 hout
                  | exact l91t hnt hnp r9 hout
                  | exact l91t hnt (Nat.succ_le_of_lt hlt) r9 hout
                  | exact l91t (Nat.succ_le_of_lt hlt) hnp r9 hout
                  | exact l91t hnt hnp r8 hout
                  | exact l91t hnt (Nat.succ_le_of_lt hlt) r8 hout
                  | exact l91t (Nat.succ_le_of_lt hlt) hnp r8 hout
                  | exact l91t hnt hnp r7 hout
                  | exact l91t hnt (Nat.succ_le_of_lt hlt) r7 hout
                  | exact l91t (Nat.succ_le_of_lt hlt) hnp r7 hout
                  | exact l91t hnt hnp r6 hout
                  | exact l91t hnt (Nat.succ_le_of_lt hlt) r6 hout
                  | exact l91t (Nat.succ_le_of_lt hlt) hnp r6 hout
                  | exact l91t hnt hnp r5 hout
                  | exact l91t hnt (Nat.succ_le_of_lt hlt) r5 hout
                  | exact l91t (Nat.succ_le_of_lt hlt) hnp r5 hout
                  | exact l91t hnt hnp r4 hout
                  | exact l91t hnt (Nat.succ_le_of_lt hlt) r4 hout
                  | exact l91t (Nat.succ_le_of_lt hlt) hnp r4 hout
                  | exact l91t hnt hnp r2 hout
                  | exact l91t hnt (Nat.succ_le_of_lt hlt) r2 hout
                  | exact l91t (Nat.succ_le_of_lt hlt) hnp r2 hout
                  | exact l91t hnt hnp r1 hout
                  | exact l91t hnt (Nat.succ_le_of_lt hlt) r1 hout
                  | exact l91t (Nat.succ_le_of_lt hlt) hnp r1 hout
          · have hlt : np < 8 := Nat.lt_of_not_le fun q => h11 (nI_le q (by omega))
            refine x_aload_n hm rfl rfl ?_
            refine x_aload_n hm rfl rfl ?_
            refine x_iload hm rfl rfl ?_
            refine x_cVv hm rfl rfl (t109 hC hlt) (fun M18 r18 => ?_)
            refine x_goto hm rfl (t := 89) rfl ?_
            first
              | exact l91t hnt hnp r18 hout
              | exact l91t hnt (Nat.succ_le_of_lt hlt) r18 hout
              | exact l91t (Nat.succ_le_of_lt hlt) hnp r18 hout
              | exact l91t hnt hnp r3 hout
              | exact l91t hnt (Nat.succ_le_of_lt hlt) r3 hout
              | exact l91t (Nat.succ_le_of_lt hlt) hnp r3 hout
              | exact l91t hnt hnp r39 hout
              | exact l91t hnt (Nat.succ_le_of_lt hlt) r39 hout
              | exact l91t (Nat.succ_le_of_lt hlt) hnp r39 hout
              | exact l91t hnt hnp r38 hout
              | exact l91t hnt (Nat.succ_le_of_lt hlt) r38 hout
              | exact l91t (Nat.succ_le_of_lt hlt) hnp r38 hout
              | exact l91t hnt hnp r37 hout
              | exact l91t hnt (Nat.succ_le_of_lt hlt) r37 hout
              | exact l91t (Nat.succ_le_of_lt hlt) hnp r37 hout
              | exact l91t hnt hnp r36 hout
              | exact l91t hnt (Nat.succ_le_of_lt hlt) r36 hout
              | exact l91t (Nat.succ_le_of_lt hlt) hnp r36 hout
              | exact l91t hnt hnp r35 hout
              | exact l91t hnt (Nat.succ_le_of_lt hlt) r35 hout
              | exact l91t (Nat.succ_le_of_lt hlt) hnp r35 hout
              | exact l91t hnt hnp r34 hout
              | exact l91t hnt (Nat.succ_le_of_lt hlt) r34 hout
              | exact l91t (Nat.succ_le_of_lt hlt) hnp r34 hout
              | exact l91t hnt hnp r33 hout
              | exact l91t hnt (Nat.succ_le_of_lt hlt) r33 hout
              | exact l91t (Nat.succ_le_of_lt hlt) hnp r33 hout
              | exact l91t hnt hnp r32 hout
              | exact l91t hnt (Nat.succ_le_of_lt hlt) r32 hout
              | exact l91t (Nat.succ_le_of_lt hlt) hnp r32 hout
              | exact l91t hnt hnp r31 hout
              | exact l91t hnt (Nat.succ_le_of_lt hlt) r31 hout
              | exact l91t (Nat.succ_le_of_lt hlt) hnp r31 hout
              | exact l91t hnt hnp r30 hout
              | exact l91t hnt (Nat.succ_le_of_lt hlt) r30 hout
              | exact l91t (Nat.succ_le_of_lt hlt) hnp r30 hout
              | exact l91t hnt hnp r29 hout
              | exact l91t hnt (Nat.succ_le_of_lt hlt) r29 hout
              | exact l91t (Nat.succ_le_of_lt hlt) hnp r29 hout
              | exact l91t hnt hnp r28 hout
              | exact l91t hnt (Nat.succ_le_of_lt hlt) r28 hout
              | exact l91t (Nat.succ_le_of_lt hlt) hnp r28 hout
              | exact l91t hnt hnp r27 hout
              | exact l91t hnt (Nat.succ_le_of_lt hlt) r27 hout
              | exact l91t (Nat.succ_le_of_lt hlt) hnp r27 hout
              | exact l91t hnt hnp r26 hout
              | exact l91t hnt (Nat.succ_le_of_lt hlt) r26 hout
              | exact l91t (Nat.succ_le_of_lt hlt) hnp r26 hout
              | exact l91t hnt hnp r25 hout
              | exact l91t hnt (Nat.succ_le_of_lt hlt) r25 hout
              | exact l91t (Nat.succ_le_of_lt hlt) hnp r25 hout
              | exact l91t hnt hnp r24 hout
              | exact l91t hnt (Nat.succ_le_of_lt hlt) r24 hout
              | exact l91t (Nat.succ_le_of_lt hlt) hnp r24 hout
              | exact l91t hnt hnp r23 hout
              | exact l91t hnt (Nat.succ_le_of_lt hlt) r23 hout
              | exact l91t (Nat.succ_le_of_lt hlt) hnp r23 hout
              | exact l91t hnt hnp r22 hout
              | exact l91t hnt (Nat.succ_le_of_lt hlt) r22 hout
              | exact l91t (Nat.succ_le_of_lt hlt) hnp r22 hout
              | exact l91t hnt hnp r21 hout
              | exact l91t hnt (Nat.succ_le_of_lt hlt) r21 hout
              | exact l91t (Nat.succ_le_of_lt hlt) hnp r21 hout
              | exact l91t hnt hnp r20 hout
              | exact l91t hnt (Nat.succ_le_of_lt hlt) r20 hout
              | exact l91t (Nat.succ_le_of_lt hlt) hnp r20 hout
              | exact l91t hnt hnp r19 hout
              | exact l91t hnt (Nat.succ_le_of_lt hlt) r19 hout
              | exact l91t (Nat.succ_le_of_lt hlt) hnp r19 hout
              | exact l91t hnt hnp r17 hout
              | exact l91t hnt (Nat.succ_le_of_lt hlt) r17 hout
              | exact l91t (Nat.succ_le_of_lt hlt) hnp r17 hout
              | exact l91t hnt hnp r16 hout
              | exact l91t hnt (Nat.succ_le_of_lt hlt) r16 hout
              | exact l91t (Nat.succ_le_of_lt hlt) hnp r16 hout
              | exact l91t hnt hnp r15 hout
              | exact l91t hnt (Nat.succ_le_of_lt hlt) r15 hout
              | exact l91t (Nat.succ_le_of_lt hlt) hnp r15 hout
              | exact l91t hnt hnp r14 hout
              | exact l91t hnt (Nat.succ_le_of_lt hlt) r14 hout
              | exact l91t (Nat.succ_le_of_lt hlt) hnp r14 hout
              | exact l91t hnt hnp r13 hout
              | exact l91t hnt (Nat.succ_le_of_lt hlt) r13 hout
              | exact l91t (Nat.succ_le_of_lt hlt) hnp r13 hout
              | exact l91t hnt hnp r12 hout
              | exact l91t hnt (Nat.succ_le_of_lt hlt) r12 hout
              | exact l91t (Nat.succ_le_of_lt hlt) hnp r12 hout
              | exact l91t hnt hnp r11 hout
              | exact l91t hnt (Nat.succ_le_of_lt hlt) r11 hout
              | exact l91t (Nat.succ_le_of_lt hlt) hnp r11 hout
              | exact l91t hnt hnp r10 hout
              | exact l91t hnt (Nat.succ_le_of_lt hlt) r10 hout
              | exact l91t (Nat.succ_le_of_lt hlt) hnp r10 hout
              | exact l91t hnt hnp r9 hout
              | exact l91t hnt (Nat.succ_le_of_lt hlt) r9 hout
              | exact l91t (Nat.succ_le_of_lt hlt) hnp r9 hout
              | exact l91t hnt hnp r8 hout
              | exact l91t hnt (Nat.succ_le_of_lt hlt) r8 hout
              | exact l91t (Nat.succ_le_of_lt hlt) hnp r8 hout
              | exact l91t hnt hnp r7 hout
              | exact l91t hnt (Nat.succ_le_of_lt hlt) r7 hout
              | exact l91t (Nat.succ_le_of_lt hlt) hnp r7 hout
              | exact l91t hnt hnp r6 hout
              | exact l91t hnt (Nat.succ_le_of_lt hlt) r6 hout
              | exact l91t (Nat.succ_le_of_lt hlt) hnp r6 hout
              | exact l91t hnt hnp r5 hout
              | exact l91t hnt (Nat.succ_le_of_lt hlt) r5 hout
              | exact l91t (Nat.succ_le_of_lt hlt) hnp r5 hout
              | exact l91t hnt hnp r4 hout
              | exact l91t hnt (Nat.succ_le_of_lt hlt) r4 hout
              | exact l91t (Nat.succ_le_of_lt hlt) hnp r4 hout
              | exact l91t hnt hnp r2 hout
              | exact l91t hnt (Nat.succ_le_of_lt hlt) r2 hout
              | exact l91t (Nat.succ_le_of_lt hlt) hnp r2 hout
              | exact l91t hnt hnp r1 hout
              | exact l91t hnt (Nat.succ_le_of_lt hlt) r1 hout
              | exact l91t (Nat.succ_le_of_lt hlt) hnp r1 hout
theorem t91 {c nt np : Nat} (hc1 : M 52 1 = nI c) (hc : c ≤ 120) (hnt : M 1 3 = nI nt) (hnp : M 1 4 = nI np) (hn8 : nt ≤ 8) (hp8 : np ≤ 8) : ∃ v M', mT X 91 [.ref 52, .ref 1] (con M) (some (.int v)) (con M') ∧ ∃ nt np, nt ≤ 8 ∧ np ≤ 8 ∧ Cp c nt np M M' := by
  refine ti_of (row := _) rfl (Nat.le_of_ble_eq_true rfl) ?_
  have hm : mMet 91 = some _ := rfl
  refine x_aload_n hm rfl rfl ?_
  refine x_iconst hm rfl (v := (-1 : Int32)) (by decide) ?_
  refine x_putf hm rfl (pI rfl rfl (by decide) (by first | exact mFit_int | rfl | decide) rfl) ?_
  refine x_aload_n hm rfl rfl ?_
  refine x_iconst hm rfl (v := nI 0) (by decide) ?_
  refine x_putf hm rfl (pI rfl rfl (by decide) (by first | exact mFit_int | rfl | decide) rfl) ?_
  refine x_aload_n hm rfl rfl ?_
  have hL : Lc M (mput (mput M 52 6 (-1)) 52 4 (nI 0)) := (Lc.put (by decide) (by decide)).trans (Lc.put (by decide) (by decide))
  obtain ⟨M2, g1, g2, g3⟩ := u92 (X := X) (M := mput (mput M 52 6 (-1)) 52 4 (nI 0)) (e := 0) (c := c) mp0 ((hL 52 1 (by omega)).trans hc1) (Nat.zero_le _) hc
  have hL2 := hL.trans g2
  refine x_callV hm rfl rfl g1 ?_
  refine x_iconst hm rfl (v := nI 0) (by decide) ?_
  refine x_istore_n hm rfl rfl ?_
  refine x_iconst hm rfl (v := nI 1) (by decide) ?_
  refine x_istore_n hm rfl rfl ?_
  exact l91 (M0 := M) _ 0 nt np _ _ _ (Nat.lt_succ_self _) (by decide) hn8 hp8 ⟨hL2.bq, g3, (hL2 1 3 (by omega)).trans hnt, (hL2 1 4 (by omega)).trans hnp⟩
theorem t90  (hW : Wf M) : ∃ v M', mT X 90 [.ref 0] (con M) (some (.int v)) (con M') ∧ Ck M M' := by
  refine ti_of (row := _) rfl (Nat.le_of_ble_eq_true rfl) ?_
  have hm : mMet 90 = some _ := rfl
  obtain ⟨c, hc, hc9⟩ := ok4 (show okx 4 (M 52 1) from hW 52 1)
  obtain ⟨nt, hn8, hnt⟩ := hW.ct (b := 1) (by decide)
  obtain ⟨np, hp8, hnp⟩ := hW.cpn (b := 1) (by decide)
  refine x_aload_n hm rfl rfl ?_
  refine x_getf hm rfl (gR rfl rfl) ?_
  refine x_getf hm rfl (gI rfl rfl) ?_
  rw [hnt]
  refine x_istore_n hm rfl rfl ?_
  refine x_aload_n hm rfl rfl ?_
  refine x_getf hm rfl (gR rfl rfl) ?_
  refine x_getf hm rfl (gI rfl rfl) ?_
  rw [hnp]
  refine x_istore_n hm rfl rfl ?_
  refine x_aload_n hm rfl rfl ?_
  refine x_getf hm rfl (gR rfl rfl) ?_
  refine x_aload_n hm rfl rfl ?_
  refine x_getf hm rfl (gR rfl rfl) ?_
  refine x_cVi hm rfl rfl (t91 hc9 hc hnt hnp hn8 hp8) (fun v1 M1 r1 => ?_)
  first
    | obtain ⟨nt2, np2, e1, e2, hC⟩ := r8
    | obtain ⟨nt2, np2, e1, e2, hC⟩ := r7
    | obtain ⟨nt2, np2, e1, e2, hC⟩ := r6
    | obtain ⟨nt2, np2, e1, e2, hC⟩ := r5
    | obtain ⟨nt2, np2, e1, e2, hC⟩ := r4
    | obtain ⟨nt2, np2, e1, e2, hC⟩ := r3
    | obtain ⟨nt2, np2, e1, e2, hC⟩ := r2
    | obtain ⟨nt2, np2, e1, e2, hC⟩ := r1
  have hk1 := hC.1.ck hW
  have hk2 := ((hC.1.trans (Bq.fld (b := 1) (x := 3) (Or.inl rfl) (okI1 hn8))).trans (Bq.fld (b := 1) (x := 4) (Or.inl rfl) (okI1 hp8))).ck hW
  refine x_istore_n hm rfl rfl ?_
  refine x_aload_n hm rfl rfl ?_
  refine x_getf hm rfl (gR rfl rfl) ?_
  refine x_getf hm rfl (gI rfl rfl) ?_
  refine x_iconst hm rfl (v := (-1 : Int32)) (by decide) ?_
  refine x_icmp_eq hm rfl (t := 55) rfl (fun h2 => ?_) (fun h2 => ?_)
  · have hk := hk1
    refine x_aload_n hm rfl rfl ?_
    refine x_getf hm rfl (gR rfl rfl) ?_
    refine x_iconst hm rfl (v := nI 0) (by decide) ?_
    refine x_putf hm rfl (pI rfl rfl (by decide) (by first | exact mFit_int | rfl | decide) rfl) ?_
    refine x_aload_n hm rfl rfl ?_
    refine x_getf hm rfl (gR rfl rfl) ?_
    refine x_getf hm rfl (gI rfl rfl) ?_
    refine x_iconst hm rfl (v := (-1 : Int32)) (by decide) ?_
    refine x_icmp_ne hm rfl (t := 78) rfl (fun h3 => ?_) (fun h3 => ?_)
    · refine x_iconst hm rfl (v := (-1 : Int32)) (by decide) ?_
      refine x_aload_n hm rfl rfl ?_
      refine x_getf hm rfl (gR rfl rfl) ?_
      refine x_getf hm rfl (gI rfl rfl) ?_
      refine x_isub hm rfl ?_
      refine x_iret hm rfl rfl (by first | rfl | exact bI_nar | decide) ?_
      exact ⟨_, _, rfl, rfl, hk.trans (Ck.reader hk.1 (okI4 (k := 0) (by decide)))⟩
    · refine x_iload_n hm rfl rfl ?_
      refine x_goto hm rfl (t := 87) rfl ?_
      refine x_iret hm rfl rfl (by first | rfl | exact bI_nar | decide) ?_
      exact ⟨_, _, rfl, rfl, hk.trans (Ck.reader hk.1 (okI4 (k := 0) (by decide)))⟩
  · have hk := hk2
    refine x_aload_n hm rfl rfl ?_
    refine x_getf hm rfl (gR rfl rfl) ?_
    refine x_iload_n hm rfl rfl ?_
    refine x_putf hm rfl (pI rfl rfl (by decide) (by first | exact mFit_int | rfl | decide) rfl) ?_
    refine x_aload_n hm rfl rfl ?_
    refine x_getf hm rfl (gR rfl rfl) ?_
    refine x_iload_n hm rfl rfl ?_
    refine x_putf hm rfl (pI rfl rfl (by decide) (by first | exact mFit_int | rfl | decide) rfl) ?_
    refine x_aload_n hm rfl rfl ?_
    refine x_getf hm rfl (gR rfl rfl) ?_
    refine x_iconst hm rfl (v := nI 0) (by decide) ?_
    refine x_putf hm rfl (pI rfl rfl (by decide) (by first | exact mFit_int | rfl | decide) rfl) ?_
    refine x_aload_n hm rfl rfl ?_
    refine x_getf hm rfl (gR rfl rfl) ?_
    refine x_getf hm rfl (gI rfl rfl) ?_
    refine x_iconst hm rfl (v := (-1 : Int32)) (by decide) ?_
    refine x_icmp_ne hm rfl (t := 78) rfl (fun h4 => ?_) (fun h4 => ?_)
    · refine x_iconst hm rfl (v := (-1 : Int32)) (by decide) ?_
      refine x_aload_n hm rfl rfl ?_
      refine x_getf hm rfl (gR rfl rfl) ?_
      refine x_getf hm rfl (gI rfl rfl) ?_
      refine x_isub hm rfl ?_
      refine x_iret hm rfl rfl (by first | rfl | exact bI_nar | decide) ?_
      exact ⟨_, _, rfl, rfl, hk.trans (Ck.reader hk.1 (okI4 (k := 0) (by decide)))⟩
    · refine x_iload_n hm rfl rfl ?_
      refine x_goto hm rfl (t := 87) rfl ?_
      refine x_iret hm rfl rfl (by first | rfl | exact bI_nar | decide) ?_
      exact ⟨_, _, rfl, rfl, hk.trans (Ck.reader hk.1 (okI4 (k := 0) (by decide)))⟩
end CU
end
