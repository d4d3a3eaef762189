/-! ===== the class: the tape read token by token ===== -/
section CT
variable {X : mSc} {Q : Option Value → mHp → Prop} {M : mM} {b : Nat}
/-- only the reader's numbers changed -/
def Lc (M M' : mM) : Prop := ∀ a x, (a ≠ 52 ∨ x < 2 ∨ 6 < x) → M' a x = M a x
theorem Lc.rf : Lc M M := fun _ _ _ => rfl
theorem Lc.trans {M1 M2 : mM} (h : Lc M M1) (g : Lc M1 M2) : Lc M M2 := fun a x hx => (g a x hx).trans (h a x hx)
theorem Lc.put {x : Nat} {v : Int32} (h1 : 2 ≤ x) (h2 : x ≤ 6) : Lc M (mput M 52 x v) := fun a y h => mpn (by omega)
theorem Lc.bq {M1 : mM} (h : Lc M M1) : Bq 1 M M1 := by
  refine ⟨fun hW a x => ?_, fun a ha => funext fun x => h a x (by omega), fun c hc _ => ⟨h c 3 (by omega), h c 4 (by omega)⟩⟩
  by_cases h1 : a ≠ 52 ∨ x < 2 ∨ 6 < x
  · rw [h a x h1]; exact hW a x
  · have e : a = 52 := by omega
    subst e
    have e2 : kd 52 x = 0 := by
      unfold kd
      repeat' split
      all_goals omega
    rw [e2]; trivial
def Cx (s e c : Nat) (M : mM) : Prop := M 52 3 = nI s ∧ M 52 4 = nI e ∧ M 52 1 = nI c ∧ s ≤ e ∧ e ≤ c ∧ c ≤ 120 ∧ (M 52 2 = nI 2 → ∃ x, x ≤ 1000 ∧ M 52 5 = nI x)
theorem pos_k {v : Int32} {lo hi : Nat} (hl : lo ≤ 999) (hh : hi ≤ 999) (h : ¬ v < nI lo) (g : ¬ nI hi < v) : ∃ d, lo ≤ d ∧ d ≤ hi ∧ v = nI d := by
  obtain ⟨d, hd, rfl⟩ := bt_k hl hh ⟨Int32.not_lt.mp h, Int32.not_lt.mp g⟩
  exact ⟨d, (jI_le (by omega) (by omega)).mp (Int32.not_lt.mp h), hd, rfl⟩
theorem nI_nm1 {k : Nat} (h : k < 2147483648) : ¬ nI k = -1 := fun q => by
  have h1 := congrArg Int32.toInt q
  rw [jI_int h] at h1
  have e : (-1 : Int32).toInt = -1 := by decide +kernel
  omega
def inB (lo hi : Nat) (v : Int32) : Prop := nI lo ≤ v ∧ v ≤ nI hi
theorem t93 {v : Int32} : ∃ w, mT X 93 [.int v] (con M) (some (.int w)) (con M) ∧ (w = nI 0 ∨ (w = nI 1 ∧ inB 97 122 v)) := by
  refine te_of (row := _) rfl (Nat.le_of_ble_eq_true rfl) ?_
  have hm : mMet 93 = some _ := rfl
  refine x_iload_n hm rfl rfl ?_
  refine x_bipush hm rfl (v := nI 97) (by decide) ?_
  refine x_icmp_lt hm rfl (t := 16) rfl (fun h1 => ?_) (fun h1 => ?_)
  · refine x_iconst hm rfl (v := nI 0) (by decide) ?_
    refine x_iret hm rfl rfl (by first | rfl | exact bI_nar | decide) ?_
    exact ⟨_, rfl, rfl, by first | exact Or.inl rfl | exact Or.inr ⟨rfl, Int32.not_lt.mp h1, Int32.not_lt.mp h2⟩⟩
  · refine x_iload_n hm rfl rfl ?_
    refine x_bipush hm rfl (v := nI 122) (by decide) ?_
    refine x_icmp_gt hm rfl (t := 16) rfl (fun h2 => ?_) (fun h2 => ?_)
    · refine x_iconst hm rfl (v := nI 0) (by decide) ?_
      refine x_iret hm rfl rfl (by first | rfl | exact bI_nar | decide) ?_
      exact ⟨_, rfl, rfl, by first | exact Or.inl rfl | exact Or.inr ⟨rfl, Int32.not_lt.mp h1, Int32.not_lt.mp h2⟩⟩
    · refine x_iconst hm rfl (v := nI 1) (by decide) ?_
      refine x_goto hm rfl (t := 17) rfl ?_
      refine x_iret hm rfl rfl (by first | rfl | exact bI_nar | decide) ?_
      exact ⟨_, rfl, rfl, by first | exact Or.inl rfl | exact Or.inr ⟨rfl, Int32.not_lt.mp h1, Int32.not_lt.mp h2⟩⟩
theorem t94 {v : Int32} : ∃ w, mT X 94 [.int v] (con M) (some (.int w)) (con M) ∧ (w = nI 0 ∨ (w = nI 1 ∧ inB 48 57 v)) := by
  refine te_of (row := _) rfl (Nat.le_of_ble_eq_true rfl) ?_
  have hm : mMet 94 = some _ := rfl
  refine x_iload_n hm rfl rfl ?_
  refine x_bipush hm rfl (v := nI 48) (by decide) ?_
  refine x_icmp_lt hm rfl (t := 16) rfl (fun h1 => ?_) (fun h1 => ?_)
  · refine x_iconst hm rfl (v := nI 0) (by decide) ?_
    refine x_iret hm rfl rfl (by first | rfl | exact bI_nar | decide) ?_
    exact ⟨_, rfl, rfl, by first | exact Or.inl rfl | exact Or.inr ⟨rfl, Int32.not_lt.mp h1, Int32.not_lt.mp h2⟩⟩
  · refine x_iload_n hm rfl rfl ?_
    refine x_bipush hm rfl (v := nI 57) (by decide) ?_
    refine x_icmp_gt hm rfl (t := 16) rfl (fun h2 => ?_) (fun h2 => ?_)
    · refine x_iconst hm rfl (v := nI 0) (by decide) ?_
      refine x_iret hm rfl rfl (by first | rfl | exact bI_nar | decide) ?_
      exact ⟨_, rfl, rfl, by first | exact Or.inl rfl | exact Or.inr ⟨rfl, Int32.not_lt.mp h1, Int32.not_lt.mp h2⟩⟩
    · refine x_iconst hm rfl (v := nI 1) (by decide) ?_
      refine x_goto hm rfl (t := 17) rfl ?_
      refine x_iret hm rfl rfl (by first | rfl | exact bI_nar | decide) ?_
      exact ⟨_, rfl, rfl, by first | exact Or.inl rfl | exact Or.inr ⟨rfl, Int32.not_lt.mp h1, Int32.not_lt.mp h2⟩⟩
theorem dig_k {x : Nat} {v : Int32} (hx : x ≤ 1000) (h : inB 48 57 v) : ∃ y, y ≤ 1000 ∧ (if nI x * nI 10 + v - nI 48 < nI 1000 then nI x * nI 10 + v - nI 48 else nI 1000) = nI y := by
  obtain ⟨d, hd, rfl⟩ := bt_k (by decide) (by decide) h
  have h48 : 48 ≤ d := (jI_le (by omega) (by omega)).mp h.1
  rw [jI_mul, jI_add, sub_k (by omega)]
  split
  · rename_i h1
    exact ⟨_, Nat.le_of_lt ((jI_lt (by omega) (by omega)).mp h1), rfl⟩
  · exact ⟨1000, by omega, rfl⟩
theorem l92w {c s : Nat} (hc0 : M 52 1 = nI c) (hc : c ≤ 120) : ∀ (n e : Nat) (M1 : mM), c - e < n → s ≤ e → e ≤ c → M1 52 3 = nI s → M1 52 4 = nI e → M1 52 2 = nI 1 → Lc M M1 → mEv X (QV (fun M' => Lc M M' ∧ ∃ s e, Cx s e c M')) 92 93 [some (.ref 52)] [] (con M1) := by
  have hm : mMet 92 = some _ := rfl
  intro n
  induction n with
  | zero =>
    intro e M1 hen hse hec g3 g4 g2 hL
    omega
  | succ n ih =>
    intro e M1 hen hse hec g3 g4 g2 hL
    have hc1 : M1 52 1 = nI c := (hL 52 1 (by omega)).trans hc0
    refine x_aload_n hm rfl rfl ?_
    refine x_getf hm rfl (gI rfl rfl) ?_
    rw [g4]
    refine x_aload_n hm rfl rfl ?_
    refine x_getf hm rfl (gI rfl rfl) ?_
    rw [hc1]
    refine x_icmp_ge hm rfl (t := 259) rfl (fun h1 => ?_) (fun h1 => ?_)
    · refine x_ret hm rfl rfl ?_
      exact ⟨_, rfl, rfl, hL, s, e, g3, g4, hc1, hse, hec, hc, fun q => absurd (g2.symm.trans q) (by decide)⟩
    · have hlt : e < c := Nat.lt_of_not_le fun h => h1 (nI_le h (by omega))
      refine x_aload_n hm rfl rfl ?_
      refine x_getf hm rfl (gR rfl rfl) ?_
      refine x_aload_n hm rfl rfl ?_
      refine x_getf hm rfl (gI rfl rfl) ?_
      rw [g4]
      refine x_bald hm rfl (lB rfl (by omega) (by decide)) ?_
      refine x_cSe hm rfl rfl (t93) (fun v2 r2 => ?_)
      refine x_if_eq hm rfl (t := 259) rfl (fun h3 => ?_) (fun h3 => ?_)
      · refine x_ret hm rfl rfl ?_
        exact ⟨_, rfl, rfl, hL, s, e, g3, g4, hc1, hse, hec, hc, fun q => absurd (g2.symm.trans q) (by decide)⟩
      · refine x_aload_n hm rfl rfl ?_
        refine x_dup hm rfl rfl ?_
        refine x_getf hm rfl (gI rfl rfl) ?_
        rw [g4]
        refine x_iconst hm rfl (v := nI 1) (by decide) ?_
        refine x_iadd hm rfl ?_
        rw [jI_add]
        refine x_putf hm rfl (pI rfl rfl (by decide) (by first | exact mFit_int | rfl | decide) rfl) ?_
        refine x_goto hm rfl (t := 93) rfl ?_
        exact ih (e + 1) _ (by omega) (by omega) (by omega) (by rw [mpf (by decide)]; exact g3) mp0 (by rw [mpf (by decide)]; exact g2) (hL.trans (Lc.put (by decide) (by decide)))
theorem l92n {c s : Nat} (hc0 : M 52 1 = nI c) (hc : c ≤ 120) : ∀ (n e x : Nat) (M1 : mM), c - e < n → s ≤ e → e ≤ c → x ≤ 1000 → M1 52 3 = nI s → M1 52 4 = nI e → M1 52 5 = nI x → Lc M M1 → mEv X (QV (fun M' => Lc M M' ∧ ∃ s e, Cx s e c M')) 92 157 [some (.ref 52)] [] (con M1) := by
  have hm : mMet 92 = some _ := rfl
  intro n
  induction n with
  | zero =>
    intro e x M1 hen hse hec hx g3 g4 g5 hL
    omega
  | succ n ih =>
    intro e x M1 hen hse hec hx g3 g4 g5 hL
    have hc1 : M1 52 1 = nI c := (hL 52 1 (by omega)).trans hc0
    refine x_aload_n hm rfl rfl ?_
    refine x_getf hm rfl (gI rfl rfl) ?_
    rw [g4]
    refine x_aload_n hm rfl rfl ?_
    refine x_getf hm rfl (gI rfl rfl) ?_
    rw [hc1]
    refine x_icmp_ge hm rfl (t := 259) rfl (fun h1 => ?_) (fun h1 => ?_)
    · refine x_ret hm rfl rfl ?_
      exact ⟨_, rfl, rfl, hL, s, e, g3, g4, hc1, hse, hec, hc, fun _ => ⟨x, hx, g5⟩⟩
    · have hlt : e < c := Nat.lt_of_not_le fun h => h1 (nI_le h (by omega))
      refine x_aload_n hm rfl rfl ?_
      refine x_getf hm rfl (gR rfl rfl) ?_
      refine x_aload_n hm rfl rfl ?_
      refine x_getf hm rfl (gI rfl rfl) ?_
      rw [g4]
      refine x_bald hm rfl (lB rfl (by omega) (by decide)) ?_
      refine x_cSe hm rfl rfl (t94) (fun v2 r2 => ?_)
      refine x_if_eq hm rfl (t := 259) rfl (fun h3 => ?_) (fun h3 => ?_)
      · refine x_ret hm rfl rfl ?_
        exact ⟨_, rfl, rfl, hL, s, e, g3, g4, hc1, hse, hec, hc, fun _ => ⟨x, hx, g5⟩⟩
      · first
          | obtain ⟨-, hdg⟩ := r2.resolve_left (fun q => by subst q; exact h3 rfl)
          | obtain ⟨-, hdg⟩ := r8.resolve_left (fun q => by subst q; exact h3 rfl)
          | obtain ⟨-, hdg⟩ := r7.resolve_left (fun q => by subst q; exact h3 rfl)
          | obtain ⟨-, hdg⟩ := r6.resolve_left (fun q => by subst q; exact h3 rfl)
          | obtain ⟨-, hdg⟩ := r5.resolve_left (fun q => by subst q; exact h3 rfl)
          | obtain ⟨-, hdg⟩ := r4.resolve_left (fun q => by subst q; exact h3 rfl)
          | obtain ⟨-, hdg⟩ := r3.resolve_left (fun q => by subst q; exact h3 rfl)
          | obtain ⟨-, hdg⟩ := r1.resolve_left (fun q => by subst q; exact h3 rfl)
        refine x_aload_n hm rfl rfl ?_
        refine x_sipush hm rfl (v := nI 1000) (by decide) ?_
        refine x_aload_n hm rfl rfl ?_
        refine x_getf hm rfl (gI rfl rfl) ?_
        rw [g5]
        refine x_bipush hm rfl (v := nI 10) (by decide) ?_
        refine x_imul hm rfl ?_
        refine x_aload_n hm rfl rfl ?_
        refine x_getf hm rfl (gR rfl rfl) ?_
        refine x_aload_n hm rfl rfl ?_
        refine x_getf hm rfl (gI rfl rfl) ?_
        rw [g4]
        refine x_bald hm rfl (lB rfl (by omega) (by decide)) ?_
        refine x_iadd hm rfl ?_
        refine x_bipush hm rfl (v := nI 48) (by decide) ?_
        refine x_isub hm rfl ?_
        refine x_lib hm rfl rfl ?_
        dsimp only
        obtain ⟨y, hy, hy2⟩ := dig_k hx hdg
        rw [hy2]
        refine x_putf hm rfl (pI rfl rfl (by decide) (by first | exact mFit_int | rfl | decide) rfl) ?_
        refine x_aload_n hm rfl rfl ?_
        refine x_dup hm rfl rfl ?_
        refine x_getf hm rfl (gI rfl rfl) ?_
        rw [mpf (by decide), g4]
        refine x_iconst hm rfl (v := nI 1) (by decide) ?_
        refine x_iadd hm rfl ?_
        rw [jI_add]
        refine x_putf hm rfl (pI rfl rfl (by decide) (by first | exact mFit_int | rfl | decide) rfl) ?_
        refine x_goto hm rfl (t := 157) rfl ?_
        exact ih (e + 1) y _ (by omega) (by omega) (by omega) hy (by rw [mpf (by decide), mpf (by decide)]; exact g3) mp0 (by rw [mpf (by decide)]; exact mp0) ((hL.trans (Lc.put (by decide) (by decide))).trans (Lc.put (by decide) (by decide)))
theorem l92s {c : Nat} (hc0 : M 52 1 = nI c) (hc : c ≤ 120) : ∀ (n s : Nat) (M1 : mM), c - s < n → s ≤ c → M1 52 3 = nI s → Lc M M1 → mEv X (QV (fun M' => Lc M M' ∧ ∃ s e, Cx s e c M')) 92 8 [some (.ref 52)] [] (con M1) := by
  have hm : mMet 92 = some _ := rfl
  intro n
  induction n with
  | zero =>
    intro s M1 hsn hsc g3 hL
    omega
  | succ n ih =>
    intro s M1 hsn hsc g3 hL
    have hc1 : M1 52 1 = nI c := (hL 52 1 (by omega)).trans hc0
    refine x_aload_n hm rfl rfl ?_
    refine x_getf hm rfl (gI rfl rfl) ?_
    rw [g3]
    refine x_aload_n hm rfl rfl ?_
    refine x_getf hm rfl (gI rfl rfl) ?_
    rw [hc1]
    refine x_icmp_ge hm rfl (t := 46) rfl (fun h1 => ?_) (fun h1 => ?_)
    · refine x_aload_n hm rfl rfl ?_
      refine x_aload_n hm rfl rfl ?_
      refine x_getf hm rfl (gI rfl rfl) ?_
      rw [g3]
      refine x_putf hm rfl (pI rfl rfl (by decide) (by first | exact mFit_int | rfl | decide) rfl) ?_
      refine x_aload_n hm rfl rfl ?_
      refine x_getf hm rfl (gI rfl rfl) ?_
      rw [mpf (by decide), g3]
      refine x_aload_n hm rfl rfl ?_
      refine x_getf hm rfl (gI rfl rfl) ?_
      rw [mpf (by decide), hc1]
      refine x_icmp_lt hm rfl (t := 73) rfl (fun h2 => ?_) (fun h2 => ?_)
      · have hlt2 : s < c := (jI_lt (by omega) (by omega)).mp h2
        refine x_aload_n hm rfl rfl ?_
        refine x_getf hm rfl (gR rfl rfl) ?_
        refine x_aload_n hm rfl rfl ?_
        refine x_getf hm rfl (gI rfl rfl) ?_
        rw [mp0]
        refine x_bald hm rfl (lB rfl (by omega) (by decide)) ?_
        refine x_cSe hm rfl rfl (t93) (fun v3 r3 => ?_)
        refine x_if_eq hm rfl (t := 132) rfl (fun h4 => ?_) (fun h4 => ?_)
        · refine x_aload_n hm rfl rfl ?_
          refine x_getf hm rfl (gR rfl rfl) ?_
          refine x_aload_n hm rfl rfl ?_
          refine x_getf hm rfl (gI rfl rfl) ?_
          rw [mp0]
          refine x_bald hm rfl (lB rfl (by omega) (by decide)) ?_
          refine x_cSe hm rfl rfl (t94) (fun v5 r5 => ?_)
          refine x_if_eq hm rfl (t := 226) rfl (fun h6 => ?_) (fun h6 => ?_)
          · refine x_aload_n hm rfl rfl ?_
            refine x_aload_n hm rfl rfl ?_
            refine x_getf hm rfl (gR rfl rfl) ?_
            refine x_aload_n hm rfl rfl ?_
            refine x_getf hm rfl (gI rfl rfl) ?_
            rw [mpf (by decide), g3]
            refine x_bald hm rfl (lB rfl (by omega) (by decide)) ?_
            refine x_bipush hm rfl (v := nI 59) (by decide) ?_
            refine x_icmp_ne hm rfl (t := 245) rfl (fun h7 => ?_) (fun h7 => ?_)
            · refine x_iconst hm rfl (v := nI 4) (by decide) ?_
              refine x_putf hm rfl (pI rfl rfl (by decide) (by first | exact mFit_int | rfl | decide) rfl) ?_
              refine x_aload_n hm rfl rfl ?_
              refine x_dup hm rfl rfl ?_
              refine x_getf hm rfl (gI rfl rfl) ?_
              rw [mpf (by decide), mp0]
              refine x_iconst hm rfl (v := nI 1) (by decide) ?_
              refine x_iadd hm rfl ?_
              rw [jI_add]
              refine x_putf hm rfl (pI rfl rfl (by decide) (by first | exact mFit_int | rfl | decide) rfl) ?_
              refine x_ret hm rfl rfl ?_
              first
                | exact ⟨_, rfl, rfl, (hL.trans (Lc.put (M := M1) (x := 4) (v := nI s) (by decide) (by decide))).trans (Lc.put (by decide) (by decide)), s, s, by rw [mpf (by decide), mpf (by decide)]; exact g3, by rw [mpf (by decide)]; exact mp0, by rw [mpf (by decide), mpf (by decide)]; exact hc1, Nat.le_refl _, hsc, hc, fun q => absurd (mp0.symm.trans q) (by decide)⟩
                | exact ⟨_, rfl, rfl, ((hL.trans (Lc.put (M := M1) (x := 4) (v := nI s) (by decide) (by decide))).trans (Lc.put (by decide) (by decide))).trans (Lc.put (by decide) (by decide)), s, s + 1, by rw [mpf (by decide), mpf (by decide), mpf (by decide)]; exact g3, mp0, by rw [mpf (by decide), mpf (by decide), mpf (by decide)]; exact hc1, Nat.le_succ _, hlt2, hc, fun q => absurd ((mpf (by decide)).symm.trans q) (by rw [mp0]; decide)⟩
            · refine x_iconst hm rfl (v := nI 3) (by decide) ?_
              refine x_goto hm rfl (t := 246) rfl ?_
              refine x_putf hm rfl (pI rfl rfl (by decide) (by first | exact mFit_int | rfl | decide) rfl) ?_
              refine x_aload_n hm rfl rfl ?_
              refine x_dup hm rfl rfl ?_
              refine x_getf hm rfl (gI rfl rfl) ?_
              rw [mpf (by decide), mp0]
              refine x_iconst hm rfl (v := nI 1) (by decide) ?_
              refine x_iadd hm rfl ?_
              rw [jI_add]
              refine x_putf hm rfl (pI rfl rfl (by decide) (by first | exact mFit_int | rfl | decide) rfl) ?_
              refine x_ret hm rfl rfl ?_
              first
                | exact ⟨_, rfl, rfl, (hL.trans (Lc.put (M := M1) (x := 4) (v := nI s) (by decide) (by decide))).trans (Lc.put (by decide) (by decide)), s, s, by rw [mpf (by decide), mpf (by decide)]; exact g3, by rw [mpf (by decide)]; exact mp0, by rw [mpf (by decide), mpf (by decide)]; exact hc1, Nat.le_refl _, hsc, hc, fun q => absurd (mp0.symm.trans q) (by decide)⟩
                | exact ⟨_, rfl, rfl, ((hL.trans (Lc.put (M := M1) (x := 4) (v := nI s) (by decide) (by decide))).trans (Lc.put (by decide) (by decide))).trans (Lc.put (by decide) (by decide)), s, s + 1, by rw [mpf (by decide), mpf (by decide), mpf (by decide)]; exact g3, mp0, by rw [mpf (by decide), mpf (by decide), mpf (by decide)]; exact hc1, Nat.le_succ _, hlt2, hc, fun q => absurd ((mpf (by decide)).symm.trans q) (by rw [mp0]; decide)⟩
          · refine x_aload_n hm rfl rfl ?_
            refine x_iconst hm rfl (v := nI 2) (by decide) ?_
            refine x_putf hm rfl (pI rfl rfl (by decide) (by first | exact mFit_int | rfl | decide) rfl) ?_
            refine x_aload_n hm rfl rfl ?_
            refine x_iconst hm rfl (v := nI 0) (by decide) ?_
            refine x_putf hm rfl (pI rfl rfl (by decide) (by first | exact mFit_int | rfl | decide) rfl) ?_
            exact l92n hc0 hc _ s 0 _ (Nat.lt_succ_self _) (Nat.le_refl _) hsc (by decide) (by rw [mpf (by decide), mpf (by decide), mpf (by decide)]; exact g3) (by rw [mpf (by decide), mpf (by decide)]; exact mp0) mp0 (((hL.trans (Lc.put (M := M1) (x := 4) (v := nI s) (by decide) (by decide))).trans (Lc.put (by decide) (by decide))).trans (Lc.put (by decide) (by decide)))
        · refine x_aload_n hm rfl rfl ?_
          refine x_iconst hm rfl (v := nI 1) (by decide) ?_
          refine x_putf hm rfl (pI rfl rfl (by decide) (by first | exact mFit_int | rfl | decide) rfl) ?_
          exact l92w hc0 hc _ s _ (Nat.lt_succ_self _) (Nat.le_refl _) hsc (by rw [mpf (by decide), mpf (by decide)]; exact g3) (by rw [mpf (by decide)]; exact mp0) mp0 ((hL.trans (Lc.put (M := M1) (x := 4) (v := nI s) (by decide) (by decide))).trans (Lc.put (by decide) (by decide)))
      · refine x_aload_n hm rfl rfl ?_
        refine x_iconst hm rfl (v := nI 0) (by decide) ?_
        refine x_putf hm rfl (pI rfl rfl (by decide) (by first | exact mFit_int | rfl | decide) rfl) ?_
        refine x_goto hm rfl (t := 259) rfl ?_
        refine x_ret hm rfl rfl ?_
        first
          | exact ⟨_, rfl, rfl, (hL.trans (Lc.put (M := M1) (x := 4) (v := nI s) (by decide) (by decide))).trans (Lc.put (by decide) (by decide)), s, s, by rw [mpf (by decide), mpf (by decide)]; exact g3, by rw [mpf (by decide)]; exact mp0, by rw [mpf (by decide), mpf (by decide)]; exact hc1, Nat.le_refl _, hsc, hc, fun q => absurd (mp0.symm.trans q) (by decide)⟩
          | exact ⟨_, rfl, rfl, ((hL.trans (Lc.put (M := M1) (x := 4) (v := nI s) (by decide) (by decide))).trans (Lc.put (by decide) (by decide))).trans (Lc.put (by decide) (by decide)), s, s + 1, by rw [mpf (by decide), mpf (by decide), mpf (by decide)]; exact g3, mp0, by rw [mpf (by decide), mpf (by decide), mpf (by decide)]; exact hc1, Nat.le_succ _, hlt2, hc, fun q => absurd ((mpf (by decide)).symm.trans q) (by rw [mp0]; decide)⟩
    · have hlt : s < c := Nat.lt_of_not_le fun h => h1 (nI_le h (by omega))
      refine x_aload_n hm rfl rfl ?_
      refine x_getf hm rfl (gR rfl rfl) ?_
      refine x_aload_n hm rfl rfl ?_
      refine x_getf hm rfl (gI rfl rfl) ?_
      rw [g3]
      refine x_bald hm rfl (lB rfl (by omega) (by decide)) ?_
      refine x_bipush hm rfl (v := nI 32) (by decide) ?_
      refine x_icmp_ne hm rfl (t := 46) rfl (fun h8 => ?_) (fun h8 => ?_)
      · refine x_aload_n hm rfl rfl ?_
        refine x_aload_n hm rfl rfl ?_
        refine x_getf hm rfl (gI rfl rfl) ?_
        rw [g3]
        refine x_putf hm rfl (pI rfl rfl (by decide) (by first | exact mFit_int | rfl | decide) rfl) ?_
        refine x_aload_n hm rfl rfl ?_
        refine x_getf hm rfl (gI rfl rfl) ?_
        rw [mpf (by decide), g3]
        refine x_aload_n hm rfl rfl ?_
        refine x_getf hm rfl (gI rfl rfl) ?_
        rw [mpf (by decide), hc1]
        refine x_icmp_lt hm rfl (t := 73) rfl (fun h9 => ?_) (fun h9 => ?_)
        · have hlt2 : s < c := (jI_lt (by omega) (by omega)).mp h9
          refine x_aload_n hm rfl rfl ?_
          refine x_getf hm rfl (gR rfl rfl) ?_
          refine x_aload_n hm rfl rfl ?_
          refine x_getf hm rfl (gI rfl rfl) ?_
          rw [mp0]
          refine x_bald hm rfl (lB rfl (by omega) (by decide)) ?_
          refine x_cSe hm rfl rfl (t93) (fun v10 r10 => ?_)
          refine x_if_eq hm rfl (t := 132) rfl (fun h11 => ?_) (fun h11 => ?_)
          · refine x_aload_n hm rfl rfl ?_
            refine x_getf hm rfl (gR rfl rfl) ?_
            refine x_aload_n hm rfl rfl ?_
            refine x_getf hm rfl (gI rfl rfl) ?_
            rw [mp0]
            refine x_bald hm rfl (lB rfl (by omega) (by decide)) ?_
            refine x_cSe hm rfl rfl (t94) (fun v12 r12 => ?_)
            refine x_if_eq hm rfl (t := 226) rfl (fun h13 => ?_) (fun h13 => ?_)
            · refine x_aload_n hm rfl rfl ?_
              refine x_aload_n hm rfl rfl ?_
              refine x_getf hm rfl (gR rfl rfl) ?_
              refine x_aload_n hm rfl rfl ?_
              refine x_getf hm rfl (gI rfl rfl) ?_
              rw [mpf (by decide), g3]
              refine x_bald hm rfl (lB rfl (by omega) (by decide)) ?_
              refine x_bipush hm rfl (v := nI 59) (by decide) ?_
              refine x_icmp_ne hm rfl (t := 245) rfl (fun h14 => ?_) (fun h14 => ?_)
              · refine x_iconst hm rfl (v := nI 4) (by decide) ?_
                refine x_putf hm rfl (pI rfl rfl (by decide) (by first | exact mFit_int | rfl | decide) rfl) ?_
                refine x_aload_n hm rfl rfl ?_
                refine x_dup hm rfl rfl ?_
                refine x_getf hm rfl (gI rfl rfl) ?_
                rw [mpf (by decide), mp0]
                refine x_iconst hm rfl (v := nI 1) (by decide) ?_
                refine x_iadd hm rfl ?_
                rw [jI_add]
                refine x_putf hm rfl (pI rfl rfl (by decide) (by first | exact mFit_int | rfl | decide) rfl) ?_
                refine x_ret hm rfl rfl ?_
                first
                  | exact ⟨_, rfl, rfl, (hL.trans (Lc.put (M := M1) (x := 4) (v := nI s) (by decide) (by decide))).trans (Lc.put (by decide) (by decide)), s, s, by rw [mpf (by decide), mpf (by decide)]; exact g3, by rw [mpf (by decide)]; exact mp0, by rw [mpf (by decide), mpf (by decide)]; exact hc1, Nat.le_refl _, hsc, hc, fun q => absurd (mp0.symm.trans q) (by decide)⟩
                  | exact ⟨_, rfl, rfl, ((hL.trans (Lc.put (M := M1) (x := 4) (v := nI s) (by decide) (by decide))).trans (Lc.put (by decide) (by decide))).trans (Lc.put (by decide) (by decide)), s, s + 1, by rw [mpf (by decide), mpf (by decide), mpf (by decide)]; exact g3, mp0, by rw [mpf (by decide), mpf (by decide), mpf (by decide)]; exact hc1, Nat.le_succ _, hlt2, hc, fun q => absurd ((mpf (by decide)).symm.trans q) (by rw [mp0]; decide)⟩
              · refine x_iconst hm rfl (v := nI 3) (by decide) ?_
                refine x_goto hm rfl (t := 246) rfl ?_
                refine x_putf hm rfl (pI rfl rfl (by decide) (by first | exact mFit_int | rfl | decide) rfl) ?_
                refine x_aload_n hm rfl rfl ?_
                refine x_dup hm rfl rfl ?_
                refine x_getf hm rfl (gI rfl rfl) ?_
                rw [mpf (by decide), mp0]
                refine x_iconst hm rfl (v := nI 1) (by decide) ?_
                refine x_iadd hm rfl ?_
                rw [jI_add]
                refine x_putf hm rfl (pI rfl rfl (by decide) (by first | exact mFit_int | rfl | decide) rfl) ?_
                refine x_ret hm rfl rfl ?_
                first
                  | exact ⟨_, rfl, rfl, (hL.trans (Lc.put (M := M1) (x := 4) (v := nI s) (by decide) (by decide))).trans (Lc.put (by decide) (by decide)), s, s, by rw [mpf (by decide), mpf (by decide)]; exact g3, by rw [mpf (by decide)]; exact mp0, by rw [mpf (by decide), mpf (by decide)]; exact hc1, Nat.le_refl _, hsc, hc, fun q => absurd (mp0.symm.trans q) (by decide)⟩
                  | exact ⟨_, rfl, rfl, ((hL.trans (Lc.put (M := M1) (x := 4) (v := nI s) (by decide) (by decide))).trans (Lc.put (by decide) (by decide))).trans (Lc.put (by decide) (by decide)), s, s + 1, by rw [mpf (by decide), mpf (by decide), mpf (by decide)]; exact g3, mp0, by rw [mpf (by decide), mpf (by decide), mpf (by decide)]; exact hc1, Nat.le_succ _, hlt2, hc, fun q => absurd ((mpf (by decide)).symm.trans q) (by rw [mp0]; decide)⟩
            · refine x_aload_n hm rfl rfl ?_
              refine x_iconst hm rfl (v := nI 2) (by decide) ?_
              refine x_putf hm rfl (pI rfl rfl (by decide) (by first | exact mFit_int | rfl | decide) rfl) ?_
              refine x_aload_n hm rfl rfl ?_
              refine x_iconst hm rfl (v := nI 0) (by decide) ?_
              refine x_putf hm rfl (pI rfl rfl (by decide) (by first | exact mFit_int | rfl | decide) rfl) ?_
              exact l92n hc0 hc _ s 0 _ (Nat.lt_succ_self _) (Nat.le_refl _) hsc (by decide) (by rw [mpf (by decide), mpf (by decide), mpf (by decide)]; exact g3) (by rw [mpf (by decide), mpf (by decide)]; exact mp0) mp0 (((hL.trans (Lc.put (M := M1) (x := 4) (v := nI s) (by decide) (by decide))).trans (Lc.put (by decide) (by decide))).trans (Lc.put (by decide) (by decide)))
          · refine x_aload_n hm rfl rfl ?_
            refine x_iconst hm rfl (v := nI 1) (by decide) ?_
            refine x_putf hm rfl (pI rfl rfl (by decide) (by first | exact mFit_int | rfl | decide) rfl) ?_
            exact l92w hc0 hc _ s _ (Nat.lt_succ_self _) (Nat.le_refl _) hsc (by rw [mpf (by decide), mpf (by decide)]; exact g3) (by rw [mpf (by decide)]; exact mp0) mp0 ((hL.trans (Lc.put (M := M1) (x := 4) (v := nI s) (by decide) (by decide))).trans (Lc.put (by decide) (by decide)))
        · refine x_aload_n hm rfl rfl ?_
          refine x_iconst hm rfl (v := nI 0) (by decide) ?_
          refine x_putf hm rfl (pI rfl rfl (by decide) (by first | exact mFit_int | rfl | decide) rfl) ?_
          refine x_goto hm rfl (t := 259) rfl ?_
          refine x_ret hm rfl rfl ?_
          first
            | exact ⟨_, rfl, rfl, (hL.trans (Lc.put (M := M1) (x := 4) (v := nI s) (by decide) (by decide))).trans (Lc.put (by decide) (by decide)), s, s, by rw [mpf (by decide), mpf (by decide)]; exact g3, by rw [mpf (by decide)]; exact mp0, by rw [mpf (by decide), mpf (by decide)]; exact hc1, Nat.le_refl _, hsc, hc, fun q => absurd (mp0.symm.trans q) (by decide)⟩
            | exact ⟨_, rfl, rfl, ((hL.trans (Lc.put (M := M1) (x := 4) (v := nI s) (by decide) (by decide))).trans (Lc.put (by decide) (by decide))).trans (Lc.put (by decide) (by decide)), s, s + 1, by rw [mpf (by decide), mpf (by decide), mpf (by decide)]; exact g3, mp0, by rw [mpf (by decide), mpf (by decide), mpf (by decide)]; exact hc1, Nat.le_succ _, hlt2, hc, fun q => absurd ((mpf (by decide)).symm.trans q) (by rw [mp0]; decide)⟩
      · refine x_aload_n hm rfl rfl ?_
        refine x_dup hm rfl rfl ?_
        refine x_getf hm rfl (gI rfl rfl) ?_
        rw [g3]
        refine x_iconst hm rfl (v := nI 1) (by decide) ?_
        refine x_iadd hm rfl ?_
        rw [jI_add]
        refine x_putf hm rfl (pI rfl rfl (by decide) (by first | exact mFit_int | rfl | decide) rfl) ?_
        refine x_goto hm rfl (t := 8) rfl ?_
        exact ih (s + 1) _ (by omega) (by omega) mp0 (hL.trans (Lc.put (by decide) (by decide)))
theorem t92 {s e c : Nat} (hx : Cx s e c M) : ∃ M', mT X 92 [.ref 52] (con M) none (con M') ∧ Lc M M' ∧ ∃ s e, Cx s e c M' := by
  refine tv_of (row := _) rfl (Nat.le_of_ble_eq_true rfl) ?_
  have hm : mMet 92 = some _ := rfl
  obtain ⟨y1, y2, y3, y4, y5, y6, y7⟩ := hx
  refine x_aload_n hm rfl rfl ?_
  refine x_aload_n hm rfl rfl ?_
  refine x_getf hm rfl (gI rfl rfl) ?_
  rw [y2]
  refine x_putf hm rfl (pI rfl rfl (by decide) (by first | exact mFit_int | rfl | decide) rfl) ?_
  exact l92s y3 y6 _ e _ (Nat.lt_succ_self _) y5 mp0 (Lc.put (by decide) (by decide))
theorem u92 {e c : Nat} (y2 : M 52 4 = nI e) (y3 : M 52 1 = nI c) (y5 : e ≤ c) (y6 : c ≤ 120) : ∃ M', mT X 92 [.ref 52] (con M) none (con M') ∧ Lc M M' ∧ ∃ s e, Cx s e c M' := by
  refine tv_of (row := _) rfl (Nat.le_of_ble_eq_true rfl) ?_
  have hm : mMet 92 = some _ := rfl
  refine x_aload_n hm rfl rfl ?_
  refine x_aload_n hm rfl rfl ?_
  refine x_getf hm rfl (gI rfl rfl) ?_
  rw [y2]
  refine x_putf hm rfl (pI rfl rfl (by decide) (by first | exact mFit_int | rfl | decide) rfl) ?_
  exact l92s y3 y6 _ e _ (Nat.lt_succ_self _) y5 mp0 (Lc.put (by decide) (by decide))
/-- the reader stands well, and only it changed -/
def Cy (c : Nat) (M M' : mM) : Prop := Lc M M' ∧ ∃ s e, Cx s e c M'
theorem Cx.f6 {s e c : Nat} {v : Int32} (h : Cx s e c M) : Cx s e c (mput M 52 6 v) := by
  obtain ⟨y1, y2, y3, y4, y5, y6, y7⟩ := h
  exact ⟨(mpf (by decide)).trans y1, (mpf (by decide)).trans y2, (mpf (by decide)).trans y3, y4, y5, y6, fun q => by
    rw [mpf (by decide)] at q ⊢
    exact y7 q⟩
theorem t112 {s e c : Nat} (hx : Cx s e c M) : ∃ M', mT X 112 [.ref 52] (con M) none (con M') ∧ Lc M M' ∧ Cx s e c M' ∧ ¬ M' 52 6 = -1 ∧ M' 52 2 = M 52 2 := by
  refine tv_of (row := _) rfl (Nat.le_of_ble_eq_true rfl) ?_
  have hm : mMet 112 = some _ := rfl
  obtain ⟨y1, y2, y3, y4, y5, y6, y7⟩ := id hx
  refine x_aload_n hm rfl rfl ?_
  refine x_getf hm rfl (gI rfl rfl) ?_
  refine x_iconst hm rfl (v := (-1 : Int32)) (by decide) ?_
  refine x_icmp_ne hm rfl (t := 16) rfl (fun h1 => ?_) (fun h1 => ?_)
  · refine x_ret hm rfl rfl ?_
    first
      | exact ⟨_, rfl, rfl, Lc.rf, hx, h1, rfl⟩
      | exact ⟨_, rfl, rfl, Lc.put (by decide) (by decide), hx.f6, (by rw [mp0]; exact nI_nm1 (by omega)), mpf (by decide)⟩
  · refine x_aload_n hm rfl rfl ?_
    refine x_aload_n hm rfl rfl ?_
    refine x_getf hm rfl (gI rfl rfl) ?_
    rw [y1]
    refine x_putf hm rfl (pI rfl rfl (by decide) (by first | exact mFit_int | rfl | decide) rfl) ?_
    refine x_ret hm rfl rfl ?_
    first
      | exact ⟨_, rfl, rfl, Lc.rf, hx, h1, rfl⟩
      | exact ⟨_, rfl, rfl, Lc.put (by decide) (by decide), hx.f6, (by rw [mp0]; exact nI_nm1 (by omega)), mpf (by decide)⟩
theorem l111f {c : Nat} {m : Int32} {M0 : mM} {x2 : Option Value} (hy : Cy c M0 M) (k2 : ¬ M 52 6 = -1) : mEv X (QI (fun v M' => Cy c M0 M' ∧ (∃ x, v = nI x ∧ (x = 0 ∨ (nI x ≤ m ∧ x ≤ 1000))))) 111 20 [some (.ref 52), some (.int m), x2] [] (con M) := by
  have hm : mMet 111 = some _ := rfl
  refine x_aload_n hm rfl rfl ?_
  refine x_getf hm rfl (gI rfl rfl) ?_
  refine x_iconst hm rfl (v := (-1 : Int32)) (by decide) ?_
  refine x_icmp_eq hm rfl (t := 30) rfl (fun h1 => ?_) (fun h1 => ?_)
  · exact absurd h1 k2 --stop
  · refine x_iconst hm rfl (v := nI 0) (by decide) ?_
    refine x_iret hm rfl rfl (by first | rfl | exact bI_nar | decide) ?_
    exact ⟨_, _, rfl, rfl, hy, 0, rfl, Or.inl rfl⟩
theorem l111g {s e c x : Nat} {m : Int32} {x2 : Option Value} (hx : Cx s e c M) (hx5 : M 52 5 = nI x) (hx1 : x ≤ 1000) (hle : nI x ≤ m) : mEv X (QI (fun v M' => Cy c M M' ∧ (∃ x, v = nI x ∧ (x = 0 ∨ (nI x ≤ m ∧ x ≤ 1000))))) 111 20 [some (.ref 52), some (.int m), x2] [] (con M) := by
  have hm : mMet 111 = some _ := rfl
  refine x_aload_n hm rfl rfl ?_
  refine x_getf hm rfl (gI rfl rfl) ?_
  refine x_iconst hm rfl (v := (-1 : Int32)) (by decide) ?_
  refine x_icmp_eq hm rfl (t := 30) rfl (fun h1 => ?_) (fun h1 => ?_)
  · refine x_aload_n hm rfl rfl ?_
    refine x_getf hm rfl (gI rfl rfl) ?_
    rw [hx5]
    refine x_istore_n hm rfl rfl ?_
    refine x_aload_n hm rfl rfl ?_
    refine x_cVv hm rfl rfl (by first | exact t92 hx | exact t92 hx2) (fun M2 r2 => ?_)
    refine x_iload_n hm rfl rfl ?_
    refine x_iret hm rfl rfl (by first | rfl | exact bI_nar | decide) ?_
    first
      | exact ⟨_, _, rfl, rfl, r2, x, rfl, Or.inr ⟨hle, hx1⟩⟩
      | exact ⟨_, _, rfl, rfl, ⟨Lc.rf, s, e, hx⟩, 0, rfl, Or.inl rfl⟩
      | exact ⟨_, _, rfl, rfl, r1, x, rfl, Or.inr ⟨hle, hx1⟩⟩
      | exact ⟨_, _, rfl, rfl, r3, x, rfl, Or.inr ⟨hle, hx1⟩⟩
      | exact ⟨_, _, rfl, rfl, r4, x, rfl, Or.inr ⟨hle, hx1⟩⟩
      | exact ⟨_, _, rfl, rfl, r5, x, rfl, Or.inr ⟨hle, hx1⟩⟩
      | exact ⟨_, _, rfl, rfl, r6, x, rfl, Or.inr ⟨hle, hx1⟩⟩
      | exact ⟨_, _, rfl, rfl, r7, x, rfl, Or.inr ⟨hle, hx1⟩⟩
      | exact ⟨_, _, rfl, rfl, r8, x, rfl, Or.inr ⟨hle, hx1⟩⟩
  · refine x_iconst hm rfl (v := nI 0) (by decide) ?_
    refine x_iret hm rfl rfl (by first | rfl | exact bI_nar | decide) ?_
    first
      | exact ⟨_, _, rfl, rfl, ⟨Lc.rf, s, e, hx⟩, 0, rfl, Or.inl rfl⟩
      | exact ⟨_, _, rfl, rfl, r1, x, rfl, Or.inr ⟨hle, hx1⟩⟩
      | exact ⟨_, _, rfl, rfl, r2, x, rfl, Or.inr ⟨hle, hx1⟩⟩
      | exact ⟨_, _, rfl, rfl, r3, x, rfl, Or.inr ⟨hle, hx1⟩⟩
      | exact ⟨_, _, rfl, rfl, r4, x, rfl, Or.inr ⟨hle, hx1⟩⟩
      | exact ⟨_, _, rfl, rfl, r5, x, rfl, Or.inr ⟨hle, hx1⟩⟩
      | exact ⟨_, _, rfl, rfl, r6, x, rfl, Or.inr ⟨hle, hx1⟩⟩
      | exact ⟨_, _, rfl, rfl, r7, x, rfl, Or.inr ⟨hle, hx1⟩⟩
      | exact ⟨_, _, rfl, rfl, r8, x, rfl, Or.inr ⟨hle, hx1⟩⟩
theorem t111 {s e c : Nat} {m : Int32} (hx : Cx s e c M) : ∃ v M', mT X 111 [.ref 52, .int m] (con M) (some (.int v)) (con M') ∧ Cy c M M' ∧ (∃ x, v = nI x ∧ (x = 0 ∨ (nI x ≤ m ∧ x ≤ 1000))) := by
  refine ti_of (row := _) rfl (Nat.le_of_ble_eq_true rfl) ?_
  have hm : mMet 111 = some _ := rfl
  obtain ⟨y1, y2, y3, y4, y5, y6, y7⟩ := id hx
  refine x_aload_n hm rfl rfl ?_
  refine x_getf hm rfl (gI rfl rfl) ?_
  refine x_iconst hm rfl (v := nI 2) (by decide) ?_
  refine x_icmp_ne hm rfl (t := 16) rfl (fun h1 => ?_) (fun h1 => ?_)
  · refine x_aload_n hm rfl rfl ?_
    refine x_cVv hm rfl rfl (t112 hx) (fun M2 r2 => ?_)
    first
      | exact l111f ⟨r2.1, _, _, r2.2.1⟩ r2.2.2.1
      | exact l111g hx hx5 hx1 (by rw [← hx5]; exact hle)
      | exact l111f ⟨r1.1, _, _, r1.2.1⟩ r1.2.2.1
      | exact l111f ⟨r3.1, _, _, r3.2.1⟩ r3.2.2.1
      | exact l111f ⟨r4.1, _, _, r4.2.1⟩ r4.2.2.1
      | exact l111f ⟨r5.1, _, _, r5.2.1⟩ r5.2.2.1
      | exact l111f ⟨r6.1, _, _, r6.2.1⟩ r6.2.2.1
      | exact l111f ⟨r7.1, _, _, r7.2.1⟩ r7.2.2.1
      | exact l111f ⟨r8.1, _, _, r8.2.1⟩ r8.2.2.1
  · obtain ⟨x, hx1, hx5⟩ := y7 (by first | exact h1 | exact Classical.byContradiction h1)
    refine x_aload_n hm rfl rfl ?_
    refine x_getf hm rfl (gI rfl rfl) ?_
    refine x_iload_n hm rfl rfl ?_
    refine x_icmp_le hm rfl (t := 20) rfl (fun h3 => ?_) (fun h3 => ?_)
    · have hle := h3
      first
        | exact l111g hx hx5 hx1 (by rw [← hx5]; exact hle)
        | exact l111f ⟨r1.1, _, _, r1.2.1⟩ r1.2.2.1
        | exact l111f ⟨r2.1, _, _, r2.2.1⟩ r2.2.2.1
        | exact l111f ⟨r3.1, _, _, r3.2.1⟩ r3.2.2.1
        | exact l111f ⟨r4.1, _, _, r4.2.1⟩ r4.2.2.1
        | exact l111f ⟨r5.1, _, _, r5.2.1⟩ r5.2.2.1
        | exact l111f ⟨r6.1, _, _, r6.2.1⟩ r6.2.2.1
        | exact l111f ⟨r7.1, _, _, r7.2.1⟩ r7.2.2.1
        | exact l111f ⟨r8.1, _, _, r8.2.1⟩ r8.2.2.1
    · refine x_aload_n hm rfl rfl ?_
      refine x_cVv hm rfl rfl (t112 hx) (fun M4 r4 => ?_)
      first
        | exact l111f ⟨r4.1, _, _, r4.2.1⟩ r4.2.2.1
        | exact l111g hx hx5 hx1 (by rw [← hx5]; exact hle)
        | exact l111f ⟨r1.1, _, _, r1.2.1⟩ r1.2.2.1
        | exact l111f ⟨r2.1, _, _, r2.2.1⟩ r2.2.2.1
        | exact l111f ⟨r3.1, _, _, r3.2.1⟩ r3.2.2.1
        | exact l111f ⟨r5.1, _, _, r5.2.1⟩ r5.2.2.1
        | exact l111f ⟨r6.1, _, _, r6.2.1⟩ r6.2.2.1
        | exact l111f ⟨r7.1, _, _, r7.2.1⟩ r7.2.2.1
        | exact l111f ⟨r8.1, _, _, r8.2.1⟩ r8.2.2.1
theorem l97 {s e c t : Nat} (hx : Cx s e c M) (ht : t < 15) (hlen : e - s = (mTx.getD t []).length) : ∀ (n k : Nat), (mTx.getD t []).length - k < n → k ≤ (mTx.getD t []).length → mEv X (QE M (fun v => v = nI 0 ∨ v = nI 1)) 97 28 [some (.ref 52), some (.ref (1000000 + t)), some (.int (nI k))] [] (con M) := by
  have hm : mMet 97 = some _ := rfl
  intro n
  induction n with
  | zero =>
    intro k hkn hkb
    omega
  | succ n ih =>
    intro k hkn hkb
    have hle := mTx_le t
    obtain ⟨y1, y2, y3, y4, y5, y6, y7⟩ := id hx
    refine x_iload_n hm rfl rfl ?_
    refine x_aload_n hm rfl rfl ?_
    refine x_libV hm rfl (len_call ht rfl) ?_
    dsimp only
    refine x_icmp_ge hm rfl (t := 63) rfl (fun h1 => ?_) (fun h1 => ?_)
    · refine x_iconst hm rfl (v := nI 1) (by decide) ?_
      refine x_iret hm rfl rfl (by first | rfl | exact bI_nar | decide) ?_
      exact ⟨_, rfl, rfl, by first | exact Or.inl rfl | exact Or.inr rfl⟩
    · have hk : k < (mTx.getD t []).length := Nat.lt_of_not_le fun h => h1 (nI_le h (by omega))
      refine x_aload_n hm rfl rfl ?_
      refine x_getf hm rfl (gR rfl rfl) ?_
      refine x_aload_n hm rfl rfl ?_
      refine x_getf hm rfl (gI rfl rfl) ?_
      rw [y1]
      refine x_iload_n hm rfl rfl ?_
      refine x_iadd hm rfl ?_
      rw [jI_add]
      refine x_bald hm rfl (lB rfl (by omega) (by decide)) ?_
      refine x_aload_n hm rfl rfl ?_
      refine x_iload_n hm rfl rfl ?_
      refine x_libV hm rfl (chr_call ht rfl hk) ?_
      dsimp only
      refine x_icmp_eq hm rfl (t := 57) rfl (fun h2 => ?_) (fun h2 => ?_)
      · refine x_iinc hm rfl rfl (v := nI 1) (by decide) rfl ?_
        rw [jI_add]
        refine x_goto hm rfl (t := 28) rfl ?_
        exact ih _ (by omega) (by omega)
      · refine x_iconst hm rfl (v := nI 0) (by decide) ?_
        refine x_iret hm rfl rfl (by first | rfl | exact bI_nar | decide) ?_
        exact ⟨_, rfl, rfl, by first | exact Or.inl rfl | exact Or.inr rfl⟩
theorem t97 {s e c t : Nat} (hx : Cx s e c M) (ht : t < 15) : ∃ v, mT X 97 [.ref 52, .ref (1000000 + t)] (con M) (some (.int v)) (con M) ∧ (v = nI 0 ∨ v = nI 1) := by
  refine te_of (row := _) rfl (Nat.le_of_ble_eq_true rfl) ?_
  have hm : mMet 97 = some _ := rfl
  have hle := mTx_le t
  obtain ⟨y1, y2, y3, y4, y5, y6, y7⟩ := id hx
  refine x_aload_n hm rfl rfl ?_
  refine x_getf hm rfl (gI rfl rfl) ?_
  refine x_iconst hm rfl (v := nI 1) (by decide) ?_
  refine x_icmp_ne hm rfl (t := 24) rfl (fun h1 => ?_) (fun h1 => ?_)
  · refine x_iconst hm rfl (v := nI 0) (by decide) ?_
    refine x_iret hm rfl rfl (by first | rfl | exact bI_nar | decide) ?_
    exact ⟨_, rfl, rfl, by first | exact Or.inl rfl | exact Or.inr rfl⟩
  · refine x_aload_n hm rfl rfl ?_
    refine x_getf hm rfl (gI rfl rfl) ?_
    rw [y2]
    refine x_aload_n hm rfl rfl ?_
    refine x_getf hm rfl (gI rfl rfl) ?_
    rw [y1]
    refine x_isub hm rfl ?_
    rw [subI y4]
    refine x_aload_n hm rfl rfl ?_
    refine x_libV hm rfl (len_call ht rfl) ?_
    dsimp only
    refine x_icmp_eq hm rfl (t := 26) rfl (fun h2 => ?_) (fun h2 => ?_)
    · have hlen := jI_inj (by omega) (by omega) h2
      refine x_iconst hm rfl (v := nI 0) (by decide) ?_
      refine x_istore_n hm rfl rfl ?_
      exact l97 hx ht hlen _ 0 (Nat.lt_succ_self _) (Nat.zero_le _)
    · refine x_iconst hm rfl (v := nI 0) (by decide) ?_
      refine x_iret hm rfl rfl (by first | rfl | exact bI_nar | decide) ?_
      exact ⟨_, rfl, rfl, by first | exact Or.inl rfl | exact Or.inr rfl⟩
theorem t96 {k : Nat} (hk : k < 7) : mT X 96 [.int (nI k)] (con M) (some (.ref (1000000 + kt k))) (con M) := by
  refine mT.of (row := _) rfl (Nat.le_of_ble_eq_true rfl) ?_
  have hm : mMet 96 = some _ := rfl
  refine x_iload_n hm rfl rfl ?_
  refine x_ts hm rfl (fun h1 => ⟨58, rfl, ?_⟩) (fun i1 h1 g1 => ?_)
  · refine x_ldcS hm rfl ?_
    refine x_aret hm rfl rfl ?_
    have e : k = 0 := by
      have := jI_int (k := k) (by omega)
      omega
    subst e
    exact ⟨rfl, rfl⟩
  · have k1 : i1 = 0 ∨ i1 = 1 ∨ i1 = 2 ∨ i1 = 3 ∨ i1 = 4 ∨ i1 = 5 := by omega
    rcases k1 with rfl | rfl | rfl | rfl | rfl | rfl
    · refine ⟨_, 40, rfl, rfl, ?_⟩
      refine x_ldcS hm rfl ?_
      refine x_aret hm rfl rfl ?_
      have e : k = 1 := by
        have := jI_int (k := k) (by omega)
        omega
      subst e
      exact ⟨rfl, rfl⟩
    · refine ⟨_, 43, rfl, rfl, ?_⟩
      refine x_ldcS hm rfl ?_
      refine x_aret hm rfl rfl ?_
      have e : k = 2 := by
        have := jI_int (k := k) (by omega)
        omega
      subst e
      exact ⟨rfl, rfl⟩
    · refine ⟨_, 46, rfl, rfl, ?_⟩
      refine x_ldcS hm rfl ?_
      refine x_aret hm rfl rfl ?_
      have e : k = 3 := by
        have := jI_int (k := k) (by omega)
        omega
      subst e
      exact ⟨rfl, rfl⟩
    · refine ⟨_, 49, rfl, rfl, ?_⟩
      refine x_ldcS hm rfl ?_
      refine x_aret hm rfl rfl ?_
      have e : k = 4 := by
        have := jI_int (k := k) (by omega)
        omega
      subst e
      exact ⟨rfl, rfl⟩
    · refine ⟨_, 52, rfl, rfl, ?_⟩
      refine x_ldcS hm rfl ?_
      refine x_aret hm rfl rfl ?_
      have e : k = 5 := by
        have := jI_int (k := k) (by omega)
        omega
      subst e
      exact ⟨rfl, rfl⟩
    · refine ⟨_, 55, rfl, rfl, ?_⟩
      refine x_ldcS hm rfl ?_
      refine x_aret hm rfl rfl ?_
      have e : k = 6 := by
        have := jI_int (k := k) (by omega)
        omega
      subst e
      exact ⟨rfl, rfl⟩
theorem l95 {s e c : Nat} (hx : Cx s e c M) : ∀ (n k : Nat), 7 - k < n → k ≤ 7 → mEv X (QE M (fun v => (v = -1 ∨ ∃ k, k < 7 ∧ v = nI k))) 95 2 [some (.ref 52), some (.int (nI k))] [] (con M) := by
  have hm : mMet 95 = some _ := rfl
  intro n
  induction n with
  | zero =>
    intro k hkn hkb
    omega
  | succ n ih =>
    intro k hkn hkb
    refine x_iload_n hm rfl rfl ?_
    refine x_bipush hm rfl (v := nI 7) (by decide) ?_
    refine x_icmp_ge hm rfl (t := 27) rfl (fun h1 => ?_) (fun h1 => ?_)
    · refine x_iconst hm rfl (v := (-1 : Int32)) (by decide) ?_
      refine x_iret hm rfl rfl (by first | rfl | exact bI_nar | decide) ?_
      first
        | exact ⟨_, rfl, rfl, Or.inl rfl⟩
        | exact ⟨_, rfl, rfl, Or.inr ⟨k, hk, rfl⟩⟩
    · have hk : k < 7 := Nat.lt_of_not_le fun h => h1 (nI_le h (by omega))
      refine x_aload_n hm rfl rfl ?_
      refine x_iload_n hm rfl rfl ?_
      refine x_callS hm rfl rfl (t96 hk) ?_
      refine x_cVe hm rfl rfl (t97 hx (kt_lt hk)) (fun v2 r2 => ?_)
      refine x_if_eq hm rfl (t := 21) rfl (fun h3 => ?_) (fun h3 => ?_)
      · refine x_iinc hm rfl rfl (v := nI 1) (by decide) rfl ?_
        rw [jI_add]
        refine x_goto hm rfl (t := 2) rfl ?_
        exact ih _ (by omega) (by omega)
      · refine x_iload_n hm rfl rfl ?_
        refine x_iret hm rfl rfl (by first | rfl | exact bI_nar | decide) ?_
        first
          | exact ⟨_, rfl, rfl, Or.inl rfl⟩
          | exact ⟨_, rfl, rfl, Or.inr ⟨k, hk, rfl⟩⟩
theorem t95 {s e c : Nat} (hx : Cx s e c M) : ∃ v, mT X 95 [.ref 52] (con M) (some (.int v)) (con M) ∧ (v = -1 ∨ ∃ k, k < 7 ∧ v = nI k) := by
  refine te_of (row := _) rfl (Nat.le_of_ble_eq_true rfl) ?_
  have hm : mMet 95 = some _ := rfl
  refine x_iconst hm rfl (v := nI 0) (by decide) ?_
  refine x_istore_n hm rfl rfl ?_
  exact l95 hx _ 0 (Nat.lt_succ_self _) (Nat.zero_le _)
theorem l110 {c : Nat} {m w x : Int32} {t : Nat} {M0 : mM} (hL : Lc M0 M) {s2 e2 : Nat} (hx2 : Cx s2 e2 c M) : mEv X (QI (fun v M' => Cy c M0 M' ∧ (v = w ∨ (∃ x, v = nI x ∧ (x = 0 ∨ (nI x ≤ m ∧ x ≤ 1000)))))) 110 22 [some (.ref 52), some (.ref t), some (.int m), some (.int w)] [] (con M) := by
  have hm : mMet 110 = some _ := rfl
  refine x_aload_n hm rfl rfl ?_
  refine x_iload_n hm rfl rfl ?_
  refine x_cVi hm rfl rfl (t111 hx2) (fun v1 M1 r1 => ?_)
  refine x_iret hm rfl rfl (by first | rfl | exact bI_nar | decide) ?_
  exact ⟨_, _, rfl, rfl, ⟨hL.trans r1.1.1, r1.1.2⟩, Or.inr r1.2⟩
theorem t110 {s e c t : Nat} {m w : Int32} (hx : Cx s e c M) (ht : t < 15) : ∃ v M', mT X 110 [.ref 52, .ref (1000000 + t), .int m, .int w] (con M) (some (.int v)) (con M') ∧ Cy c M M' ∧ (v = w ∨ (∃ x, v = nI x ∧ (x = 0 ∨ (nI x ≤ m ∧ x ≤ 1000)))) := by
  refine ti_of (row := _) rfl (Nat.le_of_ble_eq_true rfl) ?_
  have hm : mMet 110 = some _ := rfl
  refine x_aload_n hm rfl rfl ?_
  refine x_getf hm rfl (gI rfl rfl) ?_
  refine x_iconst hm rfl (v := (-1 : Int32)) (by decide) ?_
  refine x_icmp_ne hm rfl (t := 16) rfl (fun h1 => ?_) (fun h1 => ?_)
  · refine x_iload_n hm rfl rfl ?_
    refine x_iret hm rfl rfl (by first | rfl | exact bI_nar | decide) ?_
    exact ⟨_, _, rfl, rfl, ⟨Lc.rf, s, e, hx⟩, Or.inl rfl⟩
  · refine x_aload_n hm rfl rfl ?_
    refine x_aload_n hm rfl rfl ?_
    refine x_cVe hm rfl rfl (t97 hx ht) (fun v2 r2 => ?_)
    refine x_if_ne hm rfl (t := 18) rfl (fun h3 => ?_) (fun h3 => ?_)
    · refine x_aload_n hm rfl rfl ?_
      refine x_cVv hm rfl rfl (t92 hx) (fun M4 r4 => ?_)
      first
        | (obtain ⟨k1, s2, e2, k2⟩ := r4; exact l110 (x := 0) k1 k2)
        | (obtain ⟨k1, s2, e2, k2⟩ := r2; exact l110 (x := 0) k1 k2)
        | (obtain ⟨k1, s2, e2, k2⟩ := r1; exact l110 (x := 0) k1 k2)
        | (obtain ⟨k1, s2, e2, k2⟩ := r3; exact l110 (x := 0) k1 k2)
        | (obtain ⟨k1, s2, e2, k2⟩ := r5; exact l110 (x := 0) k1 k2)
        | (obtain ⟨k1, s2, e2, k2⟩ := r6; exact l110 (x := 0) k1 k2)
        | (obtain ⟨k1, s2, e2, k2⟩ := r7; exact l110 (x := 0) k1 k2)
        | (obtain ⟨k1, s2, e2, k2⟩ := r8; exact l110 (x := 0) k1 k2)
    · refine x_iload_n hm rfl rfl ?_
      refine x_iret hm rfl rfl (by first | rfl | exact bI_nar | decide) ?_
      exact ⟨_, _, rfl, rfl, ⟨Lc.rf, s, e, hx⟩, Or.inl rfl⟩
end CT
