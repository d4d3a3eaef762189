/-! ===== the reference: must, number ===== -/
section RN
variable {X : mSc} {Q : Option Value → mHp → Prop} {M : mM}
/-- where the reading stands: begins, ends, taped -/
def Tx (b e c : Nat) (M : mM) : Prop := M 66 10 = nI b ∧ M 66 11 = nI e ∧ M 66 9 = nI c ∧ b ≤ e ∧ e ≤ c ∧ c ≤ 120 ∧ (¬ M 66 12 = 0 → b < e)
def Ly (M M' : mM) : Prop := ∀ a x, (a ≠ 66 ∨ x < 10 ∨ 14 < x) → M' a x = M a x
theorem Ly.rf : Ly M M := fun _ _ _ => rfl
theorem Ly.trans {M1 M2 : mM} (h : Ly M M1) (g : Ly M1 M2) : Ly M M2 := fun a x hx => (g a x hx).trans (h a x hx)
theorem Lx.ly {M1 : mM} (h : Lx M M1) : Ly M M1 := fun a x hx => h a x (by omega)
theorem Ly.flag {v : Int32} : Ly M (mput M 66 14 v) := fun a y h => by
  unfold mput
  rw [if_neg]
  rintro ⟨e1, e2⟩
  omega
theorem Tx.flag {b e c : Nat} {v : Int32} (h : Tx b e c M) : Tx b e c (mput M 66 14 v) := by
  obtain ⟨h1, h2, h3, h4, h5, h6, h7⟩ := h
  exact ⟨(mpf (by decide)).trans h1, (mpf (by decide)).trans h2, (mpf (by decide)).trans h3, h4, h5, h6, fun q => h7 (by rwa [mpf (by decide)] at q)⟩
theorem t226 {b e c : Nat} {x : Int32} (hT : Tx b e c M) : ∃ M', mT X 226 [.ref 66, .int x] (con M) none (con M') ∧ ∃ b' e', Tx b' e' c M' ∧ Ly M M' ∧ b ≤ b' ∧ (M' 66 14 = 0 → M 66 14 = 0 ∧ ¬ x = 0 ∧ e ≤ b') := by
  refine tv_of (row := _) rfl (Nat.le_of_ble_eq_true rfl) ?_
  have hm : mMet 226 = some _ := rfl
  refine x_aload_n hm rfl rfl ?_
  refine x_aload_n hm rfl rfl ?_
  refine x_getf hm rfl (gI rfl rfl) ?_
  refine x_if_ne hm rfl (t := 12) rfl (fun h1 => ?_) (fun h1 => ?_)
  · refine x_iconst hm rfl (v := nI 1) (by decide) ?_
    refine x_goto hm rfl (t := 17) rfl ?_
    refine x_putf hm rfl (pI rfl rfl (by decide) (by first | exact mFit_int | rfl | decide) rfl) ?_
    refine x_aload_n hm rfl rfl ?_
    refine x_getf hm rfl (gI rfl rfl) ?_
    rw [mp0]
    refine x_if_ne hm rfl (t := 31) rfl (fun h2 => ?_) (fun h2 => ?_)
    · refine x_ret hm rfl rfl ?_
      first
        | exact absurd (by decide : nI 0 = (0 : Int32)) (by assumption)
        | exact ⟨_, rfl, rfl, b, e, hT.flag, Ly.flag, Nat.le_refl _, fun q => absurd (mp0.symm.trans q) (by decide)⟩
        | (obtain ⟨b1, e1, g1, g2, g3, g4, g5, g6, g7⟩ := r2; exact ⟨_, rfl, rfl, b1, e1, ⟨g1, g2, (g7 66 9 (by omega)).trans hT.flag.2.2.1, g4, g5, hT.2.2.2.2.2.1, g6⟩, Ly.flag.trans g7.ly, Nat.le_trans hT.2.2.2.1 g3, fun _ => ⟨by assumption, by assumption, g3⟩⟩)
        | (obtain ⟨b1, e1, g1, g2, g3, g4, g5, g6, g7⟩ := r3; exact ⟨_, rfl, rfl, b1, e1, ⟨g1, g2, (g7 66 9 (by omega)).trans hT.flag.2.2.1, g4, g5, hT.2.2.2.2.2.1, g6⟩, Ly.flag.trans g7.ly, Nat.le_trans hT.2.2.2.1 g3, fun _ => ⟨by assumption, by assumption, g3⟩⟩)
        | (obtain ⟨b1, e1, g1, g2, g3, g4, g5, g6, g7⟩ := r4; exact ⟨_, rfl, rfl, b1, e1, ⟨g1, g2, (g7 66 9 (by omega)).trans hT.flag.2.2.1, g4, g5, hT.2.2.2.2.2.1, g6⟩, Ly.flag.trans g7.ly, Nat.le_trans hT.2.2.2.1 g3, fun _ => ⟨by assumption, by assumption, g3⟩⟩)
        | (obtain ⟨b1, e1, g1, g2, g3, g4, g5, g6, g7⟩ := r5; exact ⟨_, rfl, rfl, b1, e1, ⟨g1, g2, (g7 66 9 (by omega)).trans hT.flag.2.2.1, g4, g5, hT.2.2.2.2.2.1, g6⟩, Ly.flag.trans g7.ly, Nat.le_trans hT.2.2.2.1 g3, fun _ => ⟨by assumption, by assumption, g3⟩⟩)
        | (obtain ⟨b1, e1, g1, g2, g3, g4, g5, g6, g7⟩ := r6; exact ⟨_, rfl, rfl, b1, e1, ⟨g1, g2, (g7 66 9 (by omega)).trans hT.flag.2.2.1, g4, g5, hT.2.2.2.2.2.1, g6⟩, Ly.flag.trans g7.ly, Nat.le_trans hT.2.2.2.1 g3, fun _ => ⟨by assumption, by assumption, g3⟩⟩)
        | (obtain ⟨b1, e1, g1, g2, g3, g4, g5, g6, g7⟩ := r7; exact ⟨_, rfl, rfl, b1, e1, ⟨g1, g2, (g7 66 9 (by omega)).trans hT.flag.2.2.1, g4, g5, hT.2.2.2.2.2.1, g6⟩, Ly.flag.trans g7.ly, Nat.le_trans hT.2.2.2.1 g3, fun _ => ⟨by assumption, by assumption, g3⟩⟩)
        | (obtain ⟨b1, e1, g1, g2, g3, g4, g5, g6, g7⟩ := r8; exact ⟨_, rfl, rfl, b1, e1, ⟨g1, g2, (g7 66 9 (by omega)).trans hT.flag.2.2.1, g4, g5, hT.2.2.2.2.2.1, g6⟩, Ly.flag.trans g7.ly, Nat.le_trans hT.2.2.2.1 g3, fun _ => ⟨by assumption, by assumption, g3⟩⟩)
        | (obtain ⟨b1, e1, g1, g2, g3, g4, g5, g6, g7⟩ := r9; exact ⟨_, rfl, rfl, b1, e1, ⟨g1, g2, (g7 66 9 (by omega)).trans hT.flag.2.2.1, g4, g5, hT.2.2.2.2.2.1, g6⟩, Ly.flag.trans g7.ly, Nat.le_trans hT.2.2.2.1 g3, fun _ => ⟨by assumption, by assumption, g3⟩⟩)
        | (obtain ⟨b1, e1, g1, g2, g3, g4, g5, g6, g7⟩ := r10; exact ⟨_, rfl, rfl, b1, e1, ⟨g1, g2, (g7 66 9 (by omega)).trans hT.flag.2.2.1, g4, g5, hT.2.2.2.2.2.1, g6⟩, Ly.flag.trans g7.ly, Nat.le_trans hT.2.2.2.1 g3, fun _ => ⟨by assumption, by assumption, g3⟩⟩)
        | (obtain ⟨b1, e1, g1, g2, g3, g4, g5, g6, g7⟩ := r11; exact ⟨_, rfl, rfl, b1, e1, ⟨g1, g2, (g7 66 9 (by omega)).trans hT.flag.2.2.1, g4, g5, hT.2.2.2.2.2.1, g6⟩, Ly.flag.trans g7.ly, Nat.le_trans hT.2.2.2.1 g3, fun _ => ⟨by assumption, by assumption, g3⟩⟩)
        | (obtain ⟨b1, e1, g1, g2, g3, g4, g5, g6, g7⟩ := r2; exact ⟨_, rfl, rfl, b1, e1, ⟨g1, g2, (g7 66 9 (by omega)).trans hT.flag.2.2.1, g4, g5, hT.2.2.2.2.2.1, g6⟩, Ly.flag.trans g7.ly, Nat.le_trans hT.2.2.2.1 g3, fun q => absurd (((g7 66 14 (by omega)).trans mp0).symm.trans q) (by decide)⟩)
        | (obtain ⟨b1, e1, g1, g2, g3, g4, g5, g6, g7⟩ := r3; exact ⟨_, rfl, rfl, b1, e1, ⟨g1, g2, (g7 66 9 (by omega)).trans hT.flag.2.2.1, g4, g5, hT.2.2.2.2.2.1, g6⟩, Ly.flag.trans g7.ly, Nat.le_trans hT.2.2.2.1 g3, fun q => absurd (((g7 66 14 (by omega)).trans mp0).symm.trans q) (by decide)⟩)
        | (obtain ⟨b1, e1, g1, g2, g3, g4, g5, g6, g7⟩ := r4; exact ⟨_, rfl, rfl, b1, e1, ⟨g1, g2, (g7 66 9 (by omega)).trans hT.flag.2.2.1, g4, g5, hT.2.2.2.2.2.1, g6⟩, Ly.flag.trans g7.ly, Nat.le_trans hT.2.2.2.1 g3, fun q => absurd (((g7 66 14 (by omega)).trans mp0).symm.trans q) (by decide)⟩)
        | (obtain ⟨b1, e1, g1, g2, g3, g4, g5, g6, g7⟩ := r5; exact ⟨_, rfl, rfl, b1, e1, ⟨g1, g2, (g7 66 9 (by omega)).trans hT.flag.2.2.1, g4, g5, hT.2.2.2.2.2.1, g6⟩, Ly.flag.trans g7.ly, Nat.le_trans hT.2.2.2.1 g3, fun q => absurd (((g7 66 14 (by omega)).trans mp0).symm.trans q) (by decide)⟩)
        | (obtain ⟨b1, e1, g1, g2, g3, g4, g5, g6, g7⟩ := r6; exact ⟨_, rfl, rfl, b1, e1, ⟨g1, g2, (g7 66 9 (by omega)).trans hT.flag.2.2.1, g4, g5, hT.2.2.2.2.2.1, g6⟩, Ly.flag.trans g7.ly, Nat.le_trans hT.2.2.2.1 g3, fun q => absurd (((g7 66 14 (by omega)).trans mp0).symm.trans q) (by decide)⟩)
        | (obtain ⟨b1, e1, g1, g2, g3, g4, g5, g6, g7⟩ := r7; exact ⟨_, rfl, rfl, b1, e1, ⟨g1, g2, (g7 66 9 (by omega)).trans hT.flag.2.2.1, g4, g5, hT.2.2.2.2.2.1, g6⟩, Ly.flag.trans g7.ly, Nat.le_trans hT.2.2.2.1 g3, fun q => absurd (((g7 66 14 (by omega)).trans mp0).symm.trans q) (by decide)⟩)
        | (obtain ⟨b1, e1, g1, g2, g3, g4, g5, g6, g7⟩ := r8; exact ⟨_, rfl, rfl, b1, e1, ⟨g1, g2, (g7 66 9 (by omega)).trans hT.flag.2.2.1, g4, g5, hT.2.2.2.2.2.1, g6⟩, Ly.flag.trans g7.ly, Nat.le_trans hT.2.2.2.1 g3, fun q => absurd (((g7 66 14 (by omega)).trans mp0).symm.trans q) (by decide)⟩)
        | (obtain ⟨b1, e1, g1, g2, g3, g4, g5, g6, g7⟩ := r9; exact ⟨_, rfl, rfl, b1, e1, ⟨g1, g2, (g7 66 9 (by omega)).trans hT.flag.2.2.1, g4, g5, hT.2.2.2.2.2.1, g6⟩, Ly.flag.trans g7.ly, Nat.le_trans hT.2.2.2.1 g3, fun q => absurd (((g7 66 14 (by omega)).trans mp0).symm.trans q) (by decide)⟩)
        | (obtain ⟨b1, e1, g1, g2, g3, g4, g5, g6, g7⟩ := r10; exact ⟨_, rfl, rfl, b1, e1, ⟨g1, g2, (g7 66 9 (by omega)).trans hT.flag.2.2.1, g4, g5, hT.2.2.2.2.2.1, g6⟩, Ly.flag.trans g7.ly, Nat.le_trans hT.2.2.2.1 g3, fun q => absurd (((g7 66 14 (by omega)).trans mp0).symm.trans q) (by decide)⟩)
        | (obtain ⟨b1, e1, g1, g2, g3, g4, g5, g6, g7⟩ := r11; exact ⟨_, rfl, rfl, b1, e1, ⟨g1, g2, (g7 66 9 (by omega)).trans hT.flag.2.2.1, g4, g5, hT.2.2.2.2.2.1, g6⟩, Ly.flag.trans g7.ly, Nat.le_trans hT.2.2.2.1 g3, fun q => absurd (((g7 66 14 (by omega)).trans mp0).symm.trans q) (by decide)⟩)
    · refine x_aload_n hm rfl rfl ?_
      refine x_cVv hm rfl rfl (t221 hT.flag.2.2.1 hT.2.2.2.2.2.1 hT.flag.2.1 hT.2.2.2.2.1) (fun M3 r3 => ?_)
      refine x_ret hm rfl rfl ?_
      first
        | (obtain ⟨b1, e1, g1, g2, g3, g4, g5, g6, g7⟩ := r3; exact ⟨_, rfl, rfl, b1, e1, ⟨g1, g2, (g7 66 9 (by omega)).trans hT.flag.2.2.1, g4, g5, hT.2.2.2.2.2.1, g6⟩, Ly.flag.trans g7.ly, Nat.le_trans hT.2.2.2.1 g3, fun _ => ⟨by assumption, by assumption, g3⟩⟩)
        | (obtain ⟨b1, e1, g1, g2, g3, g4, g5, g6, g7⟩ := r3; exact ⟨_, rfl, rfl, b1, e1, ⟨g1, g2, (g7 66 9 (by omega)).trans hT.flag.2.2.1, g4, g5, hT.2.2.2.2.2.1, g6⟩, Ly.flag.trans g7.ly, Nat.le_trans hT.2.2.2.1 g3, fun q => absurd (((g7 66 14 (by omega)).trans mp0).symm.trans q) (by decide)⟩)
        | exact absurd (by decide : nI 0 = (0 : Int32)) (by assumption)
        | exact ⟨_, rfl, rfl, b, e, hT.flag, Ly.flag, Nat.le_refl _, fun q => absurd (mp0.symm.trans q) (by decide)⟩
        | (obtain ⟨b1, e1, g1, g2, g3, g4, g5, g6, g7⟩ := r2; exact ⟨_, rfl, rfl, b1, e1, ⟨g1, g2, (g7 66 9 (by omega)).trans hT.flag.2.2.1, g4, g5, hT.2.2.2.2.2.1, g6⟩, Ly.flag.trans g7.ly, Nat.le_trans hT.2.2.2.1 g3, fun _ => ⟨by assumption, by assumption, g3⟩⟩)
        | (obtain ⟨b1, e1, g1, g2, g3, g4, g5, g6, g7⟩ := r4; exact ⟨_, rfl, rfl, b1, e1, ⟨g1, g2, (g7 66 9 (by omega)).trans hT.flag.2.2.1, g4, g5, hT.2.2.2.2.2.1, g6⟩, Ly.flag.trans g7.ly, Nat.le_trans hT.2.2.2.1 g3, fun _ => ⟨by assumption, by assumption, g3⟩⟩)
        | (obtain ⟨b1, e1, g1, g2, g3, g4, g5, g6, g7⟩ := r5; exact ⟨_, rfl, rfl, b1, e1, ⟨g1, g2, (g7 66 9 (by omega)).trans hT.flag.2.2.1, g4, g5, hT.2.2.2.2.2.1, g6⟩, Ly.flag.trans g7.ly, Nat.le_trans hT.2.2.2.1 g3, fun _ => ⟨by assumption, by assumption, g3⟩⟩)
        | (obtain ⟨b1, e1, g1, g2, g3, g4, g5, g6, g7⟩ := r6; exact ⟨_, rfl, rfl, b1, e1, ⟨g1, g2, (g7 66 9 (by omega)).trans hT.flag.2.2.1, g4, g5, hT.2.2.2.2.2.1, g6⟩, Ly.flag.trans g7.ly, Nat.le_trans hT.2.2.2.1 g3, fun _ => ⟨by assumption, by assumption, g3⟩⟩)
        | (obtain ⟨b1, e1, g1, g2, g3, g4, g5, g6, g7⟩ := r7; exact ⟨_, rfl, rfl, b1, e1, ⟨g1, g2, (g7 66 9 (by omega)).trans hT.flag.2.2.1, g4, g5, hT.2.2.2.2.2.1, g6⟩, Ly.flag.trans g7.ly, Nat.le_trans hT.2.2.2.1 g3, fun _ => ⟨by assumption, by assumption, g3⟩⟩)
        | (obtain ⟨b1, e1, g1, g2, g3, g4, g5, g6, g7⟩ := r8; exact ⟨_, rfl, rfl, b1, e1, ⟨g1, g2, (g7 66 9 (by omega)).trans hT.flag.2.2.1, g4, g5, hT.2.2.2.2.2.1, g6⟩, Ly.flag.trans g7.ly, Nat.le_trans hT.2.2.2.1 g3, fun _ => ⟨by assumption, by assumption, g3⟩⟩)
        | (obtain ⟨b1, e1, g1, g2, g3, g4, g5, g6, g7⟩ := r9; exact ⟨_, rfl, rfl, b1, e1, ⟨g1, g2, (g7 66 9 (by omega)).trans hT.flag.2.2.1, g4, g5, hT.2.2.2.2.2.1, g6⟩, Ly.flag.trans g7.ly, Nat.le_trans hT.2.2.2.1 g3, fun _ => ⟨by assumption, by assumption, g3⟩⟩)
        | (obtain ⟨b1, e1, g1, g2, g3, g4, g5, g6, g7⟩ := r10; exact ⟨_, rfl, rfl, b1, e1, ⟨g1, g2, (g7 66 9 (by omega)).trans hT.flag.2.2.1, g4, g5, hT.2.2.2.2.2.1, g6⟩, Ly.flag.trans g7.ly, Nat.le_trans hT.2.2.2.1 g3, fun _ => ⟨by assumption, by assumption, g3⟩⟩)
        | (obtain ⟨b1, e1, g1, g2, g3, g4, g5, g6, g7⟩ := r11; exact ⟨_, rfl, rfl, b1, e1, ⟨g1, g2, (g7 66 9 (by omega)).trans hT.flag.2.2.1, g4, g5, hT.2.2.2.2.2.1, g6⟩, Ly.flag.trans g7.ly, Nat.le_trans hT.2.2.2.1 g3, fun _ => ⟨by assumption, by assumption, g3⟩⟩)
        | (obtain ⟨b1, e1, g1, g2, g3, g4, g5, g6, g7⟩ := r2; exact ⟨_, rfl, rfl, b1, e1, ⟨g1, g2, (g7 66 9 (by omega)).trans hT.flag.2.2.1, g4, g5, hT.2.2.2.2.2.1, g6⟩, Ly.flag.trans g7.ly, Nat.le_trans hT.2.2.2.1 g3, fun q => absurd (((g7 66 14 (by omega)).trans mp0).symm.trans q) (by decide)⟩)
        | (obtain ⟨b1, e1, g1, g2, g3, g4, g5, g6, g7⟩ := r4; exact ⟨_, rfl, rfl, b1, e1, ⟨g1, g2, (g7 66 9 (by omega)).trans hT.flag.2.2.1, g4, g5, hT.2.2.2.2.2.1, g6⟩, Ly.flag.trans g7.ly, Nat.le_trans hT.2.2.2.1 g3, fun q => absurd (((g7 66 14 (by omega)).trans mp0).symm.trans q) (by decide)⟩)
        | (obtain ⟨b1, e1, g1, g2, g3, g4, g5, g6, g7⟩ := r5; exact ⟨_, rfl, rfl, b1, e1, ⟨g1, g2, (g7 66 9 (by omega)).trans hT.flag.2.2.1, g4, g5, hT.2.2.2.2.2.1, g6⟩, Ly.flag.trans g7.ly, Nat.le_trans hT.2.2.2.1 g3, fun q => absurd (((g7 66 14 (by omega)).trans mp0).symm.trans q) (by decide)⟩)
        | (obtain ⟨b1, e1, g1, g2, g3, g4, g5, g6, g7⟩ := r6; exact ⟨_, rfl, rfl, b1, e1, ⟨g1, g2, (g7 66 9 (by omega)).trans hT.flag.2.2.1, g4, g5, hT.2.2.2.2.2.1, g6⟩, Ly.flag.trans g7.ly, Nat.le_trans hT.2.2.2.1 g3, fun q => absurd (((g7 66 14 (by omega)).trans mp0).symm.trans q) (by decide)⟩)
        | (obtain ⟨b1, e1, g1, g2, g3, g4, g5, g6, g7⟩ := r7; exact ⟨_, rfl, rfl, b1, e1, ⟨g1, g2, (g7 66 9 (by omega)).trans hT.flag.2.2.1, g4, g5, hT.2.2.2.2.2.1, g6⟩, Ly.flag.trans g7.ly, Nat.le_trans hT.2.2.2.1 g3, fun q => absurd (((g7 66 14 (by omega)).trans mp0).symm.trans q) (by decide)⟩)
        | (obtain ⟨b1, e1, g1, g2, g3, g4, g5, g6, g7⟩ := r8; exact ⟨_, rfl, rfl, b1, e1, ⟨g1, g2, (g7 66 9 (by omega)).trans hT.flag.2.2.1, g4, g5, hT.2.2.2.2.2.1, g6⟩, Ly.flag.trans g7.ly, Nat.le_trans hT.2.2.2.1 g3, fun q => absurd (((g7 66 14 (by omega)).trans mp0).symm.trans q) (by decide)⟩)
        | (obtain ⟨b1, e1, g1, g2, g3, g4, g5, g6, g7⟩ := r9; exact ⟨_, rfl, rfl, b1, e1, ⟨g1, g2, (g7 66 9 (by omega)).trans hT.flag.2.2.1, g4, g5, hT.2.2.2.2.2.1, g6⟩, Ly.flag.trans g7.ly, Nat.le_trans hT.2.2.2.1 g3, fun q => absurd (((g7 66 14 (by omega)).trans mp0).symm.trans q) (by decide)⟩)
        | (obtain ⟨b1, e1, g1, g2, g3, g4, g5, g6, g7⟩ := r10; exact ⟨_, rfl, rfl, b1, e1, ⟨g1, g2, (g7 66 9 (by omega)).trans hT.flag.2.2.1, g4, g5, hT.2.2.2.2.2.1, g6⟩, Ly.flag.trans g7.ly, Nat.le_trans hT.2.2.2.1 g3, fun q => absurd (((g7 66 14 (by omega)).trans mp0).symm.trans q) (by decide)⟩)
        | (obtain ⟨b1, e1, g1, g2, g3, g4, g5, g6, g7⟩ := r11; exact ⟨_, rfl, rfl, b1, e1, ⟨g1, g2, (g7 66 9 (by omega)).trans hT.flag.2.2.1, g4, g5, hT.2.2.2.2.2.1, g6⟩, Ly.flag.trans g7.ly, Nat.le_trans hT.2.2.2.1 g3, fun q => absurd (((g7 66 14 (by omega)).trans mp0).symm.trans q) (by decide)⟩)
  · refine x_iload_n hm rfl rfl ?_
    refine x_if_ne hm rfl (t := 16) rfl (fun h4 => ?_) (fun h4 => ?_)
    · refine x_iconst hm rfl (v := nI 0) (by decide) ?_
      refine x_putf hm rfl (pI rfl rfl (by decide) (by first | exact mFit_int | rfl | decide) rfl) ?_
      refine x_aload_n hm rfl rfl ?_
      refine x_getf hm rfl (gI rfl rfl) ?_
      rw [mp0]
      refine x_if_ne hm rfl (t := 31) rfl (fun h5 => ?_) (fun h5 => ?_)
      · refine x_ret hm rfl rfl ?_
        first
          | exact absurd (by decide : nI 0 = (0 : Int32)) (by assumption)
          | exact ⟨_, rfl, rfl, b, e, hT.flag, Ly.flag, Nat.le_refl _, fun q => absurd (mp0.symm.trans q) (by decide)⟩
          | (obtain ⟨b1, e1, g1, g2, g3, g4, g5, g6, g7⟩ := r2; exact ⟨_, rfl, rfl, b1, e1, ⟨g1, g2, (g7 66 9 (by omega)).trans hT.flag.2.2.1, g4, g5, hT.2.2.2.2.2.1, g6⟩, Ly.flag.trans g7.ly, Nat.le_trans hT.2.2.2.1 g3, fun _ => ⟨by assumption, by assumption, g3⟩⟩)
          | (obtain ⟨b1, e1, g1, g2, g3, g4, g5, g6, g7⟩ := r3; exact ⟨_, rfl, rfl, b1, e1, ⟨g1, g2, (g7 66 9 (by omega)).trans hT.flag.2.2.1, g4, g5, hT.2.2.2.2.2.1, g6⟩, Ly.flag.trans g7.ly, Nat.le_trans hT.2.2.2.1 g3, fun _ => ⟨by assumption, by assumption, g3⟩⟩)
          | (obtain ⟨b1, e1, g1, g2, g3, g4, g5, g6, g7⟩ := r4; exact ⟨_, rfl, rfl, b1, e1, ⟨g1, g2, (g7 66 9 (by omega)).trans hT.flag.2.2.1, g4, g5, hT.2.2.2.2.2.1, g6⟩, Ly.flag.trans g7.ly, Nat.le_trans hT.2.2.2.1 g3, fun _ => ⟨by assumption, by assumption, g3⟩⟩)
          | (obtain ⟨b1, e1, g1, g2, g3, g4, g5, g6, g7⟩ := r5; exact ⟨_, rfl, rfl, b1, e1, ⟨g1, g2, (g7 66 9 (by omega)).trans hT.flag.2.2.1, g4, g5, hT.2.2.2.2.2.1, g6⟩, Ly.flag.trans g7.ly, Nat.le_trans hT.2.2.2.1 g3, fun _ => ⟨by assumption, by assumption, g3⟩⟩)
          | (obtain ⟨b1, e1, g1, g2, g3, g4, g5, g6, g7⟩ := r6; exact ⟨_, rfl, rfl, b1, e1, ⟨g1, g2, (g7 66 9 (by omega)).trans hT.flag.2.2.1, g4, g5, hT.2.2.2.2.2.1, g6⟩, Ly.flag.trans g7.ly, Nat.le_trans hT.2.2.2.1 g3, fun _ => ⟨by assumption, by assumption, g3⟩⟩)
          | (obtain ⟨b1, e1, g1, g2, g3, g4, g5, g6, g7⟩ := r7; exact ⟨_, rfl, rfl, b1, e1, ⟨g1, g2, (g7 66 9 (by omega)).trans hT.flag.2.2.1, g4, g5, hT.2.2.2.2.2.1, g6⟩, Ly.flag.trans g7.ly, Nat.le_trans hT.2.2.2.1 g3, fun _ => ⟨by assumption, by assumption, g3⟩⟩)
          | (obtain ⟨b1, e1, g1, g2, g3, g4, g5, g6, g7⟩ := r8; exact ⟨_, rfl, rfl, b1, e1, ⟨g1, g2, (g7 66 9 (by omega)).trans hT.flag.2.2.1, g4, g5, hT.2.2.2.2.2.1, g6⟩, Ly.flag.trans g7.ly, Nat.le_trans hT.2.2.2.1 g3, fun _ => ⟨by assumption, by assumption, g3⟩⟩)
          | (obtain ⟨b1, e1, g1, g2, g3, g4, g5, g6, g7⟩ := r9; exact ⟨_, rfl, rfl, b1, e1, ⟨g1, g2, (g7 66 9 (by omega)).trans hT.flag.2.2.1, g4, g5, hT.2.2.2.2.2.1, g6⟩, Ly.flag.trans g7.ly, Nat.le_trans hT.2.2.2.1 g3, fun _ => ⟨by assumption, by assumption, g3⟩⟩)
          | (obtain ⟨b1, e1, g1, g2, g3, g4, g5, g6, g7⟩ := r10; exact ⟨_, rfl, rfl, b1, e1, ⟨g1, g2, (g7 66 9 (by omega)).trans hT.flag.2.2.1, g4, g5, hT.2.2.2.2.2.1, g6⟩, Ly.flag.trans g7.ly, Nat.le_trans hT.2.2.2.1 g3, fun _ => ⟨by assumption, by assumption, g3⟩⟩)
          | (obtain ⟨b1, e1, g1, g2, g3, g4, g5, g6, g7⟩ := r11; exact ⟨_, rfl, rfl, b1, e1, ⟨g1, g2, (g7 66 9 (by omega)).trans hT.flag.2.2.1, g4, g5, hT.2.2.2.2.2.1, g6⟩, Ly.flag.trans g7.ly, Nat.le_trans hT.2.2.2.1 g3, fun _ => ⟨by assumption, by assumption, g3⟩⟩)
          | (obtain ⟨b1, e1, g1, g2, g3, g4, g5, g6, g7⟩ := r2; exact ⟨_, rfl, rfl, b1, e1, ⟨g1, g2, (g7 66 9 (by omega)).trans hT.flag.2.2.1, g4, g5, hT.2.2.2.2.2.1, g6⟩, Ly.flag.trans g7.ly, Nat.le_trans hT.2.2.2.1 g3, fun q => absurd (((g7 66 14 (by omega)).trans mp0).symm.trans q) (by decide)⟩)
          | (obtain ⟨b1, e1, g1, g2, g3, g4, g5, g6, g7⟩ := r3; exact ⟨_, rfl, rfl, b1, e1, ⟨g1, g2, (g7 66 9 (by omega)).trans hT.flag.2.2.1, g4, g5, hT.2.2.2.2.2.1, g6⟩, Ly.flag.trans g7.ly, Nat.le_trans hT.2.2.2.1 g3, fun q => absurd (((g7 66 14 (by omega)).trans mp0).symm.trans q) (by decide)⟩)
          | (obtain ⟨b1, e1, g1, g2, g3, g4, g5, g6, g7⟩ := r4; exact ⟨_, rfl, rfl, b1, e1, ⟨g1, g2, (g7 66 9 (by omega)).trans hT.flag.2.2.1, g4, g5, hT.2.2.2.2.2.1, g6⟩, Ly.flag.trans g7.ly, Nat.le_trans hT.2.2.2.1 g3, fun q => absurd (((g7 66 14 (by omega)).trans mp0).symm.trans q) (by decide)⟩)
          | (obtain ⟨b1, e1, g1, g2, g3, g4, g5, g6, g7⟩ := r5; exact ⟨_, rfl, rfl, b1, e1, ⟨g1, g2, (g7 66 9 (by omega)).trans hT.flag.2.2.1, g4, g5, hT.2.2.2.2.2.1, g6⟩, Ly.flag.trans g7.ly, Nat.le_trans hT.2.2.2.1 g3, fun q => absurd (((g7 66 14 (by omega)).trans mp0).symm.trans q) (by decide)⟩)
          | (obtain ⟨b1, e1, g1, g2, g3, g4, g5, g6, g7⟩ := r6; exact ⟨_, rfl, rfl, b1, e1, ⟨g1, g2, (g7 66 9 (by omega)).trans hT.flag.2.2.1, g4, g5, hT.2.2.2.2.2.1, g6⟩, Ly.flag.trans g7.ly, Nat.le_trans hT.2.2.2.1 g3, fun q => absurd (((g7 66 14 (by omega)).trans mp0).symm.trans q) (by decide)⟩)
          | (obtain ⟨b1, e1, g1, g2, g3, g4, g5, g6, g7⟩ := r7; exact ⟨_, rfl, rfl, b1, e1, ⟨g1, g2, (g7 66 9 (by omega)).trans hT.flag.2.2.1, g4, g5, hT.2.2.2.2.2.1, g6⟩, Ly.flag.trans g7.ly, Nat.le_trans hT.2.2.2.1 g3, fun q => absurd (((g7 66 14 (by omega)).trans mp0).symm.trans q) (by decide)⟩)
          | (obtain ⟨b1, e1, g1, g2, g3, g4, g5, g6, g7⟩ := r8; exact ⟨_, rfl, rfl, b1, e1, ⟨g1, g2, (g7 66 9 (by omega)).trans hT.flag.2.2.1, g4, g5, hT.2.2.2.2.2.1, g6⟩, Ly.flag.trans g7.ly, Nat.le_trans hT.2.2.2.1 g3, fun q => absurd (((g7 66 14 (by omega)).trans mp0).symm.trans q) (by decide)⟩)
          | (obtain ⟨b1, e1, g1, g2, g3, g4, g5, g6, g7⟩ := r9; exact ⟨_, rfl, rfl, b1, e1, ⟨g1, g2, (g7 66 9 (by omega)).trans hT.flag.2.2.1, g4, g5, hT.2.2.2.2.2.1, g6⟩, Ly.flag.trans g7.ly, Nat.le_trans hT.2.2.2.1 g3, fun q => absurd (((g7 66 14 (by omega)).trans mp0).symm.trans q) (by decide)⟩)
          | (obtain ⟨b1, e1, g1, g2, g3, g4, g5, g6, g7⟩ := r10; exact ⟨_, rfl, rfl, b1, e1, ⟨g1, g2, (g7 66 9 (by omega)).trans hT.flag.2.2.1, g4, g5, hT.2.2.2.2.2.1, g6⟩, Ly.flag.trans g7.ly, Nat.le_trans hT.2.2.2.1 g3, fun q => absurd (((g7 66 14 (by omega)).trans mp0).symm.trans q) (by decide)⟩)
          | (obtain ⟨b1, e1, g1, g2, g3, g4, g5, g6, g7⟩ := r11; exact ⟨_, rfl, rfl, b1, e1, ⟨g1, g2, (g7 66 9 (by omega)).trans hT.flag.2.2.1, g4, g5, hT.2.2.2.2.2.1, g6⟩, Ly.flag.trans g7.ly, Nat.le_trans hT.2.2.2.1 g3, fun q => absurd (((g7 66 14 (by omega)).trans mp0).symm.trans q) (by decide)⟩)
      · refine x_aload_n hm rfl rfl ?_
        refine x_cVv hm rfl rfl (t221 hT.flag.2.2.1 hT.2.2.2.2.2.1 hT.flag.2.1 hT.2.2.2.2.1) (fun M6 r6 => ?_)
        refine x_ret hm rfl rfl ?_
        first
          | (obtain ⟨b1, e1, g1, g2, g3, g4, g5, g6, g7⟩ := r6; exact ⟨_, rfl, rfl, b1, e1, ⟨g1, g2, (g7 66 9 (by omega)).trans hT.flag.2.2.1, g4, g5, hT.2.2.2.2.2.1, g6⟩, Ly.flag.trans g7.ly, Nat.le_trans hT.2.2.2.1 g3, fun _ => ⟨by assumption, by assumption, g3⟩⟩)
          | (obtain ⟨b1, e1, g1, g2, g3, g4, g5, g6, g7⟩ := r6; exact ⟨_, rfl, rfl, b1, e1, ⟨g1, g2, (g7 66 9 (by omega)).trans hT.flag.2.2.1, g4, g5, hT.2.2.2.2.2.1, g6⟩, Ly.flag.trans g7.ly, Nat.le_trans hT.2.2.2.1 g3, fun q => absurd (((g7 66 14 (by omega)).trans mp0).symm.trans q) (by decide)⟩)
          | exact absurd (by decide : nI 0 = (0 : Int32)) (by assumption)
          | exact ⟨_, rfl, rfl, b, e, hT.flag, Ly.flag, Nat.le_refl _, fun q => absurd (mp0.symm.trans q) (by decide)⟩
          | (obtain ⟨b1, e1, g1, g2, g3, g4, g5, g6, g7⟩ := r2; exact ⟨_, rfl, rfl, b1, e1, ⟨g1, g2, (g7 66 9 (by omega)).trans hT.flag.2.2.1, g4, g5, hT.2.2.2.2.2.1, g6⟩, Ly.flag.trans g7.ly, Nat.le_trans hT.2.2.2.1 g3, fun _ => ⟨by assumption, by assumption, g3⟩⟩)
          | (obtain ⟨b1, e1, g1, g2, g3, g4, g5, g6, g7⟩ := r3; exact ⟨_, rfl, rfl, b1, e1, ⟨g1, g2, (g7 66 9 (by omega)).trans hT.flag.2.2.1, g4, g5, hT.2.2.2.2.2.1, g6⟩, Ly.flag.trans g7.ly, Nat.le_trans hT.2.2.2.1 g3, fun _ => ⟨by assumption, by assumption, g3⟩⟩)
          | (obtain ⟨b1, e1, g1, g2, g3, g4, g5, g6, g7⟩ := r4; exact ⟨_, rfl, rfl, b1, e1, ⟨g1, g2, (g7 66 9 (by omega)).trans hT.flag.2.2.1, g4, g5, hT.2.2.2.2.2.1, g6⟩, Ly.flag.trans g7.ly, Nat.le_trans hT.2.2.2.1 g3, fun _ => ⟨by assumption, by assumption, g3⟩⟩)
          | (obtain ⟨b1, e1, g1, g2, g3, g4, g5, g6, g7⟩ := r5; exact ⟨_, rfl, rfl, b1, e1, ⟨g1, g2, (g7 66 9 (by omega)).trans hT.flag.2.2.1, g4, g5, hT.2.2.2.2.2.1, g6⟩, Ly.flag.trans g7.ly, Nat.le_trans hT.2.2.2.1 g3, fun _ => ⟨by assumption, by assumption, g3⟩⟩)
          | (obtain ⟨b1, e1, g1, g2, g3, g4, g5, g6, g7⟩ := r7; exact ⟨_, rfl, rfl, b1, e1, ⟨g1, g2, (g7 66 9 (by omega)).trans hT.flag.2.2.1, g4, g5, hT.2.2.2.2.2.1, g6⟩, Ly.flag.trans g7.ly, Nat.le_trans hT.2.2.2.1 g3, fun _ => ⟨by assumption, by assumption, g3⟩⟩)
          | (obtain ⟨b1, e1, g1, g2, g3, g4, g5, g6, g7⟩ := r8; exact ⟨_, rfl, rfl, b1, e1, ⟨g1, g2, (g7 66 9 (by omega)).trans hT.flag.2.2.1, g4, g5, hT.2.2.2.2.2.1, g6⟩, Ly.flag.trans g7.ly, Nat.le_trans hT.2.2.2.1 g3, fun _ => ⟨by assumption, by assumption, g3⟩⟩)
          | (obtain ⟨b1, e1, g1, g2, g3, g4, g5, g6, g7⟩ := r9; exact ⟨_, rfl, rfl, b1, e1, ⟨g1, g2, (g7 66 9 (by omega)).trans hT.flag.2.2.1, g4, g5, hT.2.2.2.2.2.1, g6⟩, Ly.flag.trans g7.ly, Nat.le_trans hT.2.2.2.1 g3, fun _ => ⟨by assumption, by assumption, g3⟩⟩)
          | (obtain ⟨b1, e1, g1, g2, g3, g4, g5, g6, g7⟩ := r10; exact ⟨_, rfl, rfl, b1, e1, ⟨g1, g2, (g7 66 9 (by omega)).trans hT.flag.2.2.1, g4, g5, hT.2.2.2.2.2.1, g6⟩, Ly.flag.trans g7.ly, Nat.le_trans hT.2.2.2.1 g3, fun _ => ⟨by assumption, by assumption, g3⟩⟩)
          | (obtain ⟨b1, e1, g1, g2, g3, g4, g5, g6, g7⟩ := r11; exact ⟨_, rfl, rfl, b1, e1, ⟨g1, g2, (g7 66 9 (by omega)).trans hT.flag.2.2.1, g4, g5, hT.2.2.2.2.2.1, g6⟩, Ly.flag.trans g7.ly, Nat.le_trans hT.2.2.2.1 g3, fun _ => ⟨by assumption, by assumption, g3⟩⟩)
          | (obtain ⟨b1, e1, g1, g2, g3, g4, g5, g6, g7⟩ := r2; exact ⟨_, rfl, rfl, b1, e1, ⟨g1, g2, (g7 66 9 (by omega)).trans hT.flag.2.2.1, g4, g5, hT.2.2.2.2.2.1, g6⟩, Ly.flag.trans g7.ly, Nat.le_trans hT.2.2.2.1 g3, fun q => absurd (((g7 66 14 (by omega)).trans mp0).symm.trans q) (by decide)⟩)
          | (obtain ⟨b1, e1, g1, g2, g3, g4, g5, g6, g7⟩ := r3; exact ⟨_, rfl, rfl, b1, e1, ⟨g1, g2, (g7 66 9 (by omega)).trans hT.flag.2.2.1, g4, g5, hT.2.2.2.2.2.1, g6⟩, Ly.flag.trans g7.ly, Nat.le_trans hT.2.2.2.1 g3, fun q => absurd (((g7 66 14 (by omega)).trans mp0).symm.trans q) (by decide)⟩)
          | (obtain ⟨b1, e1, g1, g2, g3, g4, g5, g6, g7⟩ := r4; exact ⟨_, rfl, rfl, b1, e1, ⟨g1, g2, (g7 66 9 (by omega)).trans hT.flag.2.2.1, g4, g5, hT.2.2.2.2.2.1, g6⟩, Ly.flag.trans g7.ly, Nat.le_trans hT.2.2.2.1 g3, fun q => absurd (((g7 66 14 (by omega)).trans mp0).symm.trans q) (by decide)⟩)
          | (obtain ⟨b1, e1, g1, g2, g3, g4, g5, g6, g7⟩ := r5; exact ⟨_, rfl, rfl, b1, e1, ⟨g1, g2, (g7 66 9 (by omega)).trans hT.flag.2.2.1, g4, g5, hT.2.2.2.2.2.1, g6⟩, Ly.flag.trans g7.ly, Nat.le_trans hT.2.2.2.1 g3, fun q => absurd (((g7 66 14 (by omega)).trans mp0).symm.trans q) (by decide)⟩)
          | (obtain ⟨b1, e1, g1, g2, g3, g4, g5, g6, g7⟩ := r7; exact ⟨_, rfl, rfl, b1, e1, ⟨g1, g2, (g7 66 9 (by omega)).trans hT.flag.2.2.1, g4, g5, hT.2.2.2.2.2.1, g6⟩, Ly.flag.trans g7.ly, Nat.le_trans hT.2.2.2.1 g3, fun q => absurd (((g7 66 14 (by omega)).trans mp0).symm.trans q) (by decide)⟩)
          | (obtain ⟨b1, e1, g1, g2, g3, g4, g5, g6, g7⟩ := r8; exact ⟨_, rfl, rfl, b1, e1, ⟨g1, g2, (g7 66 9 (by omega)).trans hT.flag.2.2.1, g4, g5, hT.2.2.2.2.2.1, g6⟩, Ly.flag.trans g7.ly, Nat.le_trans hT.2.2.2.1 g3, fun q => absurd (((g7 66 14 (by omega)).trans mp0).symm.trans q) (by decide)⟩)
          | (obtain ⟨b1, e1, g1, g2, g3, g4, g5, g6, g7⟩ := r9; exact ⟨_, rfl, rfl, b1, e1, ⟨g1, g2, (g7 66 9 (by omega)).trans hT.flag.2.2.1, g4, g5, hT.2.2.2.2.2.1, g6⟩, Ly.flag.trans g7.ly, Nat.le_trans hT.2.2.2.1 g3, fun q => absurd (((g7 66 14 (by omega)).trans mp0).symm.trans q) (by decide)⟩)
          | (obtain ⟨b1, e1, g1, g2, g3, g4, g5, g6, g7⟩ := r10; exact ⟨_, rfl, rfl, b1, e1, ⟨g1, g2, (g7 66 9 (by omega)).trans hT.flag.2.2.1, g4, g5, hT.2.2.2.2.2.1, g6⟩, Ly.flag.trans g7.ly, Nat.le_trans hT.2.2.2.1 g3, fun q => absurd (((g7 66 14 (by omega)).trans mp0).symm.trans q) (by decide)⟩)
          | (obtain ⟨b1, e1, g1, g2, g3, g4, g5, g6, g7⟩ := r11; exact ⟨_, rfl, rfl, b1, e1, ⟨g1, g2, (g7 66 9 (by omega)).trans hT.flag.2.2.1, g4, g5, hT.2.2.2.2.2.1, g6⟩, Ly.flag.trans g7.ly, Nat.le_trans hT.2.2.2.1 g3, fun q => absurd (((g7 66 14 (by omega)).trans mp0).symm.trans q) (by decide)⟩)
    · refine x_iconst hm rfl (v := nI 1) (by decide) ?_
      refine x_goto hm rfl (t := 17) rfl ?_
      refine x_putf hm rfl (pI rfl rfl (by decide) (by first | exact mFit_int | rfl | decide) rfl) ?_
      refine x_aload_n hm rfl rfl ?_
      refine x_getf hm rfl (gI rfl rfl) ?_
      rw [mp0]
      refine x_if_ne hm rfl (t := 31) rfl (fun h7 => ?_) (fun h7 => ?_)
      · refine x_ret hm rfl rfl ?_
        first
          | exact absurd (by decide : nI 0 = (0 : Int32)) (by assumption)
          | exact ⟨_, rfl, rfl, b, e, hT.flag, Ly.flag, Nat.le_refl _, fun q => absurd (mp0.symm.trans q) (by decide)⟩
          | (obtain ⟨b1, e1, g1, g2, g3, g4, g5, g6, g7⟩ := r2; exact ⟨_, rfl, rfl, b1, e1, ⟨g1, g2, (g7 66 9 (by omega)).trans hT.flag.2.2.1, g4, g5, hT.2.2.2.2.2.1, g6⟩, Ly.flag.trans g7.ly, Nat.le_trans hT.2.2.2.1 g3, fun _ => ⟨by assumption, by assumption, g3⟩⟩)
          | (obtain ⟨b1, e1, g1, g2, g3, g4, g5, g6, g7⟩ := r3; exact ⟨_, rfl, rfl, b1, e1, ⟨g1, g2, (g7 66 9 (by omega)).trans hT.flag.2.2.1, g4, g5, hT.2.2.2.2.2.1, g6⟩, Ly.flag.trans g7.ly, Nat.le_trans hT.2.2.2.1 g3, fun _ => ⟨by assumption, by assumption, g3⟩⟩)
          | (obtain ⟨b1, e1, g1, g2, g3, g4, g5, g6, g7⟩ := r4; exact ⟨_, rfl, rfl, b1, e1, ⟨g1, g2, (g7 66 9 (by omega)).trans hT.flag.2.2.1, g4, g5, hT.2.2.2.2.2.1, g6⟩, Ly.flag.trans g7.ly, Nat.le_trans hT.2.2.2.1 g3, fun _ => ⟨by assumption, by assumption, g3⟩⟩)
          | (obtain ⟨b1, e1, g1, g2, g3, g4, g5, g6, g7⟩ := r5; exact ⟨_, rfl, rfl, b1, e1, ⟨g1, g2, (g7 66 9 (by omega)).trans hT.flag.2.2.1, g4, g5, hT.2.2.2.2.2.1, g6⟩, Ly.flag.trans g7.ly, Nat.le_trans hT.2.2.2.1 g3, fun _ => ⟨by assumption, by assumption, g3⟩⟩)
          | (obtain ⟨b1, e1, g1, g2, g3, g4, g5, g6, g7⟩ := r6; exact ⟨_, rfl, rfl, b1, e1, ⟨g1, g2, (g7 66 9 (by omega)).trans hT.flag.2.2.1, g4, g5, hT.2.2.2.2.2.1, g6⟩, Ly.flag.trans g7.ly, Nat.le_trans hT.2.2.2.1 g3, fun _ => ⟨by assumption, by assumption, g3⟩⟩)
          | (obtain ⟨b1, e1, g1, g2, g3, g4, g5, g6, g7⟩ := r7; exact ⟨_, rfl, rfl, b1, e1, ⟨g1, g2, (g7 66 9 (by omega)).trans hT.flag.2.2.1, g4, g5, hT.2.2.2.2.2.1, g6⟩, Ly.flag.trans g7.ly, Nat.le_trans hT.2.2.2.1 g3, fun _ => ⟨by assumption, by assumption, g3⟩⟩)
          | (obtain ⟨b1, e1, g1, g2, g3, g4, g5, g6, g7⟩ := r8; exact ⟨_, rfl, rfl, b1, e1, ⟨g1, g2, (g7 66 9 (by omega)).trans hT.flag.2.2.1, g4, g5, hT.2.2.2.2.2.1, g6⟩, Ly.flag.trans g7.ly, Nat.le_trans hT.2.2.2.1 g3, fun _ => ⟨by assumption, by assumption, g3⟩⟩)
          | (obtain ⟨b1, e1, g1, g2, g3, g4, g5, g6, g7⟩ := r9; exact ⟨_, rfl, rfl, b1, e1, ⟨g1, g2, (g7 66 9 (by omega)).trans hT.flag.2.2.1, g4, g5, hT.2.2.2.2.2.1, g6⟩, Ly.flag.trans g7.ly, Nat.le_trans hT.2.2.2.1 g3, fun _ => ⟨by assumption, by assumption, g3⟩⟩)
          | (obtain ⟨b1, e1, g1, g2, g3, g4, g5, g6, g7⟩ := r10; exact ⟨_, rfl, rfl, b1, e1, ⟨g1, g2, (g7 66 9 (by omega)).trans hT.flag.2.2.1, g4, g5, hT.2.2.2.2.2.1, g6⟩, Ly.flag.trans g7.ly, Nat.le_trans hT.2.2.2.1 g3, fun _ => ⟨by assumption, by assumption, g3⟩⟩)
          | (obtain ⟨b1, e1, g1, g2, g3, g4, g5, g6, g7⟩ := r11; exact ⟨_, rfl, rfl, b1, e1, ⟨g1, g2, (g7 66 9 (by omega)).trans hT.flag.2.2.1, g4, g5, hT.2.2.2.2.2.1, g6⟩, Ly.flag.trans g7.ly, Nat.le_trans hT.2.2.2.1 g3, fun _ => ⟨by assumption, by assumption, g3⟩⟩)
          | (obtain ⟨b1, e1, g1, g2, g3, g4, g5, g6, g7⟩ := r2; exact ⟨_, rfl, rfl, b1, e1, ⟨g1, g2, (g7 66 9 (by omega)).trans hT.flag.2.2.1, g4, g5, hT.2.2.2.2.2.1, g6⟩, Ly.flag.trans g7.ly, Nat.le_trans hT.2.2.2.1 g3, fun q => absurd (((g7 66 14 (by omega)).trans mp0).symm.trans q) (by decide)⟩)
          | (obtain ⟨b1, e1, g1, g2, g3, g4, g5, g6, g7⟩ := r3; exact ⟨_, rfl, rfl, b1, e1, ⟨g1, g2, (g7 66 9 (by omega)).trans hT.flag.2.2.1, g4, g5, hT.2.2.2.2.2.1, g6⟩, Ly.flag.trans g7.ly, Nat.le_trans hT.2.2.2.1 g3, fun q => absurd (((g7 66 14 (by omega)).trans mp0).symm.trans q) (by decide)⟩)
          | (obtain ⟨b1, e1, g1, g2, g3, g4, g5, g6, g7⟩ := r4; exact ⟨_, rfl, rfl, b1, e1, ⟨g1, g2, (g7 66 9 (by omega)).trans hT.flag.2.2.1, g4, g5, hT.2.2.2.2.2.1, g6⟩, Ly.flag.trans g7.ly, Nat.le_trans hT.2.2.2.1 g3, fun q => absurd (((g7 66 14 (by omega)).trans mp0).symm.trans q) (by decide)⟩)
          | (obtain ⟨b1, e1, g1, g2, g3, g4, g5, g6, g7⟩ := r5; exact ⟨_, rfl, rfl, b1, e1, ⟨g1, g2, (g7 66 9 (by omega)).trans hT.flag.2.2.1, g4, g5, hT.2.2.2.2.2.1, g6⟩, Ly.flag.trans g7.ly, Nat.le_trans hT.2.2.2.1 g3, fun q => absurd (((g7 66 14 (by omega)).trans mp0).symm.trans q) (by decide)⟩)
          | (obtain ⟨b1, e1, g1, g2, g3, g4, g5, g6, g7⟩ := r6; exact ⟨_, rfl, rfl, b1, e1, ⟨g1, g2, (g7 66 9 (by omega)).trans hT.flag.2.2.1, g4, g5, hT.2.2.2.2.2.1, g6⟩, Ly.flag.trans g7.ly, Nat.le_trans hT.2.2.2.1 g3, fun q => absurd (((g7 66 14 (by omega)).trans mp0).symm.trans q) (by decide)⟩)
          | (obtain ⟨b1, e1, g1, g2, g3, g4, g5, g6, g7⟩ := r7; exact ⟨_, rfl, rfl, b1, e1, ⟨g1, g2, (g7 66 9 (by omega)).trans hT.flag.2.2.1, g4, g5, hT.2.2.2.2.2.1, g6⟩, Ly.flag.trans g7.ly, Nat.le_trans hT.2.2.2.1 g3, fun q => absurd (((g7 66 14 (by omega)).trans mp0).symm.trans q) (by decide)⟩)
          | (obtain ⟨b1, e1, g1, g2, g3, g4, g5, g6, g7⟩ := r8; exact ⟨_, rfl, rfl, b1, e1, ⟨g1, g2, (g7 66 9 (by omega)).trans hT.flag.2.2.1, g4, g5, hT.2.2.2.2.2.1, g6⟩, Ly.flag.trans g7.ly, Nat.le_trans hT.2.2.2.1 g3, fun q => absurd (((g7 66 14 (by omega)).trans mp0).symm.trans q) (by decide)⟩)
          | (obtain ⟨b1, e1, g1, g2, g3, g4, g5, g6, g7⟩ := r9; exact ⟨_, rfl, rfl, b1, e1, ⟨g1, g2, (g7 66 9 (by omega)).trans hT.flag.2.2.1, g4, g5, hT.2.2.2.2.2.1, g6⟩, Ly.flag.trans g7.ly, Nat.le_trans hT.2.2.2.1 g3, fun q => absurd (((g7 66 14 (by omega)).trans mp0).symm.trans q) (by decide)⟩)
          | (obtain ⟨b1, e1, g1, g2, g3, g4, g5, g6, g7⟩ := r10; exact ⟨_, rfl, rfl, b1, e1, ⟨g1, g2, (g7 66 9 (by omega)).trans hT.flag.2.2.1, g4, g5, hT.2.2.2.2.2.1, g6⟩, Ly.flag.trans g7.ly, Nat.le_trans hT.2.2.2.1 g3, fun q => absurd (((g7 66 14 (by omega)).trans mp0).symm.trans q) (by decide)⟩)
          | (obtain ⟨b1, e1, g1, g2, g3, g4, g5, g6, g7⟩ := r11; exact ⟨_, rfl, rfl, b1, e1, ⟨g1, g2, (g7 66 9 (by omega)).trans hT.flag.2.2.1, g4, g5, hT.2.2.2.2.2.1, g6⟩, Ly.flag.trans g7.ly, Nat.le_trans hT.2.2.2.1 g3, fun q => absurd (((g7 66 14 (by omega)).trans mp0).symm.trans q) (by decide)⟩)
      · refine x_aload_n hm rfl rfl ?_
        refine x_cVv hm rfl rfl (t221 hT.flag.2.2.1 hT.2.2.2.2.2.1 hT.flag.2.1 hT.2.2.2.2.1) (fun M8 r8 => ?_)
        refine x_ret hm rfl rfl ?_
        first
          | (obtain ⟨b1, e1, g1, g2, g3, g4, g5, g6, g7⟩ := r8; exact ⟨_, rfl, rfl, b1, e1, ⟨g1, g2, (g7 66 9 (by omega)).trans hT.flag.2.2.1, g4, g5, hT.2.2.2.2.2.1, g6⟩, Ly.flag.trans g7.ly, Nat.le_trans hT.2.2.2.1 g3, fun _ => ⟨by assumption, by assumption, g3⟩⟩)
          | (obtain ⟨b1, e1, g1, g2, g3, g4, g5, g6, g7⟩ := r8; exact ⟨_, rfl, rfl, b1, e1, ⟨g1, g2, (g7 66 9 (by omega)).trans hT.flag.2.2.1, g4, g5, hT.2.2.2.2.2.1, g6⟩, Ly.flag.trans g7.ly, Nat.le_trans hT.2.2.2.1 g3, fun q => absurd (((g7 66 14 (by omega)).trans mp0).symm.trans q) (by decide)⟩)
          | exact absurd (by decide : nI 0 = (0 : Int32)) (by assumption)
          | exact ⟨_, rfl, rfl, b, e, hT.flag, Ly.flag, Nat.le_refl _, fun q => absurd (mp0.symm.trans q) (by decide)⟩
          | (obtain ⟨b1, e1, g1, g2, g3, g4, g5, g6, g7⟩ := r2; exact ⟨_, rfl, rfl, b1, e1, ⟨g1, g2, (g7 66 9 (by omega)).trans hT.flag.2.2.1, g4, g5, hT.2.2.2.2.2.1, g6⟩, Ly.flag.trans g7.ly, Nat.le_trans hT.2.2.2.1 g3, fun _ => ⟨by assumption, by assumption, g3⟩⟩)
          | (obtain ⟨b1, e1, g1, g2, g3, g4, g5, g6, g7⟩ := r3; exact ⟨_, rfl, rfl, b1, e1, ⟨g1, g2, (g7 66 9 (by omega)).trans hT.flag.2.2.1, g4, g5, hT.2.2.2.2.2.1, g6⟩, Ly.flag.trans g7.ly, Nat.le_trans hT.2.2.2.1 g3, fun _ => ⟨by assumption, by assumption, g3⟩⟩)
          | (obtain ⟨b1, e1, g1, g2, g3, g4, g5, g6, g7⟩ := r4; exact ⟨_, rfl, rfl, b1, e1, ⟨g1, g2, (g7 66 9 (by omega)).trans hT.flag.2.2.1, g4, g5, hT.2.2.2.2.2.1, g6⟩, Ly.flag.trans g7.ly, Nat.le_trans hT.2.2.2.1 g3, fun _ => ⟨by assumption, by assumption, g3⟩⟩)
          | (obtain ⟨b1, e1, g1, g2, g3, g4, g5, g6, g7⟩ := r5; exact ⟨_, rfl, rfl, b1, e1, ⟨g1, g2, (g7 66 9 (by omega)).trans hT.flag.2.2.1, g4, g5, hT.2.2.2.2.2.1, g6⟩, Ly.flag.trans g7.ly, Nat.le_trans hT.2.2.2.1 g3, fun _ => ⟨by assumption, by assumption, g3⟩⟩)
          | (obtain ⟨b1, e1, g1, g2, g3, g4, g5, g6, g7⟩ := r6; exact ⟨_, rfl, rfl, b1, e1, ⟨g1, g2, (g7 66 9 (by omega)).trans hT.flag.2.2.1, g4, g5, hT.2.2.2.2.2.1, g6⟩, Ly.flag.trans g7.ly, Nat.le_trans hT.2.2.2.1 g3, fun _ => ⟨by assumption, by assumption, g3⟩⟩)
          | (obtain ⟨b1, e1, g1, g2, g3, g4, g5, g6, g7⟩ := r7; exact ⟨_, rfl, rfl, b1, e1, ⟨g1, g2, (g7 66 9 (by omega)).trans hT.flag.2.2.1, g4, g5, hT.2.2.2.2.2.1, g6⟩, Ly.flag.trans g7.ly, Nat.le_trans hT.2.2.2.1 g3, fun _ => ⟨by assumption, by assumption, g3⟩⟩)
          | (obtain ⟨b1, e1, g1, g2, g3, g4, g5, g6, g7⟩ := r9; exact ⟨_, rfl, rfl, b1, e1, ⟨g1, g2, (g7 66 9 (by omega)).trans hT.flag.2.2.1, g4, g5, hT.2.2.2.2.2.1, g6⟩, Ly.flag.trans g7.ly, Nat.le_trans hT.2.2.2.1 g3, fun _ => ⟨by assumption, by assumption, g3⟩⟩)
          | (obtain ⟨b1, e1, g1, g2, g3, g4, g5, g6, g7⟩ := r10; exact ⟨_, rfl, rfl, b1, e1, ⟨g1, g2, (g7 66 9 (by omega)).trans hT.flag.2.2.1, g4, g5, hT.2.2.2.2.2.1, g6⟩, Ly.flag.trans g7.ly, Nat.le_trans hT.2.2.2.1 g3, fun _ => ⟨by assumption, by assumption, g3⟩⟩)
          | (obtain ⟨b1, e1, g1, g2, g3, g4, g5, g6, g7⟩ := r11; exact ⟨_, rfl, rfl, b1, e1, ⟨g1, g2, (g7 66 9 (by omega)).trans hT.flag.2.2.1, g4, g5, hT.2.2.2.2.2.1, g6⟩, Ly.flag.trans g7.ly, Nat.le_trans hT.2.2.2.1 g3, fun _ => ⟨by assumption, by assumption, g3⟩⟩)
          | (obtain ⟨b1, e1, g1, g2, g3, g4, g5, g6, g7⟩ := r2; exact ⟨_, rfl, rfl, b1, e1, ⟨g1, g2, (g7 66 9 (by omega)).trans hT.flag.2.2.1, g4, g5, hT.2.2.2.2.2.1, g6⟩, Ly.flag.trans g7.ly, Nat.le_trans hT.2.2.2.1 g3, fun q => absurd (((g7 66 14 (by omega)).trans mp0).symm.trans q) (by decide)⟩)
          | (obtain ⟨b1, e1, g1, g2, g3, g4, g5, g6, g7⟩ := r3; exact ⟨_, rfl, rfl, b1, e1, ⟨g1, g2, (g7 66 9 (by omega)).trans hT.flag.2.2.1, g4, g5, hT.2.2.2.2.2.1, g6⟩, Ly.flag.trans g7.ly, Nat.le_trans hT.2.2.2.1 g3, fun q => absurd (((g7 66 14 (by omega)).trans mp0).symm.trans q) (by decide)⟩)
          | (obtain ⟨b1, e1, g1, g2, g3, g4, g5, g6, g7⟩ := r4; exact ⟨_, rfl, rfl, b1, e1, ⟨g1, g2, (g7 66 9 (by omega)).trans hT.flag.2.2.1, g4, g5, hT.2.2.2.2.2.1, g6⟩, Ly.flag.trans g7.ly, Nat.le_trans hT.2.2.2.1 g3, fun q => absurd (((g7 66 14 (by omega)).trans mp0).symm.trans q) (by decide)⟩)
          | (obtain ⟨b1, e1, g1, g2, g3, g4, g5, g6, g7⟩ := r5; exact ⟨_, rfl, rfl, b1, e1, ⟨g1, g2, (g7 66 9 (by omega)).trans hT.flag.2.2.1, g4, g5, hT.2.2.2.2.2.1, g6⟩, Ly.flag.trans g7.ly, Nat.le_trans hT.2.2.2.1 g3, fun q => absurd (((g7 66 14 (by omega)).trans mp0).symm.trans q) (by decide)⟩)
          | (obtain ⟨b1, e1, g1, g2, g3, g4, g5, g6, g7⟩ := r6; exact ⟨_, rfl, rfl, b1, e1, ⟨g1, g2, (g7 66 9 (by omega)).trans hT.flag.2.2.1, g4, g5, hT.2.2.2.2.2.1, g6⟩, Ly.flag.trans g7.ly, Nat.le_trans hT.2.2.2.1 g3, fun q => absurd (((g7 66 14 (by omega)).trans mp0).symm.trans q) (by decide)⟩)
          | (obtain ⟨b1, e1, g1, g2, g3, g4, g5, g6, g7⟩ := r7; exact ⟨_, rfl, rfl, b1, e1, ⟨g1, g2, (g7 66 9 (by omega)).trans hT.flag.2.2.1, g4, g5, hT.2.2.2.2.2.1, g6⟩, Ly.flag.trans g7.ly, Nat.le_trans hT.2.2.2.1 g3, fun q => absurd (((g7 66 14 (by omega)).trans mp0).symm.trans q) (by decide)⟩)
          | (obtain ⟨b1, e1, g1, g2, g3, g4, g5, g6, g7⟩ := r9; exact ⟨_, rfl, rfl, b1, e1, ⟨g1, g2, (g7 66 9 (by omega)).trans hT.flag.2.2.1, g4, g5, hT.2.2.2.2.2.1, g6⟩, Ly.flag.trans g7.ly, Nat.le_trans hT.2.2.2.1 g3, fun q => absurd (((g7 66 14 (by omega)).trans mp0).symm.trans q) (by decide)⟩)
          | (obtain ⟨b1, e1, g1, g2, g3, g4, g5, g6, g7⟩ := r10; exact ⟨_, rfl, rfl, b1, e1, ⟨g1, g2, (g7 66 9 (by omega)).trans hT.flag.2.2.1, g4, g5, hT.2.2.2.2.2.1, g6⟩, Ly.flag.trans g7.ly, Nat.le_trans hT.2.2.2.1 g3, fun q => absurd (((g7 66 14 (by omega)).trans mp0).symm.trans q) (by decide)⟩)
          | (obtain ⟨b1, e1, g1, g2, g3, g4, g5, g6, g7⟩ := r11; exact ⟨_, rfl, rfl, b1, e1, ⟨g1, g2, (g7 66 9 (by omega)).trans hT.flag.2.2.1, g4, g5, hT.2.2.2.2.2.1, g6⟩, Ly.flag.trans g7.ly, Nat.le_trans hT.2.2.2.1 g3, fun q => absurd (((g7 66 14 (by omega)).trans mp0).symm.trans q) (by decide)⟩)
theorem t228 {b e c : Nat} {lo hi : Int32} (hT : Tx b e c M) : ∃ v M', mT X 228 [.ref 66, .int lo, .int hi] (con M) (some (.int v)) (con M') ∧ ∃ b' e', Tx b' e' c M' ∧ Ly M M' ∧ b ≤ b' ∧ (M' 66 14 = 0 → M 66 14 = 0 ∧ (lo ≤ v ∧ v ≤ hi) ∧ e ≤ b') := by
  refine ti_of (row := _) rfl (Nat.le_of_ble_eq_true rfl) ?_
  have hm : mMet 228 = some _ := rfl
  refine x_aload_n hm rfl rfl ?_
  refine x_getf hm rfl (gI rfl rfl) ?_
  refine x_istore_n hm rfl rfl ?_
  refine x_aload_n hm rfl rfl ?_
  refine x_aload_n hm rfl rfl ?_
  refine x_getf hm rfl (gI rfl rfl) ?_
  refine x_iconst hm rfl (v := nI 2) (by decide) ?_
  refine x_icmp_ne hm rfl (t := 27) rfl (fun h1 => ?_) (fun h1 => ?_)
  · refine x_iconst hm rfl (v := nI 0) (by decide) ?_
    refine x_cVv hm rfl rfl (t226 hT) (fun M2 r2 => ?_)
    refine x_iload_n hm rfl rfl ?_
    refine x_iret hm rfl rfl (by first | rfl | exact bI_nar | decide) ?_
    first
      | (obtain ⟨b1, e1, g1, g2, g3, g4⟩ := r2; exact ⟨_, _, rfl, rfl, b1, e1, g1, g2, g3, fun q => ⟨(g4 q).1, by first | exact bI_ne0 (by assumption) | exact absurd rfl (g4 q).2.1, (g4 q).2.2⟩⟩)
      | (obtain ⟨b1, e1, g1, g2, g3, g4⟩ := r1; exact ⟨_, _, rfl, rfl, b1, e1, g1, g2, g3, fun q => ⟨(g4 q).1, by first | exact bI_ne0 (by assumption) | exact absurd rfl (g4 q).2.1, (g4 q).2.2⟩⟩)
      | (obtain ⟨b1, e1, g1, g2, g3, g4⟩ := r3; exact ⟨_, _, rfl, rfl, b1, e1, g1, g2, g3, fun q => ⟨(g4 q).1, by first | exact bI_ne0 (by assumption) | exact absurd rfl (g4 q).2.1, (g4 q).2.2⟩⟩)
      | (obtain ⟨b1, e1, g1, g2, g3, g4⟩ := r4; exact ⟨_, _, rfl, rfl, b1, e1, g1, g2, g3, fun q => ⟨(g4 q).1, by first | exact bI_ne0 (by assumption) | exact absurd rfl (g4 q).2.1, (g4 q).2.2⟩⟩)
      | (obtain ⟨b1, e1, g1, g2, g3, g4⟩ := r5; exact ⟨_, _, rfl, rfl, b1, e1, g1, g2, g3, fun q => ⟨(g4 q).1, by first | exact bI_ne0 (by assumption) | exact absurd rfl (g4 q).2.1, (g4 q).2.2⟩⟩)
      | (obtain ⟨b1, e1, g1, g2, g3, g4⟩ := r6; exact ⟨_, _, rfl, rfl, b1, e1, g1, g2, g3, fun q => ⟨(g4 q).1, by first | exact bI_ne0 (by assumption) | exact absurd rfl (g4 q).2.1, (g4 q).2.2⟩⟩)
      | (obtain ⟨b1, e1, g1, g2, g3, g4⟩ := r7; exact ⟨_, _, rfl, rfl, b1, e1, g1, g2, g3, fun q => ⟨(g4 q).1, by first | exact bI_ne0 (by assumption) | exact absurd rfl (g4 q).2.1, (g4 q).2.2⟩⟩)
      | (obtain ⟨b1, e1, g1, g2, g3, g4⟩ := r8; exact ⟨_, _, rfl, rfl, b1, e1, g1, g2, g3, fun q => ⟨(g4 q).1, by first | exact bI_ne0 (by assumption) | exact absurd rfl (g4 q).2.1, (g4 q).2.2⟩⟩)
      | (obtain ⟨b1, e1, g1, g2, g3, g4⟩ := r9; exact ⟨_, _, rfl, rfl, b1, e1, g1, g2, g3, fun q => ⟨(g4 q).1, by first | exact bI_ne0 (by assumption) | exact absurd rfl (g4 q).2.1, (g4 q).2.2⟩⟩)
  · refine x_iload_n hm rfl rfl ?_
    refine x_iload_n hm rfl rfl ?_
    refine x_iload_n hm rfl rfl ?_
    refine x_callS hm rfl rfl (t133) ?_
    refine x_if_eq hm rfl (t := 27) rfl (fun h3 => ?_) (fun h3 => ?_)
    · refine x_iconst hm rfl (v := nI 0) (by decide) ?_
      refine x_cVv hm rfl rfl (t226 hT) (fun M4 r4 => ?_)
      refine x_iload_n hm rfl rfl ?_
      refine x_iret hm rfl rfl (by first | rfl | exact bI_nar | decide) ?_
      first
        | (obtain ⟨b1, e1, g1, g2, g3, g4⟩ := r4; exact ⟨_, _, rfl, rfl, b1, e1, g1, g2, g3, fun q => ⟨(g4 q).1, by first | exact bI_ne0 (by assumption) | exact absurd rfl (g4 q).2.1, (g4 q).2.2⟩⟩)
        | (obtain ⟨b1, e1, g1, g2, g3, g4⟩ := r1; exact ⟨_, _, rfl, rfl, b1, e1, g1, g2, g3, fun q => ⟨(g4 q).1, by first | exact bI_ne0 (by assumption) | exact absurd rfl (g4 q).2.1, (g4 q).2.2⟩⟩)
        | (obtain ⟨b1, e1, g1, g2, g3, g4⟩ := r2; exact ⟨_, _, rfl, rfl, b1, e1, g1, g2, g3, fun q => ⟨(g4 q).1, by first | exact bI_ne0 (by assumption) | exact absurd rfl (g4 q).2.1, (g4 q).2.2⟩⟩)
        | (obtain ⟨b1, e1, g1, g2, g3, g4⟩ := r3; exact ⟨_, _, rfl, rfl, b1, e1, g1, g2, g3, fun q => ⟨(g4 q).1, by first | exact bI_ne0 (by assumption) | exact absurd rfl (g4 q).2.1, (g4 q).2.2⟩⟩)
        | (obtain ⟨b1, e1, g1, g2, g3, g4⟩ := r5; exact ⟨_, _, rfl, rfl, b1, e1, g1, g2, g3, fun q => ⟨(g4 q).1, by first | exact bI_ne0 (by assumption) | exact absurd rfl (g4 q).2.1, (g4 q).2.2⟩⟩)
        | (obtain ⟨b1, e1, g1, g2, g3, g4⟩ := r6; exact ⟨_, _, rfl, rfl, b1, e1, g1, g2, g3, fun q => ⟨(g4 q).1, by first | exact bI_ne0 (by assumption) | exact absurd rfl (g4 q).2.1, (g4 q).2.2⟩⟩)
        | (obtain ⟨b1, e1, g1, g2, g3, g4⟩ := r7; exact ⟨_, _, rfl, rfl, b1, e1, g1, g2, g3, fun q => ⟨(g4 q).1, by first | exact bI_ne0 (by assumption) | exact absurd rfl (g4 q).2.1, (g4 q).2.2⟩⟩)
        | (obtain ⟨b1, e1, g1, g2, g3, g4⟩ := r8; exact ⟨_, _, rfl, rfl, b1, e1, g1, g2, g3, fun q => ⟨(g4 q).1, by first | exact bI_ne0 (by assumption) | exact absurd rfl (g4 q).2.1, (g4 q).2.2⟩⟩)
        | (obtain ⟨b1, e1, g1, g2, g3, g4⟩ := r9; exact ⟨_, _, rfl, rfl, b1, e1, g1, g2, g3, fun q => ⟨(g4 q).1, by first | exact bI_ne0 (by assumption) | exact absurd rfl (g4 q).2.1, (g4 q).2.2⟩⟩)
    · refine x_iconst hm rfl (v := nI 1) (by decide) ?_
      refine x_goto hm rfl (t := 28) rfl ?_
      refine x_cVv hm rfl rfl (t226 hT) (fun M5 r5 => ?_)
      refine x_iload_n hm rfl rfl ?_
      refine x_iret hm rfl rfl (by first | rfl | exact bI_nar | decide) ?_
      first
        | (obtain ⟨b1, e1, g1, g2, g3, g4⟩ := r5; exact ⟨_, _, rfl, rfl, b1, e1, g1, g2, g3, fun q => ⟨(g4 q).1, by first | exact bI_ne0 (by assumption) | exact absurd rfl (g4 q).2.1, (g4 q).2.2⟩⟩)
        | (obtain ⟨b1, e1, g1, g2, g3, g4⟩ := r1; exact ⟨_, _, rfl, rfl, b1, e1, g1, g2, g3, fun q => ⟨(g4 q).1, by first | exact bI_ne0 (by assumption) | exact absurd rfl (g4 q).2.1, (g4 q).2.2⟩⟩)
        | (obtain ⟨b1, e1, g1, g2, g3, g4⟩ := r2; exact ⟨_, _, rfl, rfl, b1, e1, g1, g2, g3, fun q => ⟨(g4 q).1, by first | exact bI_ne0 (by assumption) | exact absurd rfl (g4 q).2.1, (g4 q).2.2⟩⟩)
        | (obtain ⟨b1, e1, g1, g2, g3, g4⟩ := r3; exact ⟨_, _, rfl, rfl, b1, e1, g1, g2, g3, fun q => ⟨(g4 q).1, by first | exact bI_ne0 (by assumption) | exact absurd rfl (g4 q).2.1, (g4 q).2.2⟩⟩)
        | (obtain ⟨b1, e1, g1, g2, g3, g4⟩ := r4; exact ⟨_, _, rfl, rfl, b1, e1, g1, g2, g3, fun q => ⟨(g4 q).1, by first | exact bI_ne0 (by assumption) | exact absurd rfl (g4 q).2.1, (g4 q).2.2⟩⟩)
        | (obtain ⟨b1, e1, g1, g2, g3, g4⟩ := r6; exact ⟨_, _, rfl, rfl, b1, e1, g1, g2, g3, fun q => ⟨(g4 q).1, by first | exact bI_ne0 (by assumption) | exact absurd rfl (g4 q).2.1, (g4 q).2.2⟩⟩)
        | (obtain ⟨b1, e1, g1, g2, g3, g4⟩ := r7; exact ⟨_, _, rfl, rfl, b1, e1, g1, g2, g3, fun q => ⟨(g4 q).1, by first | exact bI_ne0 (by assumption) | exact absurd rfl (g4 q).2.1, (g4 q).2.2⟩⟩)
        | (obtain ⟨b1, e1, g1, g2, g3, g4⟩ := r8; exact ⟨_, _, rfl, rfl, b1, e1, g1, g2, g3, fun q => ⟨(g4 q).1, by first | exact bI_ne0 (by assumption) | exact absurd rfl (g4 q).2.1, (g4 q).2.2⟩⟩)
        | (obtain ⟨b1, e1, g1, g2, g3, g4⟩ := r9; exact ⟨_, _, rfl, rfl, b1, e1, g1, g2, g3, fun q => ⟨(g4 q).1, by first | exact bI_ne0 (by assumption) | exact absurd rfl (g4 q).2.1, (g4 q).2.2⟩⟩)
end RN
