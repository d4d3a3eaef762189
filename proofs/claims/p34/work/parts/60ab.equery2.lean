section EH
variable {X : mSc} {Q : Option Value → mHp → Prop} {M : mM}
def Kz (M M1 : mM) : Prop := (Wf M → Wf M1) ∧ (∀ a, a ≠ 66 → a ≠ 69 → a ≠ 71 → M1 a = M a) ∧ M1 66 3 = M 66 3 ∧ M1 66 9 = M 66 9
theorem Kz.rf : Kz M M := ⟨fun h => h, fun _ _ _ _ => rfl, rfl, rfl⟩
theorem Kz.kr {M1 M2 : mM} (h : Kz M M1) (g : Kr M1 M2) : Kz M M2 := ⟨fun w => g.1 (h.1 w), fun a h1 h2 h3 => (g.2 a h2 h3).trans (h.2.1 a h1 h2 h3), by rw [g.2 66 (by decide) (by decide)]; exact h.2.2.1, by rw [g.2 66 (by decide) (by decide)]; exact h.2.2.2⟩
theorem Kz.put {M1 : mM} {v : Int32} (h : Kz M M1) : Kz M (mput M1 66 6 v) := ⟨fun w => (h.1 w).put0 (kd66 (by decide)), fun a h1 h2 h3 => (mpo h1).trans (h.2.1 a h1 h2 h3), (mpf (by decide)).trans h.2.2.1, (mpf (by decide)).trans h.2.2.2⟩
theorem Kz.fin {M1 : mM} (h : Kz M M1) (h6 : M 66 6 = -1) : Kq M (mput M1 66 6 (-1)) := ⟨h.put.1, fun a h1 h2 _ h4 _ => h.put.2.1 a h1 h2 h4, h.put.2.2.1, mp0.trans h6.symm, h.put.2.2.2⟩
theorem orn_fin {v v' : Int32} {q : Int32 × Bool} {M1 M2 : mM} (hq : q = orN v) (hk : Kq M M1) (h70 : M1 70 = M 70) (h : v' = (orN v).1 ∧ Kq M1 M2 ∧ Fq (orN v) M1 M2) : v' = q.1 ∧ Kq M M2 ∧ Fq q M M2 := by
  subst hq
  exact ⟨h.1, hk.to h.2.1, h.2.2.of h70⟩
theorem m188 {a : Nat} {nt np : Nat} (hW : Wf M) (hnt : M 67 1 = nI nt) (hn8 : nt ≤ 8) (hnp : M 67 2 = nI np) (hp8 : np ≤ 8) (h6 : M 66 6 = -1) (ha : a ≤ 1000) : ∀ (n k : Nat) (b l : Int32) (x5 : Option Value) (M1 : mM), np - k < n → k ≤ np → Kz M M1 → (b, l) = fo (sWo (M 67) nt np a) k (-1, 2147483647) → mEv X (QI (fun v M' => v = (orN (fo (sWo (M 67) nt np a) np (-1, 2147483647)).1).1 ∧ Kq M M' ∧ Fq (orN (fo (sWo (M 67) nt np a) np (-1, 2147483647)).1) M M')) 188 25 [some (.ref 66), some (.int (nI a)), some (.int b), some (.int l), some (.int (nI k)), x5] [] (con M1) := by
  have hm : mMet 188 = some _ := rfl
  intro n
  induction n with
  | zero =>
    intro k b l x5 M1 hkn hkb hS hz
    omega
  | succ n ih =>
    intro k b l x5 M1 hkn hkb hS hz
    have hp1 : M1 67 2 = nI np := (congrFun (hS.2.1 67 (by decide) (by decide) (by decide)) 2).trans hnp
    refine x_iload hm rfl rfl ?_
    refine x_aload_n hm rfl rfl ?_
    refine x_getf hm rfl (gR rfl rfl) ?_
    refine x_iconst hm rfl (v := nI 2) (by decide) ?_
    refine x_iald hm rfl (lI rfl (by omega) (by decide)) ?_
    rw [hp1]
    refine x_icmp_ge hm rfl (t := 75) rfl (fun h1 => ?_) (fun h1 => ?_)
    · have hkn2 : k = np := Nat.le_antisymm hkb ((jI_le (by omega) (by omega)).mp h1)
      rw [hkn2] at hz
      refine x_aload_n hm rfl rfl ?_
      refine x_iconst hm rfl (v := (-1 : Int32)) (by decide) ?_
      refine x_putf hm rfl (pI rfl rfl (by decide) (by first | exact mFit_int | rfl | decide) rfl) ?_
      refine x_aload_n hm rfl rfl ?_
      refine x_iload_n hm rfl rfl ?_
      refine x_cVi hm rfl rfl (e177) (fun v2 M2 r2 => ?_)
      refine x_iret hm rfl rfl (by first | rfl | exact bI_nar | decide) ?_
      obtain ⟨g1, g2, g3⟩ := orn_fin (M := M) (q := orN (fo (sWo (M 67) nt np a) np (-1, 2147483647)).1) (by rw [← hz]) (hS.fin h6) ((mpo (by decide)).trans (hS.2.1 70 (by decide) (by decide) (by decide))) r2
      exact ⟨_, _, rfl, rfl, g1, g2, g3⟩
    · have hk : k < np := Nat.lt_of_not_le fun h => h1 (nI_le h (by omega))
      refine x_aload_n hm rfl rfl ?_
      refine x_iload hm rfl rfl ?_
      refine x_putf hm rfl (pI rfl rfl (by decide) (by first | exact mFit_int | rfl | decide) rfl) ?_
      have hS2 := hS.put (v := nI k)
      have h67 : mput M1 66 6 (nI k) 67 = M 67 := hS2.2.1 67 (by decide) (by decide) (by decide)
      refine x_aload_n hm rfl rfl ?_
      refine x_iload_n hm rfl rfl ?_
      refine x_cVi hm rfl rfl (e180 (hS2.1 hW) ((congrFun h67 1).trans hnt) hn8 ((congrFun h67 2).trans hnp) hp8 ha) (fun v3 M3 r3 => ?_)
      have hv := r3.1
      rw [h67, mp0] at hv
      subst hv
      refine x_istore hm rfl rfl ?_
      refine x_iload hm rfl rfl ?_
      refine x_iload_n hm rfl rfl ?_
      refine x_icmp_ge hm rfl (t := 60) rfl (fun h4 => ?_) (fun h4 => ?_)
      · refine x_iload_n hm rfl rfl ?_
        refine x_istore_n hm rfl rfl ?_
        refine x_iload_n hm rfl rfl ?_
        refine x_iload hm rfl rfl ?_
        refine x_lib hm rfl rfl ?_
        dsimp only
        refine x_istore_n hm rfl rfl ?_
        refine x_iinc hm rfl rfl (v := nI 1) (by decide) rfl ?_
        rw [jI_add]
        refine x_goto hm rfl (t := 25) rfl ?_
        first
          | exact ih _ _ _ _ _ (by omega) (by omega) (hS2.kr r3.2) (by show _ = sWo (M 67) nt np a k _; rw [← hz]; unfold sWo mn2; dsimp only; rw [if_pos (by first | assumption | exact Int32.not_le.mp (by assumption)), if_pos (by first | assumption | exact Int32.not_le.mp (by assumption))])
          | exact ih _ _ _ _ _ (by omega) (by omega) (hS2.kr r3.2) (by show _ = sWo (M 67) nt np a k _; rw [← hz]; unfold sWo mn2; dsimp only; rw [if_neg (by first | assumption | exact Int32.not_lt.mpr (by assumption)), if_neg (by first | assumption | exact Int32.not_lt.mpr (by assumption))])
      · refine x_iload hm rfl rfl ?_
        refine x_goto hm rfl (t := 61) rfl ?_
        refine x_istore_n hm rfl rfl ?_
        refine x_iload_n hm rfl rfl ?_
        refine x_iload hm rfl rfl ?_
        refine x_lib hm rfl rfl ?_
        dsimp only
        refine x_istore_n hm rfl rfl ?_
        refine x_iinc hm rfl rfl (v := nI 1) (by decide) rfl ?_
        rw [jI_add]
        refine x_goto hm rfl (t := 25) rfl ?_
        first
          | exact ih _ _ _ _ _ (by omega) (by omega) (hS2.kr r3.2) (by show _ = sWo (M 67) nt np a k _; rw [← hz]; unfold sWo mn2; dsimp only; rw [if_pos (by first | assumption | exact Int32.not_le.mp (by assumption)), if_pos (by first | assumption | exact Int32.not_le.mp (by assumption))])
          | exact ih _ _ _ _ _ (by omega) (by omega) (hS2.kr r3.2) (by show _ = sWo (M 67) nt np a k _; rw [← hz]; unfold sWo mn2; dsimp only; rw [if_neg (by first | assumption | exact Int32.not_lt.mpr (by assumption)), if_neg (by first | assumption | exact Int32.not_lt.mpr (by assumption))])
end EH
