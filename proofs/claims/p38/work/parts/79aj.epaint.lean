section EP
variable {X : mSc} {Q : Option Value → mHp → Prop} {M : mM}
theorem m211 {s p t z w : Nat} {nt np : Nat} (hW : Wf M) (hnt : M 67 1 = nI nt) (hn8 : nt ≤ 8) (hnp : M 67 2 = nI np) (hp8 : np ≤ 8) (h6 : M 66 6 = -1) (hs : s ≤ 3) (hp : p < 8) (ht : t < 8) (hz : M 77 s = nI z) (hz40 : z ≤ 40) (hw : M 67 (14 + 6 * t + 0) = nI w) (hw3 : w ≤ 3) : ∀ (n k : Nat) (M1 : mM), 10 - k < n → k ≤ 10 → Ky (62 + 7 * p + (3 + w)) M M1 → mEv X (QI (fun v M' => v = nI (sFs (fun j => M 78 (40 * s + j)) (-1) nt np t z (62 + 7 * p + (3 + w)) (M 67) 10) ∧ Kr M M')) 211 29 [some (.ref 66), some (.int (nI s)), some (.int (nI p)), some (.int (nI t)), some (.int (nI (62 + 7 * p + (3 + w)))), some (.int (M 67 (62 + 7 * p + (3 + w)))), some (.int (nI (sFs (fun j => M 78 (40 * s + j)) (-1) nt np t z (62 + 7 * p + (3 + w)) (M 67) k))), some (.int (nI k))] [] (con M1) := by
  have hm : mMet 211 = some _ := rfl
  intro n
  induction n with
  | zero =>
    intro k M1 hkn hkb hS
    omega
  | succ n ih =>
    intro k M1 hkn hkb hS
    refine x_iload hm rfl rfl ?_
    refine x_bipush hm rfl (v := nI 9) (by decide) ?_
    refine x_icmp_gt hm rfl (t := 73) rfl (fun h1 => ?_) (fun h1 => ?_)
    · obtain rfl : k = 10 := Nat.le_antisymm hkb (Nat.lt_of_not_le fun g => absurd h1 (Int32.not_lt.mpr ((jI_le (by omega) (by decide)).mpr g)))
      refine x_aload_n hm rfl rfl ?_
      refine x_getf hm rfl (gR rfl rfl) ?_
      refine x_iload hm rfl rfl ?_
      refine x_iload hm rfl rfl ?_
      refine x_iast hm rfl (sI rfl (by omega) (by decide)) ?_
      refine x_iload hm rfl rfl ?_
      refine x_iret hm rfl rfl (by first | rfl | exact bI_nar | decide) ?_
      exact ⟨_, _, rfl, rfl, rfl, hS.fin (Sf.person hp (show 3 + w < 7 by omega))⟩
    · have hk : k ≤ 9 := Nat.le_of_not_lt fun h => h1 (nI_lt h (by omega))
      have hw10 : sFs (fun j => M 78 (40 * s + j)) (-1) nt np t z (62 + 7 * p + (3 + w)) (M 67) k < 1024 := wS_lt2 (by omega)
      refine x_aload_n hm rfl rfl ?_
      refine x_getf hm rfl (gR rfl rfl) ?_
      refine x_iload hm rfl rfl ?_
      refine x_iload hm rfl rfl ?_
      refine x_iast hm rfl (sI rfl (by omega) (by decide)) ?_
      obtain ⟨hS2, hrow⟩ := hS.put (v := nI k) (Sf.person (M := M1) (v := nI k) hp (show 3 + w < 7 by omega))
      have h66 : mput M1 67 (62 + 7 * p + (3 + w)) (nI k) 66 6 = -1 := by rw [hS2.2.2 66 (by decide) (by decide) (by decide)]; exact h6
      have h77 : mput M1 67 (62 + 7 * p + (3 + w)) (nI k) 77 s = nI z := by rw [hS2.2.2 77 (by decide) (by decide) (by decide)]; exact hz
      have h78 : mput M1 67 (62 + 7 * p + (3 + w)) (nI k) 78 = M 78 := hS2.2.2 78 (by decide) (by decide) (by decide)
      refine x_iload hm rfl rfl ?_
      refine x_aload_n hm rfl rfl ?_
      refine x_iload_n hm rfl rfl ?_
      refine x_iload_n hm rfl rfl ?_
      refine x_cVi hm rfl rfl (e212 (hS2.1.1 hW) (hS2.1.2.1.trans hnt) hn8 (hS2.1.2.2.1.trans hnp) hp8 h66 hs ht h77 hz40) (fun v2 M2 r2 => ?_)
      have hv := r2.1
      rw [hrow, h78] at hv
      refine x_if_eq hm rfl (t := 63) rfl (fun h3 => ?_) (fun h3 => ?_)
      · have hq : nI (sFs (fun j => M 78 (40 * s + j)) (-1) nt np t z (62 + 7 * p + (3 + w)) (M 67) k) ||| nI 0 = nI (sFs (fun j => M 78 (40 * s + j)) (-1) nt np t z (62 + 7 * p + (3 + w)) (M 67) (k + 1)) := by
          have g : ¬ _ := bI_eq0.mp (hv.symm.trans h3)
          rw [bit02 _ hw10]
          exact congrArg nI (wS_f (P := fun v => sFt (fun j => M 78 (40 * s + j)) (-1) nt np t z 0 (put1 (M 67) (62 + 7 * p + (3 + w)) (nI v)) = true) g).symm
        refine x_iconst hm rfl (v := nI 0) (by decide) ?_
        refine x_ior hm rfl ?_
        rw [hq]
        refine x_istore hm rfl rfl ?_
        refine x_iinc hm rfl rfl (v := nI 1) (by decide) rfl ?_
        rw [jI_add]
        refine x_goto hm rfl (t := 29) rfl ?_
        exact ih _ _ (by omega) (by omega) (hS2.kr r2.2)
      · have hq : nI (sFs (fun j => M 78 (40 * s + j)) (-1) nt np t z (62 + 7 * p + (3 + w)) (M 67) k) ||| (nI 1 <<< (nI k &&& 31)) = nI (sFs (fun j => M 78 (40 * s + j)) (-1) nt np t z (62 + 7 * p + (3 + w)) (M 67) (k + 1)) := by
          have g := bI_ne0 (fun e => h3 (hv.trans e))
          rw [bitO2 _ hw10 k (by omega)]
          exact congrArg nI (wS_t (P := fun v => sFt (fun j => M 78 (40 * s + j)) (-1) nt np t z 0 (put1 (M 67) (62 + 7 * p + (3 + w)) (nI v)) = true) g).symm
        refine x_iconst hm rfl (v := nI 1) (by decide) ?_
        refine x_iload hm rfl rfl ?_
        refine x_ishl hm rfl ?_
        refine x_goto hm rfl (t := 64) rfl ?_
        refine x_ior hm rfl ?_
        rw [hq]
        refine x_istore hm rfl rfl ?_
        refine x_iinc hm rfl rfl (v := nI 1) (by decide) rfl ?_
        rw [jI_add]
        refine x_goto hm rfl (t := 29) rfl ?_
        exact ih _ _ (by omega) (by omega) (hS2.kr r2.2)
end EP
