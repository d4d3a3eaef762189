section FO
variable {X : mSc} {Q : Option Value → mHp → Prop} {M : mM}
theorem m194 {t : Nat} (hI : Inv M) (ht : t < 8) {nb : Nat} (hnb : M 67 1 = nI nb) (h8 : nb ≤ 8) : ∀ (n k : Nat), nb - k < n → k ≤ nb → mEv X (fun z D => z = some (.int (nI (wS (Rch (M 67) t) nb))) ∧ D = con M) 194 4 [some (.ref 66), some (.int (nI t)), some (.int (nI (wS (Rch (M 67) t) k))), some (.int (nI k))] [] (con M) := by
  have hm : mMet 194 = some _ := rfl
  intro n
  induction n with
  | zero =>
    intro k hkn hkb
    omega
  | succ n ih =>
    intro k hkn hkb
    refine x_iload_n hm rfl rfl ?_
    refine x_aload_n hm rfl rfl ?_
    refine x_getf hm rfl (gR rfl rfl) ?_
    refine x_iconst hm rfl (v := nI 1) (by decide) ?_
    refine x_iald hm rfl (lI rfl (by omega) (by decide)) ?_
    rw [hnb]
    refine x_icmp_ge hm rfl (t := 39) rfl (fun h1 => ?_) (fun h1 => ?_)
    · obtain rfl : k = nb := Nat.le_antisymm hkb ((jI_le (by omega) (by omega)).mp h1)
      refine x_iload_n hm rfl rfl ?_
      refine x_iret hm rfl rfl (by first | rfl | exact bI_nar | decide) ?_
      exact ⟨rfl, rfl⟩
    · have hk : k < nb := Nat.lt_of_not_le fun h => h1 (nI_le h (by omega))
      have hw8 : wS (Rch (M 67) t) k < 256 := wS_lt (by omega)
      refine x_iload_n hm rfl rfl ?_
      refine x_aload_n hm rfl rfl ?_
      refine x_iload_n hm rfl rfl ?_
      refine x_iload_n hm rfl rfl ?_
      refine x_cVe hm rfl rfl (e154 hI hnb h8 hk (by omega)) (fun v2 r2 => ?_)
      refine x_if_eq hm rfl (t := 30) rfl (fun h3 => ?_) (fun h3 => ?_)
      · have hq : nI (wS (Rch (M 67) t) k) ||| nI 0 = nI (wS (Rch (M 67) t) (k + 1)) := by
          rcases r2 with ⟨-, g⟩ | ⟨g, -⟩
          · exact absurd (g.symm.trans h3) (by decide)
          · rw [wS_f g]; exact bit0 _ hw8
        refine x_iconst hm rfl (v := nI 0) (by decide) ?_
        refine x_ior hm rfl ?_
        rw [hq]
        refine x_istore_n hm rfl rfl ?_
        refine x_iinc hm rfl rfl (v := nI 1) (by decide) rfl ?_
        rw [jI_add]
        refine x_goto hm rfl (t := 4) rfl ?_
        exact ih _ (by omega) (by omega)
      · have hq : nI (wS (Rch (M 67) t) k) ||| (nI 1 <<< (nI k &&& 31)) = nI (wS (Rch (M 67) t) (k + 1)) := by
          rcases r2 with ⟨g, -⟩ | ⟨-, g⟩
          · rw [wS_t g]; exact bitO _ hw8 _ (by omega)
          · exact absurd g h3
        refine x_iconst hm rfl (v := nI 1) (by decide) ?_
        refine x_iload_n hm rfl rfl ?_
        refine x_ishl hm rfl ?_
        refine x_goto hm rfl (t := 31) rfl ?_
        refine x_ior hm rfl ?_
        rw [hq]
        refine x_istore_n hm rfl rfl ?_
        refine x_iinc hm rfl rfl (v := nI 1) (by decide) rfl ?_
        rw [jI_add]
        refine x_goto hm rfl (t := 4) rfl ?_
        exact ih _ (by omega) (by omega)
end FO
