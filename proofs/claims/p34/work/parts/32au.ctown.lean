section CA
variable {X : mSc} {Q : Option Value → mHp → Prop} {M : mM} {b : Nat}
theorem t129 (hb : b = 1 ∨ b = 18 ∨ b = 35)  (hW : Wf M) : ∃ v, mT X 129 [.ref b] (con M) (some (.int v)) (con M) ∧ True := by
  refine te_of (row := _) rfl (Nat.le_of_ble_eq_true rfl) ?_
  have hm : mMet 129 = some _ := rfl
  refine x_iconst hm rfl (v := nI 0) (by decide) ?_
  refine x_istore_n hm rfl rfl ?_
  refine x_iconst hm rfl (v := nI 0) (by decide) ?_
  refine x_istore_n hm rfl rfl ?_
  exact l129 hb _ 0 _ (Nat.lt_succ_self _) (Nat.zero_le _)
theorem l62 (hb : b = 1 ∨ b = 18 ∨ b = 35) {a : Int32} (hW : Wf M) : ∀ (n k : Nat) (x : Int32), 8 - k < n → k ≤ 8 → okx 2 x → mEv X (QE M (fun _ => True)) 62 11 [some (.ref b), some (.int a), some (.int (nI k)), some (.int x)] [] (con M) := by
  have hm : mMet 62 = some _ := rfl
  intro n
  induction n with
  | zero =>
    intro k x hkn hkb hx
    omega
  | succ n ih =>
    intro k x hkn hkb hx
    refine x_iload_n hm rfl rfl ?_
    refine x_bipush hm rfl (v := nI 8) (by decide) ?_
    refine x_icmp_ge hm rfl (t := 37) rfl (fun h1 => ?_) (fun h1 => ?_)
    · refine x_iload_n hm rfl rfl ?_
      refine x_iret hm rfl rfl (by first | rfl | exact bI_nar | decide) ?_
      exact ⟨_, rfl, rfl, trivial⟩
    · have hk : k < 8 := Nat.lt_of_not_le fun h => h1 (nI_le h (by omega))
      refine x_iload_n hm rfl rfl ?_
      refine x_iconst hm rfl (v := (-1 : Int32)) (by decide) ?_
      refine x_icmp_eq hm rfl (t := 37) rfl (fun h2 => ?_) (fun h2 => ?_)
      · refine x_iload_n hm rfl rfl ?_
        refine x_iret hm rfl rfl (by first | rfl | exact bI_nar | decide) ?_
        exact ⟨_, rfl, rfl, trivial⟩
      · obtain ⟨z, hz, rfl⟩ := (ok2 hx).resolve_left h2
        refine x_iinc hm rfl rfl (v := nI 1) (by decide) rfl ?_
        rw [jI_add]
        refine x_aload_n hm rfl rfl ?_
        refine x_getf hm rfl (gR (tO hb) rfl) ?_
        refine x_iconst hm rfl (v := nI 5) (by decide) ?_
        refine x_aald hm rfl (by first | exact lQ 3 (Or.inr (Or.inl rfl)) (tI hb) rfl (by omega) (by decide) | exact lQ 3 (Or.inr (Or.inl rfl)) (tF hb) rfl (by omega) (by decide) | exact lQ 3 (Or.inr (Or.inl rfl)) (tI hb) (tIk (by omega)) (by omega) (by decide) | exact lQ 3 (Or.inr (Or.inl rfl)) (tF hb) (tFk (by omega)) (by omega) (by decide)) ?_
        refine x_iload_n hm rfl rfl ?_
        refine x_iald hm rfl (by first | exact lI (tRow hb (by omega)) (by omega) (by decide) | exact lI (tRowI hb (by omega)) (by omega) (by decide) | exact lI (tRowF hb (by omega)) (by omega) (by decide) | exact lI (tSp hb) (by omega) (by decide) | exact lI rfl (by omega) (by decide)) ?_
        refine x_istore_n hm rfl rfl ?_
        refine x_goto hm rfl (t := 11) rfl ?_
        exact ih _ _ (by omega) (by omega) (hW.chang hb _)
end CA
