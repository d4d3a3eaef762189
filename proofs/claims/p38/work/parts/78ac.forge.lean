section FO
variable {X : mSc} {Q : Option Value → mHp → Prop} {M : mM}
theorem e154 {t o nt : Nat} (hI : Inv M) (hnt : M 67 1 = nI nt) (h8 : nt ≤ 8) (ht : t < nt) (ho : o < 8) : ∃ v, mT X 154 [.ref 66, .int (nI t), .int (nI o)] (con M) (some (.int v)) (con M) ∧ ((Rch (M 67) o t ∧ v = nI 1) ∨ (¬ Rch (M 67) o t ∧ v = nI 0)) := by
  refine te_of (row := _) rfl (Nat.le_of_ble_eq_true rfl) ?_
  have hm : mMet 154 = some _ := rfl
  obtain ⟨rk, hrk⟩ := hI.2.1 nt h8 hnt
  refine x_iload_n hm rfl rfl ?_
  refine x_istore_n hm rfl rfl ?_
  refine ev_mono (m154 ho hI.1 h8 hrk (rk t + 2) _ (Or.inr ⟨t, ht, rfl, by omega⟩) (by omega)) ?_
  rintro r D ⟨v, e1, e2, e3, e4⟩
  exact ⟨v, e1, e2, e4 t ht rfl⟩
end FO
