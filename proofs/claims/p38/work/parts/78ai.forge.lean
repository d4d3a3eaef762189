section FO
variable {X : mSc} {Q : Option Value → mHp → Prop} {M : mM}
theorem g20 {b nt np t : Nat} {r : Nat → Int32} (hb : b = 1 ∨ b = 18 ∨ b = 35) (hR : Rel b nt np M r) (hV : Vs nt np r) (ht : t < nt) : mT X 20 [.ref b, .int (nI t)] (con M) (some (.int (nI (wS (Rch r t) nt)))) (con M) := by
  refine mT.of (row := _) rfl (Nat.le_of_ble_eq_true rfl) ?_
  have hm : mMet 20 = some _ := rfl
  have hn8 := hV.1
  refine x_iconst hm rfl (v := nI 1) (by decide) ?_
  refine x_iload_n hm rfl rfl ?_
  refine x_ishl hm rfl ?_
  rw [shl_k t (by omega)]
  refine x_istore_n hm rfl rfl ?_
  refine x_iconst hm rfl (v := nI 1) (by decide) ?_
  refine x_istore_n hm rfl rfl ?_
  refine x_iconst hm rfl (v := nI 0) (by decide) ?_
  refine x_istore hm rfl rfl ?_
  exact m20a hb hR hV ht _ 0 _ _ _ _ (Nat.lt_succ_self _) (Nat.zero_le _) (Fs.one ht hn8) (Or.inl ⟨rfl, by rw [c8_one t (by omega)]; decide⟩)
abbrev mayF (nt np : Nat) (t a v : Int32) : Prop := if a = 0 then (nI 0 ≤ v ∧ v ≤ nI 3) else if a = nI 1 then (nI 0 ≤ v ∧ v ≤ nI 15) else if a = nI 2 then (nI 0 ≤ v ∧ v ≤ nI 999) else if a = nI 3 then (nI 0 ≤ v ∧ v ≤ nI 9) else if a = nI 4 then (v = -1 ∨ (nI 0 ≤ v ∧ v ≤ nI np - nI 1)) else if a = nI 5 then (v = -1 ∨ ((nI 0 ≤ v ∧ v ≤ nI nt - nI 1) ∧ ¬ v = t)) else False
section MF
variable {nt np : Nat} {t a v : Int32}
end MF
end FO
