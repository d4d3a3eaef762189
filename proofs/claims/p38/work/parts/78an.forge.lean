section FO
variable {X : mSc} {Q : Option Value → mHp → Prop} {M : mM}
section MF
variable {nt np : Nat} {t a v : Int32}
theorem mayF_4 (h : a = nI 4) : (v = -1 ∨ (nI 0 ≤ v ∧ v ≤ nI np - nI 1)) ↔ mayF nt np t a v := by
  subst h
  exact (iff_of_eq ((if_neg (by decide)).trans ((if_neg (by decide)).trans ((if_neg (by decide)).trans ((if_neg (by decide)).trans (if_pos rfl)))))).symm
end MF
end FO
