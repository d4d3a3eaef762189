section FO
variable {X : mSc} {Q : Option Value → mHp → Prop} {M : mM}
section MF
variable {nt np : Nat} {t a v : Int32}
theorem mayF_0 (h : a = nI 0) : (nI 0 ≤ v ∧ v ≤ nI 3) ↔ mayF nt np t a v := by
  subst h
  exact (iff_of_eq (if_pos (by decide))).symm
end MF
end FO
