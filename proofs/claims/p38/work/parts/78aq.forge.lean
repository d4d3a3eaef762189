section FO
variable {X : mSc} {Q : Option Value → mHp → Prop} {M : mM}
section MF
variable {nt np : Nat} {t a v : Int32}
theorem mayF_e (h : a.toInt < 0 ∨ 5 < a.toInt) : ¬ mayF nt np t a v := by
  intro g
  obtain ⟨f, hf, rfl⟩ := mayF_f g
  rw [jI_int (by omega)] at h
  omega
end MF
abbrev fgC (r : Nat → Int32) (a1 a2 a3 : Int32) : Prop := a2 = nI 5 ∧ ¬ a3 = -1 ∧ Rch r a1.toNatClampNeg a3.toNatClampNeg
noncomputable def fForge (nt np : Nat) (r : Nat → Int32) (a1 a2 a3 : Int32) : Sq4 :=
  if bI (nI 0 ≤ a1 ∧ a1 ≤ nI nt - nI 1) = 0 then (-1000001, nt, np, r) else if bI (mayF nt np a1 a2 a3) = 0 then (-1000001, nt, np, r) else @ite _ (fgC r a1 a2 a3) (Classical.propDecidable _) (-1000005, nt, np, r) (r (14 + 6 * a1.toNatClampNeg + a2.toNatClampNeg), nt, np, put1 r (14 + 6 * a1.toNatClampNeg + a2.toNatClampNeg) a3)
variable {nt np : Nat} {r : Nat → Int32}
end FO
