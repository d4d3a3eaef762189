section FO
variable {X : mSc} {Q : Option Value → mHp → Prop} {M : mM}
section MF
variable {nt np : Nat} {t a v : Int32}
theorem mayF_f (h : mayF nt np t a v) : ∃ f, f < 6 ∧ a = nI f := by
  unfold mayF at h
  split at h
  · exact ⟨0, by decide, by assumption⟩
  split at h
  · exact ⟨1, by decide, by assumption⟩
  split at h
  · exact ⟨2, by decide, by assumption⟩
  split at h
  · exact ⟨3, by decide, by assumption⟩
  split at h
  · exact ⟨4, by decide, by assumption⟩
  split at h
  · exact ⟨5, by decide, by assumption⟩
  · exact absurd h id
end MF
end FO
