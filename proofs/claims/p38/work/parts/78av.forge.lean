section FO
variable {X : mSc} {Q : Option Value → mHp → Prop} {M : mM}
variable {nt np : Nat} {r : Nat → Int32}
theorem Gd.forge {a1 a2 a3 : Int32} (h : Gd nt np r) : Gd (fForge nt np r a1 a2 a3).2.1 (fForge nt np r a1 a2 a3).2.2.1 (fForge nt np r a1 a2 a3).2.2.2 := by
  have ht8 := h.2.2.1.1
  have hp8 := h.2.2.1.2.1
  unfold fForge
  split
  · exact h
  · rename_i h1
    obtain ⟨t, ht, rfl⟩ := in_k rfl (by omega) (bI_ne0 h1)
    split
    · exact h
    · rename_i h2
      have hm := bI_ne0 h2
      obtain ⟨f, hf, rfl⟩ := mayF_f hm
      by_cases hc : fgC r (nI t) (nI f) a3
      · rw [if_pos hc]
        exact h
      · rw [if_neg hc, jI_nat (by omega), jI_nat (by omega)]
        refine h.pt ht hf (fun e => ?_) (fun e => ?_) (fun e => ?_) (fun e => ?_) (fun e => ?_) (fun e => ?_) <;> subst e
        · exact le_k (by decide) ((mayF_0 rfl).mpr hm)
        · exact le_k (by decide) ((mayF_1 rfl).mpr hm)
        · exact le_k (by decide) ((mayF_2 rfl).mpr hm)
        · exact le_k (by decide) ((mayF_3 rfl).mpr hm)
        · exact ((mayF_4 rfl).mpr hm).imp id fun g => in_k rfl (by omega) g
        · exact ((mayF_5 rfl).mpr hm).imp id fun g => in_k rfl (by omega) g.1
end FO
