section FO
variable {X : mSc} {Q : Option Value → mHp → Prop} {M : mM}
variable {nt np : Nat} {r : Nat → Int32}
theorem j_forge {a1 a2 a3 : Int32} (hJ : J M) : JJ X 17 149 [.ref 0, .int a1, .int a2, .int a3] [.ref 66, .int a1, .int a2, .int a3] M Eq := by
  obtain ⟨nt, np, hR, h1, h2, hV, hr, -⟩ := hJ.2.2.1
  exact J.join hJ (t17 hJ.1.1) (g17 hR hV.1 hV.2.1 hV) (fun M1 i => t149 i) (fun M1 i k => g149 (k 67 (by decide)) (by rw [k 67 (by decide)]; exact h1) hV.1 (by rw [k 67 (by decide)]; exact h2) hV.2.1 i) (Gd.forge ⟨h1, h2, hV, hr⟩)
end FO
