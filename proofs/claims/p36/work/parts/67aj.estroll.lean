section ET
variable {X : mSc} {Q : Option Value → mHp → Prop} {M : mM} {b nt np : Nat} {r : Nat → Int32}
theorem j_strolls {a1 : Int32} (hJ : J M) : JJ X 82 214 [.ref 0, .int a1] [.ref 66, .int a1] M Eq := by
  obtain ⟨nt, np, hR, h1, h2, hV, hr, hc⟩ := hJ.2.2.1
  exact J.join hJ (t82 hJ.1.1) (g82 hR hV.1 hV.2.1 hV hc) (fun M1 i => t214 i) (fun M1 i k => g214 (k 67 (by decide)) (by rw [k 67 (by decide)]; exact h1) hV.1 (by rw [k 67 (by decide)]; exact h2) hV.2.1 i.1 (by rw [k 66 (by decide)]; exact hJ.2.2.2.2.2.2)) (Gd.strolls ⟨h1, h2, hV, hr⟩)
end ET
