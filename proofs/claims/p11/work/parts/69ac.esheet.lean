section EV
variable {X : mSc} {Q : Option Value → mHp → Prop} {M : mM} {s : Nat} {w z n : Nat → Int32}
theorem j_sheet {a1 a2 a3 : Int32} (hJ : J M) : JJ X 116 234 [.ref 0, .int a1, .int a2, .int a3] [.ref 66, .int a1, .int a2, .int a3] M Eq := by
  refine J.shj hJ (t116 hJ.1.1) (g116 hJ.rs.1) (fun M1 i => t234 i) (fun M1 i k => ?_) hJ.rs.2.sheet
  rw [← k 76 (by decide), ← k 77 (by decide), ← k 78 (by decide)]
  exact g234
theorem j_write {a1 a2 a3 : Int32} (hJ : J M) : JJ X 118 235 [.ref 0, .int a1, .int a2, .int a3] [.ref 66, .int a1, .int a2, .int a3] M Eq := by
  refine J.shj hJ (t118 hJ.1.1) (g118 hJ.rs.1 (fun u _ => hJ.1.1.size u)) (fun M1 i => t235 i) (fun M1 i k => ?_) hJ.rs.2.write
  rw [← k 76 (by decide), ← k 77 (by decide), ← k 78 (by decide)]
  exact g235 (fun u _ => i.1.size u)
end EV
