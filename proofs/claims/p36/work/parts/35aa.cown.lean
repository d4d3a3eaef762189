/-! ===== the class: its own methods ===== -/
section CD
variable {X : mSc} {Q : Option Value → mHp → Prop} {M : mM} {b : Nat}
theorem Bq.ck {M' : mM} (h : Bq b M M') (hW : Wf M) : Ck M M' := ⟨h.1 hW, fun a ha => h.2.1 a (Or.inl ha)⟩
theorem Bq.cq {M' : mM} (h : Bq 35 M M') (hW : Wf M) : Cq M M' := ⟨h.1 hW, fun a ha => h.2.1 a (by omega)⟩
theorem Bq.cell {a c : Nat} {v : Int32} (hk : okx (kd a c) v) (ha : a < 66) (hx : b = 35 → a = 55 ∨ a = 56 ∨ a = 57) (h1 : a ≠ 1) (h2 : a ≠ 18) (h3 : a ≠ 35) : Bq b M (mput M a c v) := by
  refine ⟨fun h => h.put hk, fun i hi => mpo (by omega), fun d hd _ => ?_⟩
  rw [mpo (by omega)]
  exact ⟨rfl, rfl⟩
end CD
