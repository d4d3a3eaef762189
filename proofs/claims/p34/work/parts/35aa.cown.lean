/-! ===== the class: its own methods ===== -/
section CD
variable {X : mSc} {Q : Option Value → mHp → Prop} {M : mM} {b : Nat}
theorem Bq.ck {M' : mM} (h : Bq b M M') (hW : Wf M) : Ck M M' := ⟨h.1 hW, fun a ha => h.2.1 a (Or.inl ha)⟩
theorem Bq.cq {M' : mM} (h : Bq 35 M M') (hW : Wf M) : Cq M M' := ⟨h.1 hW, fun a ha => h.2.1 a (by omega)⟩
theorem Bq.cell {a c : Nat} {v : Int32} (hk : okx (kd a c) v) (ha : a < 66) (hx : b = 35 → a = 55 ∨ a = 56 ∨ a = 57) (h1 : a ≠ 1) (h2 : a ≠ 18) (h3 : a ≠ 35) : Bq b M (mput M a c v) := by
  refine ⟨fun h => h.put hk, fun i hi => mpo (by omega), fun d hd _ => ?_⟩
  rw [mpo (by omega)]
  exact ⟨rfl, rfl⟩
theorem kd55 (x : Nat) : kd 55 x = 0 := by simp [kd]
theorem kd56 (x : Nat) : kd 56 x = 0 := by simp [kd]
theorem kd57 (x : Nat) : kd 57 x = 0 := by simp [kd]
theorem FD_k0 {v : Int32} (h : FD v) : ∃ k, k ≤ 6 ∧ (-1000001 : Int32) - v = nI k := by
  rcases h with rfl | rfl | rfl | rfl | rfl | rfl | rfl
  · exact ⟨0, by omega, by decide +kernel⟩
  · exact ⟨1, by omega, by decide +kernel⟩
  · exact ⟨2, by omega, by decide +kernel⟩
  · exact ⟨3, by omega, by decide +kernel⟩
  · exact ⟨4, by omega, by decide +kernel⟩
  · exact ⟨5, by omega, by decide +kernel⟩
  · exact ⟨6, by omega, by decide +kernel⟩
theorem t7 {v : Int32} (hv : FD v) : ∃ v' M', mT X 7 [.ref 0, .int v] (con M) (some (.int v')) (con M') ∧ v' = v ∧ Bq 35 M M' := by
  refine ti_of (row := _) rfl (Nat.le_of_ble_eq_true rfl) ?_
  have hm : mMet 7 = some _ := rfl
  obtain ⟨k, hk, he⟩ := FD_k0 hv
  refine x_ldcI hm rfl (v := (-1000001 : Int32)) (by decide +kernel) ?_
  refine x_iload_n hm rfl rfl ?_
  refine x_isub hm rfl ?_
  rw [he]
  refine x_istore_n hm rfl rfl ?_
  refine x_iload_n hm rfl rfl ?_
  refine x_iconst hm rfl (v := nI 0) (by decide) ?_
  refine x_bipush hm rfl (v := nI 6) (by decide) ?_
  refine x_callS hm rfl rfl (t6) ?_
  refine x_if_eq hm rfl (t := 25) rfl (fun h1 => ?_) (fun h1 => ?_)
  · refine x_iload_n hm rfl rfl ?_
    refine x_iret hm rfl rfl (by first | rfl | exact bI_nar | decide) ?_
    exact ⟨_, _, rfl, rfl, rfl, by first | exact Bq.cell (by rw [kd55]; trivial) (by decide) (fun _ => Or.inl rfl) (by decide) (by decide) (by decide) | exact Bq.rf⟩
  · refine x_aload_n hm rfl rfl ?_
    refine x_getf hm rfl (gR rfl rfl) ?_
    refine x_iload_n hm rfl rfl ?_
    refine x_dup2 hm rfl rfl rfl ?_
    refine x_iald hm rfl (lI rfl (by omega) (by decide)) ?_
    refine x_iconst hm rfl (v := nI 1) (by decide) ?_
    refine x_iadd hm rfl ?_
    refine x_iast hm rfl (sI rfl (by omega) (by decide)) ?_
    refine x_iload_n hm rfl rfl ?_
    refine x_iret hm rfl rfl (by first | rfl | exact bI_nar | decide) ?_
    exact ⟨_, _, rfl, rfl, rfl, by first | exact Bq.cell (by rw [kd55]; trivial) (by decide) (fun _ => Or.inl rfl) (by decide) (by decide) (by decide) | exact Bq.rf⟩

end CD
