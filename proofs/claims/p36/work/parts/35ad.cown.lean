section CD
variable {X : mSc} {Q : Option Value → mHp → Prop} {M : mM} {b : Nat}
theorem t7 {v : Int32} (hv : FD v) : ∃ v' M', mT X 7 [.ref 0, .int v] (con M) (some (.int v')) (con M') ∧ v' = v ∧ Bq 35 M M' := by
  refine ti_of (row := _) rfl (Nat.le_of_ble_eq_true rfl) ?_
  have hm : mMet 7 = some _ := rfl
  obtain ⟨k, hk, he⟩ := FD_k0 hv
  refine x_ldcI hm rfl (v := (-1000001 : Int32)) (by decide +kernel) ?_
  refine x_iload_n hm rfl rfl ?_
  refine x_isub hm rfl ?_
  rw [he]
  refine x_istore_n hm rfl rfl ?_
  refine x_iload_n hm rfl rfl ?_
  refine x_iconst hm rfl (v := nI 0) (by decide) ?_
  refine x_bipush hm rfl (v := nI 6) (by decide) ?_
  refine x_callS hm rfl rfl (t6) ?_
  refine x_if_eq hm rfl (t := 25) rfl (fun h1 => ?_) (fun h1 => ?_)
  · have hz : Bq 35 M M := Bq.rf
    refine x_iload_n hm rfl rfl ?_
    refine x_iret hm rfl rfl (by first | rfl | exact bI_nar | decide) ?_
    exact ⟨_, _, rfl, rfl, rfl, hz⟩
  · refine x_aload_n hm rfl rfl ?_
    refine x_getf hm rfl (gR rfl rfl) ?_
    refine x_iload_n hm rfl rfl ?_
    refine x_dup2 hm rfl rfl rfl ?_
    refine x_iald hm rfl (lI rfl (by omega) (by decide)) ?_
    refine x_iconst hm rfl (v := nI 1) (by decide) ?_
    refine x_iadd hm rfl ?_
    refine x_iast hm rfl (sI rfl (by omega) (by decide)) ?_
    have hz : Bq 35 M (mput M 55 k (M 55 k + nI 1)) := Bq.cell (by rw [kd55]; trivial) (by decide) (fun _ => Or.inl rfl) (by decide) (by decide) (by decide)
    refine x_iload_n hm rfl rfl ?_
    refine x_iret hm rfl rfl (by first | rfl | exact bI_nar | decide) ?_
    exact ⟨_, _, rfl, rfl, rfl, hz⟩

end CD
