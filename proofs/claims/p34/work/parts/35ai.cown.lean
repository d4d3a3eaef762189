section CD
variable {X : mSc} {Q : Option Value → mHp → Prop} {M : mM} {b : Nat}
theorem change_tw {f t : Nat} {v : Int32} (hf : f < 7) : Tw 1 M (mput M (1 + 9 + f) t v) := by
  rw [Nat.add_assoc]
  refine Tw.row (b := 1) (j := 9 + f) (Or.inl rfl) (by omega) (by omega) ?_
  rw [if_neg (by omega), if_neg (by omega)]
  trivial
theorem t26 {a1 a2 a3 : Int32} (hW : Wf M) : ∃ v M', mT X 26 [.ref 0, .int a1, .int a2, .int a3] (con M) (some (.int v)) (con M') ∧ Ck M M' := by
  refine ti_of (row := _) rfl (Nat.le_of_ble_eq_true rfl) ?_
  have hm : mMet 26 = some _ := rfl
  obtain ⟨np, hp8, hnp⟩ := hW.cpn (b := 1) (by decide)
  refine x_aload_n hm rfl rfl ?_
  refine x_getf hm rfl (gR rfl rfl) ?_
  refine x_iload_n hm rfl rfl ?_
  refine x_callV hm rfl rfl (t19 (by decide)) ?_
  refine x_if_eq hm rfl (t := 19) rfl (fun h1 => ?_) (fun h1 => ?_)
  · refine x_aload_n hm rfl rfl ?_
    refine x_ldcI hm rfl (v := (-1000001 : Int32)) (by decide +kernel) ?_
    refine x_cVi hm rfl rfl (t7 (by decide +kernel)) (fun v2 M2 r2 => ?_)
    refine x_iret hm rfl rfl (by first | rfl | exact bI_nar | decide) ?_
    first
      | exact ⟨_, _, rfl, rfl, r2.2.ck hW⟩
      | exact ⟨_, _, rfl, rfl, Ck.rf hW⟩
      | exact ⟨_, _, rfl, rfl, (change_tw hf).ck hW⟩
      | exact ⟨_, _, rfl, rfl, r1.2.ck hW⟩
      | exact ⟨_, _, rfl, rfl, r3.2.ck hW⟩
      | exact ⟨_, _, rfl, rfl, r4.2.ck hW⟩
      | exact ⟨_, _, rfl, rfl, r5.2.ck hW⟩
      | exact ⟨_, _, rfl, rfl, r6.2.ck hW⟩
      | exact ⟨_, _, rfl, rfl, r7.2.ck hW⟩
      | exact ⟨_, _, rfl, rfl, r8.2.ck hW⟩
      | exact ⟨_, _, rfl, rfl, r9.2.ck hW⟩
      | exact ⟨_, _, rfl, rfl, r10.2.ck hW⟩
      | exact ⟨_, _, rfl, rfl, r11.2.ck hW⟩
      | exact ⟨_, _, rfl, rfl, r12.2.ck hW⟩
      | exact ⟨_, _, rfl, rfl, r13.2.ck hW⟩
      | exact ⟨_, _, rfl, rfl, r14.2.ck hW⟩
      | exact ⟨_, _, rfl, rfl, r15.2.ck hW⟩
      | exact ⟨_, _, rfl, rfl, r16.2.ck hW⟩
      | exact ⟨_, _, rfl, rfl, r17.2.ck hW⟩
      | exact ⟨_, _, rfl, rfl, r18.2.ck hW⟩
      | exact ⟨_, _, rfl, rfl, r19.2.ck hW⟩
  · obtain ⟨p, hp, rfl⟩ := in_k hnp (by omega) (bI_ne0 h1)
    refine x_iload_n hm rfl rfl ?_
    refine x_iload_n hm rfl rfl ?_
    refine x_cSe hm rfl rfl (t27) (fun v3 r3 => ?_)
    refine x_if_ne hm rfl (t := 26) rfl (fun h4 => ?_) (fun h4 => ?_)
    · first
        | obtain ⟨f, hf, rfl⟩ := r3.resolve_left (fun e => by subst e; exact h4 rfl)
        | obtain ⟨f, hf, rfl⟩ := r1.resolve_left (fun e => by subst e; exact h4 rfl)
        | obtain ⟨f, hf, rfl⟩ := r2.resolve_left (fun e => by subst e; exact h4 rfl)
        | obtain ⟨f, hf, rfl⟩ := r4.resolve_left (fun e => by subst e; exact h4 rfl)
        | obtain ⟨f, hf, rfl⟩ := r5.resolve_left (fun e => by subst e; exact h4 rfl)
        | obtain ⟨f, hf, rfl⟩ := r6.resolve_left (fun e => by subst e; exact h4 rfl)
        | obtain ⟨f, hf, rfl⟩ := r7.resolve_left (fun e => by subst e; exact h4 rfl)
      refine x_aload_n hm rfl rfl ?_
      refine x_getf hm rfl (gR rfl rfl) ?_
      refine x_getf hm rfl (gR rfl rfl) ?_
      refine x_iload_n hm rfl rfl ?_
      refine x_aald hm rfl (lQ 3 (Or.inr (Or.inl rfl)) (tF (b := 1) (by decide)) (tFk (by omega)) (by omega) (by decide)) ?_
      refine x_iload_n hm rfl rfl ?_
      refine x_iald hm rfl (lI (tRowF (b := 1) (by decide) (by omega)) (by omega) (by decide)) ?_
      refine x_istore hm rfl rfl ?_
      refine x_aload_n hm rfl rfl ?_
      refine x_getf hm rfl (gR rfl rfl) ?_
      refine x_getf hm rfl (gR rfl rfl) ?_
      refine x_iload_n hm rfl rfl ?_
      refine x_aald hm rfl (lQ 3 (Or.inr (Or.inl rfl)) (tF (b := 1) (by decide)) (tFk (by omega)) (by omega) (by decide)) ?_
      refine x_iload_n hm rfl rfl ?_
      refine x_iload_n hm rfl rfl ?_
      refine x_iast hm rfl (sI (tRowF (b := 1) (by decide) (by omega)) (by omega) (by decide)) ?_
      refine x_iload hm rfl rfl ?_
      refine x_iret hm rfl rfl (by first | rfl | exact bI_nar | decide) ?_
      first
        | exact ⟨_, _, rfl, rfl, r3.2.ck hW⟩
        | exact ⟨_, _, rfl, rfl, Ck.rf hW⟩
        | exact ⟨_, _, rfl, rfl, (change_tw hf).ck hW⟩
        | exact ⟨_, _, rfl, rfl, r1.2.ck hW⟩
        | exact ⟨_, _, rfl, rfl, r2.2.ck hW⟩
        | exact ⟨_, _, rfl, rfl, r4.2.ck hW⟩
        | exact ⟨_, _, rfl, rfl, r5.2.ck hW⟩
        | exact ⟨_, _, rfl, rfl, r6.2.ck hW⟩
        | exact ⟨_, _, rfl, rfl, r7.2.ck hW⟩
        | exact ⟨_, _, rfl, rfl, r8.2.ck hW⟩
        | exact ⟨_, _, rfl, rfl, r9.2.ck hW⟩
        | exact ⟨_, _, rfl, rfl, r10.2.ck hW⟩
        | exact ⟨_, _, rfl, rfl, r11.2.ck hW⟩
        | exact ⟨_, _, rfl, rfl, r12.2.ck hW⟩
        | exact ⟨_, _, rfl, rfl, r13.2.ck hW⟩
        | exact ⟨_, _, rfl, rfl, r14.2.ck hW⟩
        | exact ⟨_, _, rfl, rfl, r15.2.ck hW⟩
        | exact ⟨_, _, rfl, rfl, r16.2.ck hW⟩
        | exact ⟨_, _, rfl, rfl, r17.2.ck hW⟩
        | exact ⟨_, _, rfl, rfl, r18.2.ck hW⟩
        | exact ⟨_, _, rfl, rfl, r19.2.ck hW⟩
    · refine x_aload_n hm rfl rfl ?_
      refine x_ldcI hm rfl (v := (-1000001 : Int32)) (by decide +kernel) ?_
      refine x_cVi hm rfl rfl (t7 (by decide +kernel)) (fun v5 M5 r5 => ?_)
      refine x_iret hm rfl rfl (by first | rfl | exact bI_nar | decide) ?_
      first
        | exact ⟨_, _, rfl, rfl, r5.2.ck hW⟩
        | exact ⟨_, _, rfl, rfl, Ck.rf hW⟩
        | exact ⟨_, _, rfl, rfl, (change_tw hf).ck hW⟩
        | exact ⟨_, _, rfl, rfl, r3.2.ck hW⟩
        | exact ⟨_, _, rfl, rfl, r1.2.ck hW⟩
        | exact ⟨_, _, rfl, rfl, r2.2.ck hW⟩
        | exact ⟨_, _, rfl, rfl, r4.2.ck hW⟩
        | exact ⟨_, _, rfl, rfl, r6.2.ck hW⟩
        | exact ⟨_, _, rfl, rfl, r7.2.ck hW⟩
        | exact ⟨_, _, rfl, rfl, r8.2.ck hW⟩
        | exact ⟨_, _, rfl, rfl, r9.2.ck hW⟩
        | exact ⟨_, _, rfl, rfl, r10.2.ck hW⟩
        | exact ⟨_, _, rfl, rfl, r11.2.ck hW⟩
        | exact ⟨_, _, rfl, rfl, r12.2.ck hW⟩
        | exact ⟨_, _, rfl, rfl, r13.2.ck hW⟩
        | exact ⟨_, _, rfl, rfl, r14.2.ck hW⟩
        | exact ⟨_, _, rfl, rfl, r15.2.ck hW⟩
        | exact ⟨_, _, rfl, rfl, r16.2.ck hW⟩
        | exact ⟨_, _, rfl, rfl, r17.2.ck hW⟩
        | exact ⟨_, _, rfl, rfl, r18.2.ck hW⟩
        | exact ⟨_, _, rfl, rfl, r19.2.ck hW⟩
end CD
