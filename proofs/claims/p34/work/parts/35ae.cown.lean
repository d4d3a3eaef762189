section CD
variable {X : mSc} {Q : Option Value → mHp → Prop} {M : mM} {b : Nat}
theorem forge_tw {f t : Nat} {v : Int32} (hf : f < 6) (g0 : f = 0 → okx 3 v) (g4 : f = 4 → okx 2 v) (g5 : f = 5 → okx 2 v) : Tw 1 M (mput M (1 + 2 + f) t v) := by
  rw [Nat.add_assoc]
  refine Tw.row (b := 1) (j := 2 + f) (Or.inl rfl) (by omega) (by omega) ?_
  rcases (by omega : f = 0 ∨ f = 4 ∨ f = 5 ∨ (f ≠ 0 ∧ f ≠ 4 ∧ f ≠ 5)) with rfl | rfl | rfl | ⟨h1, h2, h3⟩
  · exact g0 rfl
  · exact g4 rfl
  · exact g5 rfl
  · rw [if_neg (by omega), if_neg (by omega)]
    trivial
theorem t17 {a1 a2 a3 : Int32} (hW : Wf M) : ∃ v M', mT X 17 [.ref 0, .int a1, .int a2, .int a3] (con M) (some (.int v)) (con M') ∧ Ck M M' := by
  refine ti_of (row := _) rfl (Nat.le_of_ble_eq_true rfl) ?_
  have hm : mMet 17 = some _ := rfl
  obtain ⟨nt, hn8, hnt⟩ := hW.ct (b := 1) (by decide)
  refine x_aload_n hm rfl rfl ?_
  refine x_getf hm rfl (gR rfl rfl) ?_
  refine x_iload_n hm rfl rfl ?_
  refine x_callV hm rfl rfl (t10 (by decide)) ?_
  refine x_if_eq hm rfl (t := 21) rfl (fun h1 => ?_) (fun h1 => ?_)
  · refine x_aload_n hm rfl rfl ?_
    refine x_ldcI hm rfl (v := (-1000001 : Int32)) (by decide +kernel) ?_
    refine x_cVi hm rfl rfl (t7 (by decide +kernel)) (fun v2 M2 r2 => ?_)
    refine x_iret hm rfl rfl (by first | rfl | exact bI_nar | decide) ?_
    first
      | exact ⟨_, _, rfl, rfl, r2.2.ck hW⟩
      | exact ⟨_, _, rfl, rfl, Ck.rf hW⟩
      | exact ⟨_, _, rfl, rfl, (forge_tw hf g0 g4 g5).ck hW⟩
      | exact ⟨_, _, rfl, rfl, r1.2.ck hW⟩
      | exact ⟨_, _, rfl, rfl, r3.2.ck hW⟩
      | exact ⟨_, _, rfl, rfl, r4.2.ck hW⟩
      | exact ⟨_, _, rfl, rfl, r5.2.ck hW⟩
      | exact ⟨_, _, rfl, rfl, r6.2.ck hW⟩
      | exact ⟨_, _, rfl, rfl, r7.2.ck hW⟩
      | exact ⟨_, _, rfl, rfl, r8.2.ck hW⟩
      | exact ⟨_, _, rfl, rfl, r9.2.ck hW⟩
      | exact ⟨_, _, rfl, rfl, r10.2.ck hW⟩
      | exact ⟨_, _, rfl, rfl, r11.2.ck hW⟩
      | exact ⟨_, _, rfl, rfl, r12.2.ck hW⟩
      | exact ⟨_, _, rfl, rfl, r13.2.ck hW⟩
      | exact ⟨_, _, rfl, rfl, r14.2.ck hW⟩
      | exact ⟨_, _, rfl, rfl, r15.2.ck hW⟩
      | exact ⟨_, _, rfl, rfl, r16.2.ck hW⟩
      | exact ⟨_, _, rfl, rfl, r17.2.ck hW⟩
      | exact ⟨_, _, rfl, rfl, r18.2.ck hW⟩
      | exact ⟨_, _, rfl, rfl, r19.2.ck hW⟩
  · obtain ⟨t, ht, rfl⟩ := in_k hnt (by omega) (bI_ne0 h1)
    refine x_aload_n hm rfl rfl ?_
    refine x_iload_n hm rfl rfl ?_
    refine x_iload_n hm rfl rfl ?_
    refine x_iload_n hm rfl rfl ?_
    refine x_cVe hm rfl rfl (t18 hW) (fun v3 r3 => ?_)
    refine x_if_ne hm rfl (t := 28) rfl (fun h4 => ?_) (fun h4 => ?_)
    · first
        | obtain ⟨-, f, hf, rfl, g0, g4, g5⟩ := r3.resolve_left (fun e => by subst e; exact h4 rfl)
        | obtain ⟨-, f, hf, rfl, g0, g4, g5⟩ := r1.resolve_left (fun e => by subst e; exact h4 rfl)
        | obtain ⟨-, f, hf, rfl, g0, g4, g5⟩ := r2.resolve_left (fun e => by subst e; exact h4 rfl)
        | obtain ⟨-, f, hf, rfl, g0, g4, g5⟩ := r4.resolve_left (fun e => by subst e; exact h4 rfl)
        | obtain ⟨-, f, hf, rfl, g0, g4, g5⟩ := r5.resolve_left (fun e => by subst e; exact h4 rfl)
        | obtain ⟨-, f, hf, rfl, g0, g4, g5⟩ := r6.resolve_left (fun e => by subst e; exact h4 rfl)
        | obtain ⟨-, f, hf, rfl, g0, g4, g5⟩ := r7.resolve_left (fun e => by subst e; exact h4 rfl)
      refine x_iload_n hm rfl rfl ?_
      refine x_iconst hm rfl (v := nI 5) (by decide) ?_
      refine x_icmp_ne hm rfl (t := 60) rfl (fun h5 => ?_) (fun h5 => ?_)
      · refine x_aload_n hm rfl rfl ?_
        refine x_getf hm rfl (gR rfl rfl) ?_
        refine x_getf hm rfl (gR rfl rfl) ?_
        refine x_iload_n hm rfl rfl ?_
        refine x_aald hm rfl (lQ 3 (Or.inr (Or.inl rfl)) (tI (b := 1) (by decide)) (tIk (by omega)) (by omega) (by decide)) ?_
        refine x_iload_n hm rfl rfl ?_
        refine x_iald hm rfl (lI (tRowI (b := 1) (by decide) (by omega)) (by omega) (by decide)) ?_
        refine x_istore hm rfl rfl ?_
        refine x_aload_n hm rfl rfl ?_
        refine x_getf hm rfl (gR rfl rfl) ?_
        refine x_getf hm rfl (gR rfl rfl) ?_
        refine x_iload_n hm rfl rfl ?_
        refine x_aald hm rfl (lQ 3 (Or.inr (Or.inl rfl)) (tI (b := 1) (by decide)) (tIk (by omega)) (by omega) (by decide)) ?_
        refine x_iload_n hm rfl rfl ?_
        refine x_iload_n hm rfl rfl ?_
        refine x_iast hm rfl (sI (tRowI (b := 1) (by decide) (by omega)) (by omega) (by decide)) ?_
        refine x_iload hm rfl rfl ?_
        refine x_iret hm rfl rfl (by first | rfl | exact bI_nar | decide) ?_
        first
          | exact ⟨_, _, rfl, rfl, r3.2.ck hW⟩
          | exact ⟨_, _, rfl, rfl, Ck.rf hW⟩
          | exact ⟨_, _, rfl, rfl, (forge_tw hf g0 g4 g5).ck hW⟩
          | exact ⟨_, _, rfl, rfl, r1.2.ck hW⟩
          | exact ⟨_, _, rfl, rfl, r2.2.ck hW⟩
          | exact ⟨_, _, rfl, rfl, r4.2.ck hW⟩
          | exact ⟨_, _, rfl, rfl, r5.2.ck hW⟩
          | exact ⟨_, _, rfl, rfl, r6.2.ck hW⟩
          | exact ⟨_, _, rfl, rfl, r7.2.ck hW⟩
          | exact ⟨_, _, rfl, rfl, r8.2.ck hW⟩
          | exact ⟨_, _, rfl, rfl, r9.2.ck hW⟩
          | exact ⟨_, _, rfl, rfl, r10.2.ck hW⟩
          | exact ⟨_, _, rfl, rfl, r11.2.ck hW⟩
          | exact ⟨_, _, rfl, rfl, r12.2.ck hW⟩
          | exact ⟨_, _, rfl, rfl, r13.2.ck hW⟩
          | exact ⟨_, _, rfl, rfl, r14.2.ck hW⟩
          | exact ⟨_, _, rfl, rfl, r15.2.ck hW⟩
          | exact ⟨_, _, rfl, rfl, r16.2.ck hW⟩
          | exact ⟨_, _, rfl, rfl, r17.2.ck hW⟩
          | exact ⟨_, _, rfl, rfl, r18.2.ck hW⟩
          | exact ⟨_, _, rfl, rfl, r19.2.ck hW⟩
      · refine x_iload_n hm rfl rfl ?_
        refine x_iconst hm rfl (v := (-1 : Int32)) (by decide) ?_
        refine x_icmp_eq hm rfl (t := 60) rfl (fun h6 => ?_) (fun h6 => ?_)
        · refine x_aload_n hm rfl rfl ?_
          refine x_getf hm rfl (gR rfl rfl) ?_
          refine x_getf hm rfl (gR rfl rfl) ?_
          refine x_iload_n hm rfl rfl ?_
          refine x_aald hm rfl (lQ 3 (Or.inr (Or.inl rfl)) (tI (b := 1) (by decide)) (tIk (by omega)) (by omega) (by decide)) ?_
          refine x_iload_n hm rfl rfl ?_
          refine x_iald hm rfl (lI (tRowI (b := 1) (by decide) (by omega)) (by omega) (by decide)) ?_
          refine x_istore hm rfl rfl ?_
          refine x_aload_n hm rfl rfl ?_
          refine x_getf hm rfl (gR rfl rfl) ?_
          refine x_getf hm rfl (gR rfl rfl) ?_
          refine x_iload_n hm rfl rfl ?_
          refine x_aald hm rfl (lQ 3 (Or.inr (Or.inl rfl)) (tI (b := 1) (by decide)) (tIk (by omega)) (by omega) (by decide)) ?_
          refine x_iload_n hm rfl rfl ?_
          refine x_iload_n hm rfl rfl ?_
          refine x_iast hm rfl (sI (tRowI (b := 1) (by decide) (by omega)) (by omega) (by decide)) ?_
          refine x_iload hm rfl rfl ?_
          refine x_iret hm rfl rfl (by first | rfl | exact bI_nar | decide) ?_
          first
            | exact ⟨_, _, rfl, rfl, r3.2.ck hW⟩
            | exact ⟨_, _, rfl, rfl, Ck.rf hW⟩
            | exact ⟨_, _, rfl, rfl, (forge_tw hf g0 g4 g5).ck hW⟩
            | exact ⟨_, _, rfl, rfl, r1.2.ck hW⟩
            | exact ⟨_, _, rfl, rfl, r2.2.ck hW⟩
            | exact ⟨_, _, rfl, rfl, r4.2.ck hW⟩
            | exact ⟨_, _, rfl, rfl, r5.2.ck hW⟩
            | exact ⟨_, _, rfl, rfl, r6.2.ck hW⟩
            | exact ⟨_, _, rfl, rfl, r7.2.ck hW⟩
            | exact ⟨_, _, rfl, rfl, r8.2.ck hW⟩
            | exact ⟨_, _, rfl, rfl, r9.2.ck hW⟩
            | exact ⟨_, _, rfl, rfl, r10.2.ck hW⟩
            | exact ⟨_, _, rfl, rfl, r11.2.ck hW⟩
            | exact ⟨_, _, rfl, rfl, r12.2.ck hW⟩
            | exact ⟨_, _, rfl, rfl, r13.2.ck hW⟩
            | exact ⟨_, _, rfl, rfl, r14.2.ck hW⟩
            | exact ⟨_, _, rfl, rfl, r15.2.ck hW⟩
            | exact ⟨_, _, rfl, rfl, r16.2.ck hW⟩
            | exact ⟨_, _, rfl, rfl, r17.2.ck hW⟩
            | exact ⟨_, _, rfl, rfl, r18.2.ck hW⟩
            | exact ⟨_, _, rfl, rfl, r19.2.ck hW⟩
        · refine x_aload_n hm rfl rfl ?_
          refine x_getf hm rfl (gR rfl rfl) ?_
          refine x_iload_n hm rfl rfl ?_
          refine x_cVe hm rfl rfl (t20 (by decide) hW) (fun v7 r7 => ?_)
          refine x_iload_n hm rfl rfl ?_
          refine x_cSe hm rfl rfl (t21) (fun v8 r8 => ?_)
          refine x_if_eq hm rfl (t := 60) rfl (fun h9 => ?_) (fun h9 => ?_)
          · refine x_aload_n hm rfl rfl ?_
            refine x_getf hm rfl (gR rfl rfl) ?_
            refine x_getf hm rfl (gR rfl rfl) ?_
            refine x_iload_n hm rfl rfl ?_
            refine x_aald hm rfl (lQ 3 (Or.inr (Or.inl rfl)) (tI (b := 1) (by decide)) (tIk (by omega)) (by omega) (by decide)) ?_
            refine x_iload_n hm rfl rfl ?_
            refine x_iald hm rfl (lI (tRowI (b := 1) (by decide) (by omega)) (by omega) (by decide)) ?_
            refine x_istore hm rfl rfl ?_
            refine x_aload_n hm rfl rfl ?_
            refine x_getf hm rfl (gR rfl rfl) ?_
            refine x_getf hm rfl (gR rfl rfl) ?_
            refine x_iload_n hm rfl rfl ?_
            refine x_aald hm rfl (lQ 3 (Or.inr (Or.inl rfl)) (tI (b := 1) (by decide)) (tIk (by omega)) (by omega) (by decide)) ?_
            refine x_iload_n hm rfl rfl ?_
            refine x_iload_n hm rfl rfl ?_
            refine x_iast hm rfl (sI (tRowI (b := 1) (by decide) (by omega)) (by omega) (by decide)) ?_
            refine x_iload hm rfl rfl ?_
            refine x_iret hm rfl rfl (by first | rfl | exact bI_nar | decide) ?_
            first
              | exact ⟨_, _, rfl, rfl, r8.2.ck hW⟩
              | exact ⟨_, _, rfl, rfl, Ck.rf hW⟩
              | exact ⟨_, _, rfl, rfl, (forge_tw hf g0 g4 g5).ck hW⟩
              | exact ⟨_, _, rfl, rfl, r3.2.ck hW⟩
              | exact ⟨_, _, rfl, rfl, r7.2.ck hW⟩
              | exact ⟨_, _, rfl, rfl, r1.2.ck hW⟩
              | exact ⟨_, _, rfl, rfl, r2.2.ck hW⟩
              | exact ⟨_, _, rfl, rfl, r4.2.ck hW⟩
              | exact ⟨_, _, rfl, rfl, r5.2.ck hW⟩
              | exact ⟨_, _, rfl, rfl, r6.2.ck hW⟩
              | exact ⟨_, _, rfl, rfl, r9.2.ck hW⟩
              | exact ⟨_, _, rfl, rfl, r10.2.ck hW⟩
              | exact ⟨_, _, rfl, rfl, r11.2.ck hW⟩
              | exact ⟨_, _, rfl, rfl, r12.2.ck hW⟩
              | exact ⟨_, _, rfl, rfl, r13.2.ck hW⟩
              | exact ⟨_, _, rfl, rfl, r14.2.ck hW⟩
              | exact ⟨_, _, rfl, rfl, r15.2.ck hW⟩
              | exact ⟨_, _, rfl, rfl, r16.2.ck hW⟩
              | exact ⟨_, _, rfl, rfl, r17.2.ck hW⟩
              | exact ⟨_, _, rfl, rfl, r18.2.ck hW⟩
              | exact ⟨_, _, rfl, rfl, r19.2.ck hW⟩
          · refine x_aload_n hm rfl rfl ?_
            refine x_ldcI hm rfl (v := (-1000005 : Int32)) (by decide +kernel) ?_
            refine x_cVi hm rfl rfl (t7 (by decide +kernel)) (fun v10 M10 r10 => ?_)
            refine x_iret hm rfl rfl (by first | rfl | exact bI_nar | decide) ?_
            first
              | exact ⟨_, _, rfl, rfl, r10.2.ck hW⟩
              | exact ⟨_, _, rfl, rfl, Ck.rf hW⟩
              | exact ⟨_, _, rfl, rfl, (forge_tw hf g0 g4 g5).ck hW⟩
              | exact ⟨_, _, rfl, rfl, r3.2.ck hW⟩
              | exact ⟨_, _, rfl, rfl, r7.2.ck hW⟩
              | exact ⟨_, _, rfl, rfl, r8.2.ck hW⟩
              | exact ⟨_, _, rfl, rfl, r1.2.ck hW⟩
              | exact ⟨_, _, rfl, rfl, r2.2.ck hW⟩
              | exact ⟨_, _, rfl, rfl, r4.2.ck hW⟩
              | exact ⟨_, _, rfl, rfl, r5.2.ck hW⟩
              | exact ⟨_, _, rfl, rfl, r6.2.ck hW⟩
              | exact ⟨_, _, rfl, rfl, r9.2.ck hW⟩
              | exact ⟨_, _, rfl, rfl, r11.2.ck hW⟩
              | exact ⟨_, _, rfl, rfl, r12.2.ck hW⟩
              | exact ⟨_, _, rfl, rfl, r13.2.ck hW⟩
              | exact ⟨_, _, rfl, rfl, r14.2.ck hW⟩
              | exact ⟨_, _, rfl, rfl, r15.2.ck hW⟩
              | exact ⟨_, _, rfl, rfl, r16.2.ck hW⟩
              | exact ⟨_, _, rfl, rfl, r17.2.ck hW⟩
              | exact ⟨_, _, rfl, rfl, r18.2.ck hW⟩
              | exact ⟨_, _, rfl, rfl, r19.2.ck hW⟩
    · refine x_aload_n hm rfl rfl ?_
      refine x_ldcI hm rfl (v := (-1000001 : Int32)) (by decide +kernel) ?_
      refine x_cVi hm rfl rfl (t7 (by decide +kernel)) (fun v11 M11 r11 => ?_)
      refine x_iret hm rfl rfl (by first | rfl | exact bI_nar | decide) ?_
      first
        | exact ⟨_, _, rfl, rfl, r11.2.ck hW⟩
        | exact ⟨_, _, rfl, rfl, Ck.rf hW⟩
        | exact ⟨_, _, rfl, rfl, (forge_tw hf g0 g4 g5).ck hW⟩
        | exact ⟨_, _, rfl, rfl, r3.2.ck hW⟩
        | exact ⟨_, _, rfl, rfl, r1.2.ck hW⟩
        | exact ⟨_, _, rfl, rfl, r2.2.ck hW⟩
        | exact ⟨_, _, rfl, rfl, r4.2.ck hW⟩
        | exact ⟨_, _, rfl, rfl, r5.2.ck hW⟩
        | exact ⟨_, _, rfl, rfl, r6.2.ck hW⟩
        | exact ⟨_, _, rfl, rfl, r7.2.ck hW⟩
        | exact ⟨_, _, rfl, rfl, r8.2.ck hW⟩
        | exact ⟨_, _, rfl, rfl, r9.2.ck hW⟩
        | exact ⟨_, _, rfl, rfl, r10.2.ck hW⟩
        | exact ⟨_, _, rfl, rfl, r12.2.ck hW⟩
        | exact ⟨_, _, rfl, rfl, r13.2.ck hW⟩
        | exact ⟨_, _, rfl, rfl, r14.2.ck hW⟩
        | exact ⟨_, _, rfl, rfl, r15.2.ck hW⟩
        | exact ⟨_, _, rfl, rfl, r16.2.ck hW⟩
        | exact ⟨_, _, rfl, rfl, r17.2.ck hW⟩
        | exact ⟨_, _, rfl, rfl, r18.2.ck hW⟩
        | exact ⟨_, _, rfl, rfl, r19.2.ck hW⟩
end CD
