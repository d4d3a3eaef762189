section
/-! ===== the class: deals, paint ===== -/
section CF
variable {X : mSc} {Q : Option Value → mHp → Prop} {M : mM} {b : Nat}
theorem t69 {a1 a2 a3 : Int32} (hW : Wf M) : ∃ v, mT X 69 [.ref 0, .int a1, .int a2, .int a3] (con M) (some (.int v)) (con M) ∧ (v = nI 0 ∨ (v = nI 1 ∧ ∃ p q s, p < 8 ∧ q < 8 ∧ s < 256 ∧ a1 = nI p ∧ a2 = nI q ∧ a3 = nI s)) := by
  refine te_of (row := _) rfl (Nat.le_of_ble_eq_true rfl) ?_
  have hm : mMet 69 = some _ := rfl
  obtain ⟨np, hp8, hnp⟩ := hW.cpn (b := 1) (by decide)
  obtain ⟨nt, hn8, hnt⟩ := hW.ct (b := 1) (by decide)
  have hpw := pow_k hn8
  refine x_aload_n hm rfl rfl ?_
  refine x_getf hm rfl (gR rfl rfl) ?_
  refine x_iload_n hm rfl rfl ?_
  refine x_callV hm rfl rfl (t19 (by decide)) ?_
  refine x_if_eq hm rfl (t := 42) rfl (fun h1 => ?_) (fun h1 => ?_)
  · refine x_iconst hm rfl (v := nI 0) (by decide) ?_
    refine x_iret hm rfl rfl (by first | rfl | exact bI_nar | decide) ?_
    exact ⟨_, rfl, rfl, by first | exact Or.inl rfl | exact Or.inr ⟨rfl, p, q, s, by omega, by omega, by omega, rfl, rfl, rfl⟩⟩
  · obtain ⟨p, hp, rfl⟩ := in_k hnp (by omega) (bI_ne0 h1)
    refine x_aload_n hm rfl rfl ?_
    refine x_getf hm rfl (gR rfl rfl) ?_
    refine x_iload_n hm rfl rfl ?_
    refine x_callV hm rfl rfl (t19 (by decide)) ?_
    refine x_if_eq hm rfl (t := 42) rfl (fun h2 => ?_) (fun h2 => ?_)
    · refine x_iconst hm rfl (v := nI 0) (by decide) ?_
      refine x_iret hm rfl rfl (by first | rfl | exact bI_nar | decide) ?_
      exact ⟨_, rfl, rfl, by first | exact Or.inl rfl | exact Or.inr ⟨rfl, p, q, s, by omega, by omega, by omega, rfl, rfl, rfl⟩⟩
    · obtain ⟨q, hq, rfl⟩ := in_k hnp (by omega) (bI_ne0 h2)
      refine x_iload_n hm rfl rfl ?_
      refine x_iload_n hm rfl rfl ?_
      refine x_icmp_eq hm rfl (t := 42) rfl (fun h3 => ?_) (fun h3 => ?_)
      · refine x_iconst hm rfl (v := nI 0) (by decide) ?_
        refine x_iret hm rfl rfl (by first | rfl | exact bI_nar | decide) ?_
        exact ⟨_, rfl, rfl, by first | exact Or.inl rfl | exact Or.inr ⟨rfl, p, q, s, by omega, by omega, by omega, rfl, rfl, rfl⟩⟩
      · refine x_aload_n hm rfl rfl ?_
        refine x_getf hm rfl (gR rfl rfl) ?_
        refine x_iload_n hm rfl rfl ?_
        refine x_callV hm rfl rfl (t66 (by decide) hnt hn8) ?_
        refine x_if_eq hm rfl (t := 42) rfl (fun h4 => ?_) (fun h4 => ?_)
        · refine x_iconst hm rfl (v := nI 0) (by decide) ?_
          refine x_iret hm rfl rfl (by first | rfl | exact bI_nar | decide) ?_
          exact ⟨_, rfl, rfl, by first | exact Or.inl rfl | exact Or.inr ⟨rfl, p, q, s, by omega, by omega, by omega, rfl, rfl, rfl⟩⟩
        · obtain ⟨s, hs, rfl⟩ := in_k rfl (by omega) (bI_ne0 h4)
          refine x_iconst hm rfl (v := nI 1) (by decide) ?_
          refine x_goto hm rfl (t := 43) rfl ?_
          refine x_iret hm rfl rfl (by first | rfl | exact bI_nar | decide) ?_
          exact ⟨_, rfl, rfl, by first | exact Or.inl rfl | exact Or.inr ⟨rfl, p, q, s, by omega, by omega, by omega, rfl, rfl, rfl⟩⟩
theorem t70 {a1 a2 : Int32} : ∃ v, mT X 70 [.int a1, .int a2] (con M) (some (.int v)) (con M) ∧ (v = nI 0 ∨ v = nI 1) := by
  refine te_of (row := _) rfl (Nat.le_of_ble_eq_true rfl) ?_
  have hm : mMet 70 = some _ := rfl
  refine x_iload_n hm rfl rfl ?_
  refine x_iload_n hm rfl rfl ?_
  refine x_iconst hm rfl (v := (-1 : Int32)) (by decide) ?_
  refine x_ixor hm rfl ?_
  refine x_iand hm rfl ?_
  refine x_if_ne hm rfl (t := 12) rfl (fun h1 => ?_) (fun h1 => ?_)
  · refine x_iconst hm rfl (v := nI 0) (by decide) ?_
    refine x_iret hm rfl rfl (by first | rfl | exact bI_nar | decide) ?_
    exact ⟨_, rfl, rfl, by first | exact Or.inl rfl | exact Or.inr rfl⟩
  · refine x_iconst hm rfl (v := nI 1) (by decide) ?_
    refine x_goto hm rfl (t := 13) rfl ?_
    refine x_iret hm rfl rfl (by first | rfl | exact bI_nar | decide) ?_
    exact ⟨_, rfl, rfl, by first | exact Or.inl rfl | exact Or.inr rfl⟩
theorem t71 {p q : Nat} {a3 a4 : Int32} (hW : Wf M) (hp : p < 8) (hq : q < 8) : ∃ v, mT X 71 [.ref 0, .int (nI p), .int (nI q), .int a3, .int a4] (con M) (some (.int v)) (con M) ∧ (v = nI 0 ∨ v = nI 1) := by
  refine te_of (row := _) rfl (Nat.le_of_ble_eq_true rfl) ?_
  have hm : mMet 71 = some _ := rfl
  refine x_aload_n hm rfl rfl ?_
  refine x_getf hm rfl (gR rfl rfl) ?_
  refine x_iload_n hm rfl rfl ?_
  refine x_iload_n hm rfl rfl ?_
  refine x_cVe hm rfl rfl (t67 (by decide) (by omega) hW) (fun v1 r1 => ?_)
  refine x_aload_n hm rfl rfl ?_
  refine x_getf hm rfl (gR rfl rfl) ?_
  refine x_iload_n hm rfl rfl ?_
  refine x_iload hm rfl rfl ?_
  refine x_cVe hm rfl rfl (t67 (by decide) (by omega) hW) (fun v2 r2 => ?_)
  refine x_icmp_lt hm rfl (t := 48) rfl (fun h3 => ?_) (fun h3 => ?_)
  · refine x_iconst hm rfl (v := nI 0) (by decide) ?_
    refine x_iret hm rfl rfl (by first | rfl | exact bI_nar | decide) ?_
    exact ⟨_, rfl, rfl, by first | exact Or.inl rfl | exact Or.inr rfl⟩
  · refine x_aload_n hm rfl rfl ?_
    refine x_getf hm rfl (gR rfl rfl) ?_
    refine x_iload_n hm rfl rfl ?_
    refine x_iload hm rfl rfl ?_
    refine x_cVe hm rfl rfl (t67 (by decide) (by omega) hW) (fun v4 r4 => ?_)
    refine x_aload_n hm rfl rfl ?_
    refine x_getf hm rfl (gR rfl rfl) ?_
    refine x_iload_n hm rfl rfl ?_
    refine x_iload_n hm rfl rfl ?_
    refine x_cVe hm rfl rfl (t67 (by decide) (by omega) hW) (fun v5 r5 => ?_)
    refine x_icmp_lt hm rfl (t := 48) rfl (fun h6 => ?_) (fun h6 => ?_)
    · refine x_iconst hm rfl (v := nI 0) (by decide) ?_
      refine x_iret hm rfl rfl (by first | rfl | exact bI_nar | decide) ?_
      exact ⟨_, rfl, rfl, by first | exact Or.inl rfl | exact Or.inr rfl⟩
    · refine x_iconst hm rfl (v := nI 1) (by decide) ?_
      refine x_goto hm rfl (t := 49) rfl ?_
      refine x_iret hm rfl rfl (by first | rfl | exact bI_nar | decide) ?_
      exact ⟨_, rfl, rfl, by first | exact Or.inl rfl | exact Or.inr rfl⟩
theorem l68 {p q s : Nat} (hW : Wf M) (hp : p < 8) (hq : q < 8) (hs : s < 256) : ∀ (n k : Nat), s + 1 - k < n → k ≤ s + 1 → mEv X (QI (fun _ M' => Cq M M')) 68 20 [some (.ref 0), some (.int (nI p)), some (.int (nI q)), some (.int (nI s)), some (.int (nI k))] [] (con M) := by
  have hm : mMet 68 = some _ := rfl
  intro n
  induction n with
  | zero =>
    intro k hkn hkb
    omega
  | succ n ih =>
    intro k hkn hkb
    refine x_iload hm rfl rfl ?_
    refine x_iload_n hm rfl rfl ?_
    refine x_icmp_gt hm rfl (t := 59) rfl (fun h1 => ?_) (fun h1 => ?_)
    · refine x_aload_n hm rfl rfl ?_
      refine x_ldcI hm rfl (v := (-1000004 : Int32)) (by decide +kernel) ?_
      refine x_cVi hm rfl rfl (t7 (by decide +kernel)) (fun v2 M2 r2 => ?_)
      refine x_iret hm rfl rfl (by first | rfl | exact bI_nar | decide) ?_
      first
        | exact ⟨_, _, rfl, rfl, r2.2.cq hW⟩
        | exact ⟨_, _, rfl, rfl, r2.cq hW⟩
        | exact ⟨_, _, rfl, rfl, Cq.rf hW⟩
        | exact ⟨_, _, rfl, rfl, r1.2.cq hW⟩
        | exact ⟨_, _, rfl, rfl, r3.2.cq hW⟩
        | exact ⟨_, _, rfl, rfl, r4.2.cq hW⟩
        | exact ⟨_, _, rfl, rfl, r5.2.cq hW⟩
        | exact ⟨_, _, rfl, rfl, r6.2.cq hW⟩
        | exact ⟨_, _, rfl, rfl, r7.2.cq hW⟩
        | exact ⟨_, _, rfl, rfl, r8.2.cq hW⟩
        | exact ⟨_, _, rfl, rfl, r9.2.cq hW⟩
        | exact ⟨_, _, rfl, rfl, r10.2.cq hW⟩
        | exact ⟨_, _, rfl, rfl, r11.2.cq hW⟩
        | exact ⟨_, _, rfl, rfl, r12.2.cq hW⟩
        | exact ⟨_, _, rfl, rfl, r13.2.cq hW⟩
        | exact ⟨_, _, rfl, rfl, r14.2.cq hW⟩
        | exact ⟨_, _, rfl, rfl, r15.2.cq hW⟩
        | exact ⟨_, _, rfl, rfl, r16.2.cq hW⟩
        | exact ⟨_, _, rfl, rfl, r17.2.cq hW⟩
        | exact ⟨_, _, rfl, rfl, r18.2.cq hW⟩
        | exact ⟨_, _, rfl, rfl, r19.2.cq hW⟩
        | exact ⟨_, _, rfl, rfl, r1.cq hW⟩
        | exact ⟨_, _, rfl, rfl, r3.cq hW⟩
        | exact ⟨_, _, rfl, rfl, r4.cq hW⟩
        | exact ⟨_, _, rfl, rfl, r5.cq hW⟩
        | exact ⟨_, _, rfl, rfl, r6.cq hW⟩
        | exact ⟨_, _, rfl, rfl, r7.cq hW⟩
        | exact ⟨_, _, rfl, rfl, r8.cq hW⟩
        | exact ⟨_, _, rfl, rfl, r9.cq hW⟩
        | exact ⟨_, _, rfl, rfl, r10.cq hW⟩
        | exact ⟨_, _, rfl, rfl, r11.cq hW⟩
    · have hk : k ≤ s := Nat.le_of_not_lt fun h => h1 (nI_lt h (by omega))
      refine x_iload hm rfl rfl ?_
      refine x_iload_n hm rfl rfl ?_
      refine x_cSe hm rfl rfl (t70) (fun v3 r3 => ?_)
      refine x_if_eq hm rfl (t := 53) rfl (fun h4 => ?_) (fun h4 => ?_)
      · refine x_iinc hm rfl rfl (v := nI 1) (by decide) rfl ?_
        rw [jI_add]
        refine x_goto hm rfl (t := 20) rfl ?_
        exact ih _ (by omega) (by omega)
      · refine x_aload_n hm rfl rfl ?_
        refine x_iload_n hm rfl rfl ?_
        refine x_iload_n hm rfl rfl ?_
        refine x_iload hm rfl rfl ?_
        refine x_iload_n hm rfl rfl ?_
        refine x_iload hm rfl rfl ?_
        refine x_isub hm rfl ?_
        refine x_cVe hm rfl rfl (t71 hW (by omega) (by omega)) (fun v5 r5 => ?_)
        refine x_if_eq hm rfl (t := 53) rfl (fun h6 => ?_) (fun h6 => ?_)
        · refine x_iinc hm rfl rfl (v := nI 1) (by decide) rfl ?_
          rw [jI_add]
          refine x_goto hm rfl (t := 20) rfl ?_
          exact ih _ (by omega) (by omega)
        · refine x_iload hm rfl rfl ?_
          refine x_iret hm rfl rfl (by first | rfl | exact bI_nar | decide) ?_
          first
            | exact ⟨_, _, rfl, rfl, r5.2.cq hW⟩
            | exact ⟨_, _, rfl, rfl, r5.cq hW⟩
            | exact ⟨_, _, rfl, rfl, Cq.rf hW⟩
            | exact ⟨_, _, rfl, rfl, r3.2.cq hW⟩
            | exact ⟨_, _, rfl, rfl, r3.cq hW⟩
            | exact ⟨_, _, rfl, rfl, r1.2.cq hW⟩
            | exact ⟨_, _, rfl, rfl, r2.2.cq hW⟩
            | exact ⟨_, _, rfl, rfl, r4.2.cq hW⟩
            | exact ⟨_, _, rfl, rfl, r6.2.cq hW⟩
            | exact ⟨_, _, rfl, rfl, r7.2.cq hW⟩
            | exact ⟨_, _, rfl, rfl, r8.2.cq hW⟩
            | exact ⟨_, _, rfl, rfl, r9.2.cq hW⟩
            | exact ⟨_, _, rfl, rfl, r10.2.cq hW⟩
            | exact ⟨_, _, rfl, rfl, r11.2.cq hW⟩
            | exact ⟨_, _, rfl, rfl, r12.2.cq hW⟩
            | exact ⟨_, _, rfl, rfl, r13.2.cq hW⟩
            | exact ⟨_, _, rfl, rfl, r14.2.cq hW⟩
            | exact ⟨_, _, rfl, rfl, r15.2.cq hW⟩
            | exact ⟨_, _, rfl, rfl, r16.2.cq hW⟩
            | exact ⟨_, _, rfl, rfl, r17.2.cq hW⟩
            | exact ⟨_, _, rfl, rfl, r18.2.cq hW⟩
            | exact ⟨_, _, rfl, rfl, r19.2.cq hW⟩
            | exact ⟨_, _, rfl, rfl, r1.cq hW⟩
            | exact ⟨_, _, rfl, rfl, r2.cq hW⟩
            | exact ⟨_, _, rfl, rfl, r4.cq hW⟩
            | exact ⟨_, _, rfl, rfl, r6.cq hW⟩
            | exact ⟨_, _, rfl, rfl, r7.cq hW⟩
            | exact ⟨_, _, rfl, rfl, r8.cq hW⟩
            | exact ⟨_, _, rfl, rfl, r9.cq hW⟩
            | exact ⟨_, _, rfl, rfl, r10.cq hW⟩
            | exact ⟨_, _, rfl, rfl, r11.cq hW⟩
theorem t68 {a1 a2 a3 : Int32} (hW : Wf M) : ∃ v M', mT X 68 [.ref 0, .int a1, .int a2, .int a3] (con M) (some (.int v)) (con M') ∧ Cq M M' := by
  refine ti_of (row := _) rfl (Nat.le_of_ble_eq_true rfl) ?_
  have hm : mMet 68 = some _ := rfl
  refine x_aload_n hm rfl rfl ?_
  refine x_iload_n hm rfl rfl ?_
  refine x_iload_n hm rfl rfl ?_
  refine x_iload_n hm rfl rfl ?_
  refine x_cVe hm rfl rfl (t69 hW) (fun v1 r1 => ?_)
  refine x_if_ne hm rfl (t := 17) rfl (fun h2 => ?_) (fun h2 => ?_)
  · obtain ⟨-, p, q, s, hp, hq, hs, rfl, rfl, rfl⟩ := r1.resolve_left (fun e => by subst e; exact h2 rfl)
    refine x_iconst hm rfl (v := nI 0) (by decide) ?_
    refine x_istore hm rfl rfl ?_
    exact l68 hW hp hq hs _ 0 (Nat.lt_succ_self _) (Nat.zero_le _)
  · refine x_aload_n hm rfl rfl ?_
    refine x_ldcI hm rfl (v := (-1000001 : Int32)) (by decide +kernel) ?_
    refine x_cVi hm rfl rfl (t7 (by decide +kernel)) (fun v3 M3 r3 => ?_)
    refine x_iret hm rfl rfl (by first | rfl | exact bI_nar | decide) ?_
    first
      | exact ⟨_, _, rfl, rfl, r3.2.cq hW⟩
      | exact ⟨_, _, rfl, rfl, r3.cq hW⟩
      | exact ⟨_, _, rfl, rfl, Cq.rf hW⟩
      | exact ⟨_, _, rfl, rfl, r1.2.cq hW⟩
      | exact ⟨_, _, rfl, rfl, r1.cq hW⟩
      | exact ⟨_, _, rfl, rfl, r2.2.cq hW⟩
      | exact ⟨_, _, rfl, rfl, r4.2.cq hW⟩
      | exact ⟨_, _, rfl, rfl, r5.2.cq hW⟩
      | exact ⟨_, _, rfl, rfl, r6.2.cq hW⟩
      | exact ⟨_, _, rfl, rfl, r7.2.cq hW⟩
      | exact ⟨_, _, rfl, rfl, r8.2.cq hW⟩
      | exact ⟨_, _, rfl, rfl, r9.2.cq hW⟩
      | exact ⟨_, _, rfl, rfl, r10.2.cq hW⟩
      | exact ⟨_, _, rfl, rfl, r11.2.cq hW⟩
      | exact ⟨_, _, rfl, rfl, r12.2.cq hW⟩
      | exact ⟨_, _, rfl, rfl, r13.2.cq hW⟩
      | exact ⟨_, _, rfl, rfl, r14.2.cq hW⟩
      | exact ⟨_, _, rfl, rfl, r15.2.cq hW⟩
      | exact ⟨_, _, rfl, rfl, r16.2.cq hW⟩
      | exact ⟨_, _, rfl, rfl, r17.2.cq hW⟩
      | exact ⟨_, _, rfl, rfl, r18.2.cq hW⟩
      | exact ⟨_, _, rfl, rfl, r19.2.cq hW⟩
      | exact ⟨_, _, rfl, rfl, r2.cq hW⟩
      | exact ⟨_, _, rfl, rfl, r4.cq hW⟩
      | exact ⟨_, _, rfl, rfl, r5.cq hW⟩
      | exact ⟨_, _, rfl, rfl, r6.cq hW⟩
      | exact ⟨_, _, rfl, rfl, r7.cq hW⟩
      | exact ⟨_, _, rfl, rfl, r8.cq hW⟩
      | exact ⟨_, _, rfl, rfl, r9.cq hW⟩
      | exact ⟨_, _, rfl, rfl, r10.cq hW⟩
      | exact ⟨_, _, rfl, rfl, r11.cq hW⟩
theorem l72 {p q s : Nat} (hW : Wf M) (hp : p < 8) (hq : q < 8) (hs : s < 256) : ∀ (n k : Nat) (g : Int32), s + 1 - k < n → k ≤ s + 1 → mEv X (QI (fun _ M' => Cq M M')) 72 23 [some (.ref 0), some (.int (nI p)), some (.int (nI q)), some (.int (nI s)), some (.int g), some (.int (nI k))] [] (con M) := by
  have hm : mMet 72 = some _ := rfl
  intro n
  induction n with
  | zero =>
    intro k g hkn hkb
    omega
  | succ n ih =>
    intro k g hkn hkb
    refine x_iload hm rfl rfl ?_
    refine x_iload_n hm rfl rfl ?_
    refine x_icmp_gt hm rfl (t := 62) rfl (fun h1 => ?_) (fun h1 => ?_)
    · refine x_iload hm rfl rfl ?_
      refine x_iret hm rfl rfl (by first | rfl | exact bI_nar | decide) ?_
      first
        | exact ⟨_, _, rfl, rfl, Cq.rf hW⟩
        | exact ⟨_, _, rfl, rfl, r1.2.cq hW⟩
        | exact ⟨_, _, rfl, rfl, r2.2.cq hW⟩
        | exact ⟨_, _, rfl, rfl, r3.2.cq hW⟩
        | exact ⟨_, _, rfl, rfl, r4.2.cq hW⟩
        | exact ⟨_, _, rfl, rfl, r5.2.cq hW⟩
        | exact ⟨_, _, rfl, rfl, r6.2.cq hW⟩
        | exact ⟨_, _, rfl, rfl, r7.2.cq hW⟩
        | exact ⟨_, _, rfl, rfl, r8.2.cq hW⟩
        | exact ⟨_, _, rfl, rfl, r9.2.cq hW⟩
        | exact ⟨_, _, rfl, rfl, r10.2.cq hW⟩
        | exact ⟨_, _, rfl, rfl, r11.2.cq hW⟩
        | exact ⟨_, _, rfl, rfl, r12.2.cq hW⟩
        | exact ⟨_, _, rfl, rfl, r13.2.cq hW⟩
        | exact ⟨_, _, rfl, rfl, r14.2.cq hW⟩
        | exact ⟨_, _, rfl, rfl, r15.2.cq hW⟩
        | exact ⟨_, _, rfl, rfl, r16.2.cq hW⟩
        | exact ⟨_, _, rfl, rfl, r17.2.cq hW⟩
        | exact ⟨_, _, rfl, rfl, r18.2.cq hW⟩
        | exact ⟨_, _, rfl, rfl, r19.2.cq hW⟩
        | exact ⟨_, _, rfl, rfl, r1.cq hW⟩
        | exact ⟨_, _, rfl, rfl, r2.cq hW⟩
        | exact ⟨_, _, rfl, rfl, r3.cq hW⟩
        | exact ⟨_, _, rfl, rfl, r4.cq hW⟩
        | exact ⟨_, _, rfl, rfl, r5.cq hW⟩
        | exact ⟨_, _, rfl, rfl, r6.cq hW⟩
        | exact ⟨_, _, rfl, rfl, r7.cq hW⟩
        | exact ⟨_, _, rfl, rfl, r8.cq hW⟩
        | exact ⟨_, _, rfl, rfl, r9.cq hW⟩
        | exact ⟨_, _, rfl, rfl, r10.cq hW⟩
        | exact ⟨_, _, rfl, rfl, r11.cq hW⟩
    · have hk : k ≤ s := Nat.le_of_not_lt fun h => h1 (nI_lt h (by omega))
      refine x_iload hm rfl rfl ?_
      refine x_iload_n hm rfl rfl ?_
      refine x_cSe hm rfl rfl (t70) (fun v2 r2 => ?_)
      refine x_if_eq hm rfl (t := 56) rfl (fun h3 => ?_) (fun h3 => ?_)
      · refine x_iinc hm rfl rfl (v := nI 1) (by decide) rfl ?_
        rw [jI_add]
        refine x_goto hm rfl (t := 23) rfl ?_
        exact ih _ _ (by omega) (by omega)
      · refine x_aload_n hm rfl rfl ?_
        refine x_iload_n hm rfl rfl ?_
        refine x_iload_n hm rfl rfl ?_
        refine x_iload hm rfl rfl ?_
        refine x_iload_n hm rfl rfl ?_
        refine x_iload hm rfl rfl ?_
        refine x_isub hm rfl ?_
        refine x_cVe hm rfl rfl (t71 hW (by omega) (by omega)) (fun v4 r4 => ?_)
        refine x_if_eq hm rfl (t := 56) rfl (fun h5 => ?_) (fun h5 => ?_)
        · refine x_iinc hm rfl rfl (v := nI 1) (by decide) rfl ?_
          rw [jI_add]
          refine x_goto hm rfl (t := 23) rfl ?_
          exact ih _ _ (by omega) (by omega)
        · refine x_iinc hm rfl rfl (v := nI 1) (by decide) rfl ?_
          refine x_iinc hm rfl rfl (v := nI 1) (by decide) rfl ?_
          rw [jI_add]
          refine x_goto hm rfl (t := 23) rfl ?_
          exact ih _ _ (by omega) (by omega)
theorem t72 {a1 a2 a3 : Int32} (hW : Wf M) : ∃ v M', mT X 72 [.ref 0, .int a1, .int a2, .int a3] (con M) (some (.int v)) (con M') ∧ Cq M M' := by
  refine ti_of (row := _) rfl (Nat.le_of_ble_eq_true rfl) ?_
  have hm : mMet 72 = some _ := rfl
  refine x_aload_n hm rfl rfl ?_
  refine x_iload_n hm rfl rfl ?_
  refine x_iload_n hm rfl rfl ?_
  refine x_iload_n hm rfl rfl ?_
  refine x_cVe hm rfl rfl (t69 hW) (fun v1 r1 => ?_)
  refine x_if_ne hm rfl (t := 17) rfl (fun h2 => ?_) (fun h2 => ?_)
  · obtain ⟨-, p, q, s, hp, hq, hs, rfl, rfl, rfl⟩ := r1.resolve_left (fun e => by subst e; exact h2 rfl)
    refine x_iconst hm rfl (v := nI 0) (by decide) ?_
    refine x_istore hm rfl rfl ?_
    refine x_iconst hm rfl (v := nI 0) (by decide) ?_
    refine x_istore hm rfl rfl ?_
    exact l72 hW hp hq hs _ 0 _ (Nat.lt_succ_self _) (Nat.zero_le _)
  · refine x_aload_n hm rfl rfl ?_
    refine x_ldcI hm rfl (v := (-1000001 : Int32)) (by decide +kernel) ?_
    refine x_cVi hm rfl rfl (t7 (by decide +kernel)) (fun v3 M3 r3 => ?_)
    refine x_iret hm rfl rfl (by first | rfl | exact bI_nar | decide) ?_
    first
      | exact ⟨_, _, rfl, rfl, r3.2.cq hW⟩
      | exact ⟨_, _, rfl, rfl, r3.cq hW⟩
      | exact ⟨_, _, rfl, rfl, Cq.rf hW⟩
      | exact ⟨_, _, rfl, rfl, r1.2.cq hW⟩
      | exact ⟨_, _, rfl, rfl, r1.cq hW⟩
      | exact ⟨_, _, rfl, rfl, r2.2.cq hW⟩
      | exact ⟨_, _, rfl, rfl, r4.2.cq hW⟩
      | exact ⟨_, _, rfl, rfl, r5.2.cq hW⟩
      | exact ⟨_, _, rfl, rfl, r6.2.cq hW⟩
      | exact ⟨_, _, rfl, rfl, r7.2.cq hW⟩
      | exact ⟨_, _, rfl, rfl, r8.2.cq hW⟩
      | exact ⟨_, _, rfl, rfl, r9.2.cq hW⟩
      | exact ⟨_, _, rfl, rfl, r10.2.cq hW⟩
      | exact ⟨_, _, rfl, rfl, r11.2.cq hW⟩
      | exact ⟨_, _, rfl, rfl, r12.2.cq hW⟩
      | exact ⟨_, _, rfl, rfl, r13.2.cq hW⟩
      | exact ⟨_, _, rfl, rfl, r14.2.cq hW⟩
      | exact ⟨_, _, rfl, rfl, r15.2.cq hW⟩
      | exact ⟨_, _, rfl, rfl, r16.2.cq hW⟩
      | exact ⟨_, _, rfl, rfl, r17.2.cq hW⟩
      | exact ⟨_, _, rfl, rfl, r18.2.cq hW⟩
      | exact ⟨_, _, rfl, rfl, r19.2.cq hW⟩
      | exact ⟨_, _, rfl, rfl, r2.cq hW⟩
      | exact ⟨_, _, rfl, rfl, r4.cq hW⟩
      | exact ⟨_, _, rfl, rfl, r5.cq hW⟩
      | exact ⟨_, _, rfl, rfl, r6.cq hW⟩
      | exact ⟨_, _, rfl, rfl, r7.cq hW⟩
      | exact ⟨_, _, rfl, rfl, r8.cq hW⟩
      | exact ⟨_, _, rfl, rfl, r9.cq hW⟩
      | exact ⟨_, _, rfl, rfl, r10.cq hW⟩
      | exact ⟨_, _, rfl, rfl, r11.cq hW⟩
theorem l73 {p q s : Nat} (hW : Wf M) (hp : p < 8) (hq : q < 8) (hs : s < 256) : ∀ (n k : Nat) (g f : Int32) (x7 : Option Value), s + 1 - k < n → k ≤ s + 1 → mEv X (QI (fun _ M' => Cq M M')) 73 26 [some (.ref 0), some (.int (nI p)), some (.int (nI q)), some (.int (nI s)), some (.int g), some (.int f), some (.int (nI k)), x7] [] (con M) := by
  have hm : mMet 73 = some _ := rfl
  intro n
  induction n with
  | zero =>
    intro k g f x7 hkn hkb
    omega
  | succ n ih =>
    intro k g f x7 hkn hkb
    refine x_iload hm rfl rfl ?_
    refine x_iload_n hm rfl rfl ?_
    refine x_icmp_gt hm rfl (t := 89) rfl (fun h1 => ?_) (fun h1 => ?_)
    · refine x_iload hm rfl rfl ?_
      refine x_iret hm rfl rfl (by first | rfl | exact bI_nar | decide) ?_
      first
        | exact ⟨_, _, rfl, rfl, Cq.rf hW⟩
        | exact ⟨_, _, rfl, rfl, r1.2.cq hW⟩
        | exact ⟨_, _, rfl, rfl, r2.2.cq hW⟩
        | exact ⟨_, _, rfl, rfl, r3.2.cq hW⟩
        | exact ⟨_, _, rfl, rfl, r4.2.cq hW⟩
        | exact ⟨_, _, rfl, rfl, r5.2.cq hW⟩
        | exact ⟨_, _, rfl, rfl, r6.2.cq hW⟩
        | exact ⟨_, _, rfl, rfl, r7.2.cq hW⟩
        | exact ⟨_, _, rfl, rfl, r8.2.cq hW⟩
        | exact ⟨_, _, rfl, rfl, r9.2.cq hW⟩
        | exact ⟨_, _, rfl, rfl, r10.2.cq hW⟩
        | exact ⟨_, _, rfl, rfl, r11.2.cq hW⟩
        | exact ⟨_, _, rfl, rfl, r12.2.cq hW⟩
        | exact ⟨_, _, rfl, rfl, r13.2.cq hW⟩
        | exact ⟨_, _, rfl, rfl, r14.2.cq hW⟩
        | exact ⟨_, _, rfl, rfl, r15.2.cq hW⟩
        | exact ⟨_, _, rfl, rfl, r16.2.cq hW⟩
        | exact ⟨_, _, rfl, rfl, r17.2.cq hW⟩
        | exact ⟨_, _, rfl, rfl, r18.2.cq hW⟩
        | exact ⟨_, _, rfl, rfl, r19.2.cq hW⟩
        | exact ⟨_, _, rfl, rfl, r1.cq hW⟩
        | exact ⟨_, _, rfl, rfl, r2.cq hW⟩
        | exact ⟨_, _, rfl, rfl, r3.cq hW⟩
        | exact ⟨_, _, rfl, rfl, r4.cq hW⟩
        | exact ⟨_, _, rfl, rfl, r5.cq hW⟩
        | exact ⟨_, _, rfl, rfl, r6.cq hW⟩
        | exact ⟨_, _, rfl, rfl, r7.cq hW⟩
        | exact ⟨_, _, rfl, rfl, r8.cq hW⟩
        | exact ⟨_, _, rfl, rfl, r9.cq hW⟩
        | exact ⟨_, _, rfl, rfl, r10.cq hW⟩
        | exact ⟨_, _, rfl, rfl, r11.cq hW⟩
    · have hk : k ≤ s := Nat.le_of_not_lt fun h => h1 (nI_lt h (by omega))
      refine x_iload hm rfl rfl ?_
      refine x_iload_n hm rfl rfl ?_
      refine x_cSe hm rfl rfl (t70) (fun v2 r2 => ?_)
      refine x_if_eq hm rfl (t := 83) rfl (fun h3 => ?_) (fun h3 => ?_)
      · refine x_iinc hm rfl rfl (v := nI 1) (by decide) rfl ?_
        rw [jI_add]
        refine x_goto hm rfl (t := 26) rfl ?_
        exact ih _ _ _ _ (by omega) (by omega)
      · refine x_aload_n hm rfl rfl ?_
        refine x_getf hm rfl (gR rfl rfl) ?_
        refine x_iload_n hm rfl rfl ?_
        refine x_iload hm rfl rfl ?_
        refine x_cVe hm rfl rfl (t67 (by decide) (by omega) hW) (fun v4 r4 => ?_)
        refine x_aload_n hm rfl rfl ?_
        refine x_getf hm rfl (gR rfl rfl) ?_
        refine x_iload_n hm rfl rfl ?_
        refine x_iload_n hm rfl rfl ?_
        refine x_iload hm rfl rfl ?_
        refine x_isub hm rfl ?_
        refine x_cVe hm rfl rfl (t67 (by decide) (by omega) hW) (fun v5 r5 => ?_)
        refine x_lib hm rfl rfl ?_
        dsimp only
        refine x_istore hm rfl rfl ?_
        refine x_iload hm rfl rfl ?_
        refine x_iload hm rfl rfl ?_
        refine x_icmp_le hm rfl (t := 83) rfl (fun h6 => ?_) (fun h6 => ?_)
        · refine x_iinc hm rfl rfl (v := nI 1) (by decide) rfl ?_
          rw [jI_add]
          refine x_goto hm rfl (t := 26) rfl ?_
          exact ih _ _ _ _ (by omega) (by omega)
        · refine x_iload hm rfl rfl ?_
          refine x_istore hm rfl rfl ?_
          refine x_iload hm rfl rfl ?_
          refine x_istore hm rfl rfl ?_
          refine x_iinc hm rfl rfl (v := nI 1) (by decide) rfl ?_
          rw [jI_add]
          refine x_goto hm rfl (t := 26) rfl ?_
          exact ih _ _ _ _ (by omega) (by omega)
theorem t73 {a1 a2 a3 : Int32} (hW : Wf M) : ∃ v M', mT X 73 [.ref 0, .int a1, .int a2, .int a3] (con M) (some (.int v)) (con M') ∧ Cq M M' := by
  refine ti_of (row := _) rfl (Nat.le_of_ble_eq_true rfl) ?_
  have hm : mMet 73 = some _ := rfl
  refine x_aload_n hm rfl rfl ?_
  refine x_iload_n hm rfl rfl ?_
  refine x_iload_n hm rfl rfl ?_
  refine x_iload_n hm rfl rfl ?_
  refine x_cVe hm rfl rfl (t69 hW) (fun v1 r1 => ?_)
  refine x_if_ne hm rfl (t := 17) rfl (fun h2 => ?_) (fun h2 => ?_)
  · obtain ⟨-, p, q, s, hp, hq, hs, rfl, rfl, rfl⟩ := r1.resolve_left (fun e => by subst e; exact h2 rfl)
    refine x_iconst hm rfl (v := nI 0) (by decide) ?_
    refine x_istore hm rfl rfl ?_
    refine x_iconst hm rfl (v := (-1 : Int32)) (by decide) ?_
    refine x_istore hm rfl rfl ?_
    refine x_iconst hm rfl (v := nI 0) (by decide) ?_
    refine x_istore hm rfl rfl ?_
    exact l73 hW hp hq hs _ 0 _ _ _ (Nat.lt_succ_self _) (Nat.zero_le _)
  · refine x_aload_n hm rfl rfl ?_
    refine x_ldcI hm rfl (v := (-1000001 : Int32)) (by decide +kernel) ?_
    refine x_cVi hm rfl rfl (t7 (by decide +kernel)) (fun v3 M3 r3 => ?_)
    refine x_iret hm rfl rfl (by first | rfl | exact bI_nar | decide) ?_
    first
      | exact ⟨_, _, rfl, rfl, r3.2.cq hW⟩
      | exact ⟨_, _, rfl, rfl, r3.cq hW⟩
      | exact ⟨_, _, rfl, rfl, Cq.rf hW⟩
      | exact ⟨_, _, rfl, rfl, r1.2.cq hW⟩
      | exact ⟨_, _, rfl, rfl, r1.cq hW⟩
      | exact ⟨_, _, rfl, rfl, r2.2.cq hW⟩
      | exact ⟨_, _, rfl, rfl, r4.2.cq hW⟩
      | exact ⟨_, _, rfl, rfl, r5.2.cq hW⟩
      | exact ⟨_, _, rfl, rfl, r6.2.cq hW⟩
      | exact ⟨_, _, rfl, rfl, r7.2.cq hW⟩
      | exact ⟨_, _, rfl, rfl, r8.2.cq hW⟩
      | exact ⟨_, _, rfl, rfl, r9.2.cq hW⟩
      | exact ⟨_, _, rfl, rfl, r10.2.cq hW⟩
      | exact ⟨_, _, rfl, rfl, r11.2.cq hW⟩
      | exact ⟨_, _, rfl, rfl, r12.2.cq hW⟩
      | exact ⟨_, _, rfl, rfl, r13.2.cq hW⟩
      | exact ⟨_, _, rfl, rfl, r14.2.cq hW⟩
      | exact ⟨_, _, rfl, rfl, r15.2.cq hW⟩
      | exact ⟨_, _, rfl, rfl, r16.2.cq hW⟩
      | exact ⟨_, _, rfl, rfl, r17.2.cq hW⟩
      | exact ⟨_, _, rfl, rfl, r18.2.cq hW⟩
      | exact ⟨_, _, rfl, rfl, r19.2.cq hW⟩
      | exact ⟨_, _, rfl, rfl, r2.cq hW⟩
      | exact ⟨_, _, rfl, rfl, r4.cq hW⟩
      | exact ⟨_, _, rfl, rfl, r5.cq hW⟩
      | exact ⟨_, _, rfl, rfl, r6.cq hW⟩
      | exact ⟨_, _, rfl, rfl, r7.cq hW⟩
      | exact ⟨_, _, rfl, rfl, r8.cq hW⟩
      | exact ⟨_, _, rfl, rfl, r9.cq hW⟩
      | exact ⟨_, _, rfl, rfl, r10.cq hW⟩
      | exact ⟨_, _, rfl, rfl, r11.cq hW⟩
theorem l74b {a nb : Nat} (hW : Wf M) (hnb : M 1 4 = nI nb) (h8 : nb ≤ 8) (ha : a < nb) (hout : ∀ (s : Int32) (x y : Option Value), mEv X (QI (fun _ M' => Cq M M')) 74 4 [some (.ref 0), some (.int s), some (.int (nI (a + 1))), x, y] [] (con M)) : ∀ (n k : Nat) (s g : Int32), nb - k < n → k ≤ nb → mEv X (QI (fun _ M' => Cq M M')) 74 35 [some (.ref 0), some (.int s), some (.int (nI a)), some (.int g), some (.int (nI k))] [] (con M) := by
  have hm : mMet 74 = some _ := rfl
  intro n
  induction n with
  | zero =>
    intro k s g hkn hkb
    omega
  | succ n ih =>
    intro k s g hkn hkb
    refine x_iload hm rfl rfl ?_
    refine x_aload_n hm rfl rfl ?_
    refine x_getf hm rfl (gR rfl rfl) ?_
    refine x_getf hm rfl (gI rfl rfl) ?_
    rw [hnb]
    refine x_icmp_ge hm rfl (t := 83) rfl (fun h1 => ?_) (fun h1 => ?_)
    · refine x_iinc hm rfl rfl (v := nI 1) (by decide) rfl ?_
      rw [jI_add]
      refine x_goto hm rfl (t := 4) rfl ?_
      exact hout _ _ _
    · have hk : k < nb := Nat.lt_of_not_le fun h => h1 (nI_le h (by omega))
      refine x_iload hm rfl rfl ?_
      refine x_iload_n hm rfl rfl ?_
      refine x_icmp_eq hm rfl (t := 77) rfl (fun h2 => ?_) (fun h2 => ?_)
      · refine x_iinc hm rfl rfl (v := nI 1) (by decide) rfl ?_
        rw [jI_add]
        refine x_goto hm rfl (t := 35) rfl ?_
        exact ih _ _ _ (by omega) (by omega)
      · refine x_aload_n hm rfl rfl ?_
        refine x_getf hm rfl (gR rfl rfl) ?_
        refine x_iload_n hm rfl rfl ?_
        refine x_aload_n hm rfl rfl ?_
        refine x_getf hm rfl (gR rfl rfl) ?_
        refine x_iload hm rfl rfl ?_
        refine x_cVe hm rfl rfl (t25 (by decide) hW) (fun v3 r3 => ?_)
        refine x_cVe hm rfl rfl (t67 (by decide) (by omega) hW) (fun v4 r4 => ?_)
        refine x_iload_n hm rfl rfl ?_
        refine x_icmp_le hm rfl (t := 77) rfl (fun h5 => ?_) (fun h5 => ?_)
        · refine x_iinc hm rfl rfl (v := nI 1) (by decide) rfl ?_
          rw [jI_add]
          refine x_goto hm rfl (t := 35) rfl ?_
          exact ih _ _ _ (by omega) (by omega)
        · refine x_iinc hm rfl rfl (v := nI 1) (by decide) rfl ?_
          refine x_iinc hm rfl rfl (v := nI 1) (by decide) rfl ?_
          rw [jI_add]
          refine x_goto hm rfl (t := 35) rfl ?_
          exact ih _ _ _ (by omega) (by omega)
theorem l74a {nb : Nat} (hW : Wf M) (hnb : M 1 4 = nI nb) (h8 : nb ≤ 8) : ∀ (n k : Nat) (s : Int32) (x y : Option Value), nb - k < n → k ≤ nb → mEv X (QI (fun _ M' => Cq M M')) 74 4 [some (.ref 0), some (.int s), some (.int (nI k)), x, y] [] (con M) := by
  have hm : mMet 74 = some _ := rfl
  intro n
  induction n with
  | zero =>
    intro k s x y hkn hkb
    omega
  | succ n ih =>
    intro k s x y hkn hkb
    refine x_iload_n hm rfl rfl ?_
    refine x_aload_n hm rfl rfl ?_
    refine x_getf hm rfl (gR rfl rfl) ?_
    refine x_getf hm rfl (gI rfl rfl) ?_
    rw [hnb]
    refine x_icmp_ge hm rfl (t := 89) rfl (fun h1 => ?_) (fun h1 => ?_)
    · refine x_iload_n hm rfl rfl ?_
      refine x_iret hm rfl rfl (by first | rfl | exact bI_nar | decide) ?_
      first
        | exact ⟨_, _, rfl, rfl, Cq.rf hW⟩
        | exact ⟨_, _, rfl, rfl, r1.2.cq hW⟩
        | exact ⟨_, _, rfl, rfl, r2.2.cq hW⟩
        | exact ⟨_, _, rfl, rfl, r3.2.cq hW⟩
        | exact ⟨_, _, rfl, rfl, r4.2.cq hW⟩
        | exact ⟨_, _, rfl, rfl, r5.2.cq hW⟩
        | exact ⟨_, _, rfl, rfl, r6.2.cq hW⟩
        | exact ⟨_, _, rfl, rfl, r7.2.cq hW⟩
        | exact ⟨_, _, rfl, rfl, r8.2.cq hW⟩
        | exact ⟨_, _, rfl, rfl, r9.2.cq hW⟩
        | exact ⟨_, _, rfl, rfl, r10.2.cq hW⟩
        | exact ⟨_, _, rfl, rfl, r11.2.cq hW⟩
        | exact ⟨_, _, rfl, rfl, r12.2.cq hW⟩
        | exact ⟨_, _, rfl, rfl, r13.2.cq hW⟩
        | exact ⟨_, _, rfl, rfl, r14.2.cq hW⟩
        | exact ⟨_, _, rfl, rfl, r15.2.cq hW⟩
        | exact ⟨_, _, rfl, rfl, r16.2.cq hW⟩
        | exact ⟨_, _, rfl, rfl, r17.2.cq hW⟩
        | exact ⟨_, _, rfl, rfl, r18.2.cq hW⟩
        | exact ⟨_, _, rfl, rfl, r19.2.cq hW⟩
        | exact ⟨_, _, rfl, rfl, r1.cq hW⟩
        | exact ⟨_, _, rfl, rfl, r2.cq hW⟩
        | exact ⟨_, _, rfl, rfl, r3.cq hW⟩
        | exact ⟨_, _, rfl, rfl, r4.cq hW⟩
        | exact ⟨_, _, rfl, rfl, r5.cq hW⟩
        | exact ⟨_, _, rfl, rfl, r6.cq hW⟩
        | exact ⟨_, _, rfl, rfl, r7.cq hW⟩
        | exact ⟨_, _, rfl, rfl, r8.cq hW⟩
        | exact ⟨_, _, rfl, rfl, r9.cq hW⟩
        | exact ⟨_, _, rfl, rfl, r10.cq hW⟩
        | exact ⟨_, _, rfl, rfl, r11.cq hW⟩
    · have hk : k < nb := Nat.lt_of_not_le fun h => h1 (nI_le h (by omega))
      refine x_aload_n hm rfl rfl ?_
      refine x_getf hm rfl (gR rfl rfl) ?_
      refine x_iload_n hm rfl rfl ?_
      refine x_aload_n hm rfl rfl ?_
      refine x_getf hm rfl (gR rfl rfl) ?_
      refine x_iload_n hm rfl rfl ?_
      refine x_cVe hm rfl rfl (t25 (by decide) hW) (fun v2 r2 => ?_)
      refine x_cVe hm rfl rfl (t67 (by decide) (by omega) hW) (fun v3 r3 => ?_)
      refine x_istore_n hm rfl rfl ?_
      refine x_iconst hm rfl (v := nI 0) (by decide) ?_
      refine x_istore hm rfl rfl ?_
      exact l74b hW hnb h8 hk (fun s x y => ih _ _ _ _ (by omega) (by omega)) _ 0 _ _ (Nat.lt_succ_self _) (Nat.zero_le _)
theorem t74  (hW : Wf M) : ∃ v M', mT X 74 [.ref 0] (con M) (some (.int v)) (con M') ∧ Cq M M' := by
  refine ti_of (row := _) rfl (Nat.le_of_ble_eq_true rfl) ?_
  have hm : mMet 74 = some _ := rfl
  obtain ⟨np, hp8, hnp⟩ := hW.cpn (b := 1) (by decide)
  refine x_iconst hm rfl (v := nI 0) (by decide) ?_
  refine x_istore_n hm rfl rfl ?_
  refine x_iconst hm rfl (v := nI 0) (by decide) ?_
  refine x_istore_n hm rfl rfl ?_
  exact l74a hW hnp hp8 _ 0 _ _ _ (Nat.lt_succ_self _) (Nat.zero_le _)
theorem Bq.wear {i c : Nat} (hi : i = 56 ∨ i = 57) {i0 : Nat} : Bq b M (acp M i0 i 0 0 c) := by
  refine ⟨fun hW x y => ?_, fun a ha => ?_, fun d hd _ => ?_⟩
  · show okx (kd x y) (if x = i then _ else M x y)
    by_cases hx : x = i
    · rw [hx]
      rcases hi with rfl | rfl
      · rw [kd56]; trivial
      · rw [kd57]; trivial
    · rw [if_neg hx]
      exact hW x y
  · funext y
    show (if a = i then _ else M a y) = _
    rw [if_neg (by omega)]
  · constructor
    · show (if d = i then _ else M d 3) = _
      rw [if_neg (by omega)]
    · show (if d = i then _ else M d 4) = _
      rw [if_neg (by omega)]
theorem wearSp {i : Nat} (hi : i = 56 ∨ i = 57) : mSp[i]? = some (0, 8, []) := by
  rcases hi with rfl | rfl <;> rfl
theorem l56 {s : Int32} {a i nb : Nat} (hW : Wf M) (ha : a ≤ 1000) (hi : i = 56 ∨ i = 57) {M0 : mM} (h0 : Bq 35 M0 M) (hnb : M 35 3 = nI nb) (h8 : nb ≤ 8) : ∀ (n k : Nat) (M1 : mM), nb - k < n → k ≤ nb → Tw 35 M M1 → mEv X (QV (fun M' => Bq 35 M0 M')) 56 7 [some (.ref 0), some (.int s), some (.int (nI a)), some (.ref i), some (.int (nI k))] [] (con M1) := by
  have hm : mMet 56 = some _ := rfl
  intro n
  induction n with
  | zero =>
    intro k M1 hkn hkb hT
    omega
  | succ n ih =>
    intro k M1 hkn hkb hT
    have hn1 : M1 35 3 = nI nb := (hT.2.2 35 (by decide)).1.trans hnb
    refine x_iload hm rfl rfl ?_
    refine x_aload_n hm rfl rfl ?_
    refine x_getf hm rfl (gR rfl rfl) ?_
    refine x_getf hm rfl (gI rfl rfl) ?_
    rw [hn1]
    refine x_icmp_ge hm rfl (t := 61) rfl (fun h1 => ?_) (fun h1 => ?_)
    · refine x_aload_n hm rfl rfl ?_
      refine x_getf hm rfl (gR rfl rfl) ?_
      refine x_iload_n hm rfl rfl ?_
      refine x_cVv hm rfl rfl (t30 (by decide) ha (hT.1 hW)) (fun M2 r2 => ?_)
      refine x_aload_n hm rfl rfl ?_
      refine x_getf hm rfl (gR rfl rfl) ?_
      refine x_getf hm rfl (gR rfl rfl) ?_
      refine x_iconst hm rfl (v := nI 2) (by decide) ?_
      refine x_aald hm rfl (lQ _ (by decide) rfl rfl (by omega) (by decide)) ?_
      refine x_iconst hm rfl (v := nI 0) (by decide) ?_
      refine x_aload_n hm rfl rfl ?_
      refine x_iconst hm rfl (v := nI 0) (by decide) ?_
      refine x_bipush hm rfl (v := nI 8) (by decide) ?_
      refine x_lib hm rfl (acp_call rfl (wearSp hi) (by decide) (by decide) ⟨by decide, by decide⟩ rfl) ?_
      dsimp only
      refine x_ret hm rfl rfl ?_
      first
        | exact ⟨_, rfl, rfl, ((h0.trans hT.bq).trans r2.bq).trans (Bq.wear hi)⟩
        | exact ⟨_, rfl, rfl, ((h0.trans hT.bq).trans r1.bq).trans (Bq.wear hi)⟩
        | exact ⟨_, rfl, rfl, ((h0.trans hT.bq).trans r3.bq).trans (Bq.wear hi)⟩
        | exact ⟨_, rfl, rfl, ((h0.trans hT.bq).trans r4.bq).trans (Bq.wear hi)⟩
        | exact ⟨_, rfl, rfl, ((h0.trans hT.bq).trans r5.bq).trans (Bq.wear hi)⟩
    · have hk : k < nb := Nat.lt_of_not_le fun h => h1 (nI_le h (by omega))
      refine x_aload_n hm rfl rfl ?_
      refine x_getf hm rfl (gR rfl rfl) ?_
      refine x_getf hm rfl (gR rfl rfl) ?_
      refine x_iconst hm rfl (v := nI 5) (by decide) ?_
      refine x_aald hm rfl (lQ _ (by decide) rfl rfl (by omega) (by decide)) ?_
      refine x_iload hm rfl rfl ?_
      refine x_iconst hm rfl (v := (-1 : Int32)) (by decide) ?_
      refine x_iast hm rfl (sI rfl (by omega) (by decide)) ?_
      have hT2 := hT.trans (Tw.row (M := M1) (b := 35) (j := 7) (x := k) (v := -1) (by decide) (by decide) (by decide) okM1)
      refine x_iload_n hm rfl rfl ?_
      refine x_iload hm rfl rfl ?_
      refine x_cSe hm rfl rfl (t21) (fun v3 r3 => ?_)
      refine x_if_eq hm rfl (t := 55) rfl (fun h4 => ?_) (fun h4 => ?_)
      · refine x_iinc hm rfl rfl (v := nI 1) (by decide) rfl ?_
        rw [jI_add]
        refine x_goto hm rfl (t := 7) rfl ?_
        first
          | exact ih _ _ (by omega) (by omega) hT2
          | exact ih _ _ (by omega) (by omega) (hT2.trans (Tw.row (b := 35) (j := 5) (by decide) (by decide) (by decide) trivial))
      · refine x_aload_n hm rfl rfl ?_
        refine x_getf hm rfl (gR rfl rfl) ?_
        refine x_getf hm rfl (gR rfl rfl) ?_
        refine x_iconst hm rfl (v := nI 3) (by decide) ?_
        refine x_aald hm rfl (lQ _ (by decide) rfl rfl (by omega) (by decide)) ?_
        refine x_iload hm rfl rfl ?_
        refine x_bipush hm rfl (v := nI 9) (by decide) ?_
        refine x_iast hm rfl (sI rfl (by omega) (by decide)) ?_
        refine x_iinc hm rfl rfl (v := nI 1) (by decide) rfl ?_
        rw [jI_add]
        refine x_goto hm rfl (t := 7) rfl ?_
        first
          | exact ih _ _ (by omega) (by omega) hT2
          | exact ih _ _ (by omega) (by omega) (hT2.trans (Tw.row (b := 35) (j := 5) (by decide) (by decide) (by decide) trivial))
theorem t56 {s : Int32} {a i : Nat} (hW : Wf M) (ha : a ≤ 1000) (hi : i = 56 ∨ i = 57) : ∃ M', mT X 56 [.ref 0, .int s, .int (nI a), .ref i] (con M) none (con M') ∧ Bq 35 M M' := by
  refine tv_of (row := _) rfl (Nat.le_of_ble_eq_true rfl) ?_
  have hm : mMet 56 = some _ := rfl
  refine x_aload_n hm rfl rfl ?_
  refine x_cVv hm rfl rfl (t42 hW) (fun M1 r1 => ?_)
  refine x_iconst hm rfl (v := nI 0) (by decide) ?_
  refine x_istore hm rfl rfl ?_
  obtain ⟨nb, h8, hnb⟩ := (r1.1 hW).ct (b := 35) (by decide)
  exact l56 (r1.1 hW) ha hi r1 hnb h8 _ 0 _ (Nat.lt_succ_self _) (Nat.zero_le _) Tw.rf
theorem l58 {s : Int32} {nb : Nat} (hW : Wf M) (hnb : M 35 3 = nI nb) (h8 : nb ≤ 8) : ∀ (n k : Nat) (M1 : mM), nb - k < n → k ≤ nb → Tw 35 M M1 → mEv X (QI (fun _ M' => Bq 35 M M')) 58 2 [some (.ref 0), some (.int s), some (.int (nI k))] [] (con M1) := by
  have hm : mMet 58 = some _ := rfl
  intro n
  induction n with
  | zero =>
    intro k M1 hkn hkb hT
    omega
  | succ n ih =>
    intro k M1 hkn hkb hT
    have hn1 : M1 35 3 = nI nb := (hT.2.2 35 (by decide)).1.trans hnb
    refine x_iload_n hm rfl rfl ?_
    refine x_aload_n hm rfl rfl ?_
    refine x_getf hm rfl (gR rfl rfl) ?_
    refine x_getf hm rfl (gI rfl rfl) ?_
    rw [hn1]
    refine x_icmp_ge hm rfl (t := 53) rfl (fun h1 => ?_) (fun h1 => ?_)
    · refine x_aload_n hm rfl rfl ?_
      refine x_getf hm rfl (gR rfl rfl) ?_
      refine x_cVv hm rfl rfl (t31 (by decide) (hT.1 hW)) (fun M2 r2 => ?_)
      refine x_aload_n hm rfl rfl ?_
      refine x_getf hm rfl (gR rfl rfl) ?_
      refine x_cVe hm rfl rfl (t38 (by decide) (r2.1 (hT.1 hW))) (fun v3 r3 => ?_)
      refine x_iret hm rfl rfl (by first | rfl | exact bI_nar | decide) ?_
      exact ⟨_, _, rfl, rfl, (hT.trans r2).bq⟩
    · have hk : k < nb := Nat.lt_of_not_le fun h => h1 (nI_le h (by omega))
      refine x_aload_n hm rfl rfl ?_
      refine x_getf hm rfl (gR rfl rfl) ?_
      refine x_getf hm rfl (gR rfl rfl) ?_
      refine x_iconst hm rfl (v := nI 2) (by decide) ?_
      refine x_aald hm rfl (lQ _ (by decide) rfl rfl (by omega) (by decide)) ?_
      refine x_iload_n hm rfl rfl ?_
      refine x_iload_n hm rfl rfl ?_
      refine x_iload_n hm rfl rfl ?_
      refine x_cSe hm rfl rfl (t21) (fun v4 r4 => ?_)
      refine x_if_eq hm rfl (t := 40) rfl (fun h5 => ?_) (fun h5 => ?_)
      · refine x_aload_n hm rfl rfl ?_
        refine x_getf hm rfl (gR rfl rfl) ?_
        refine x_iload_n hm rfl rfl ?_
        refine x_iald hm rfl (lI rfl (by omega) (by decide)) ?_
        refine x_iast hm rfl (sI rfl (by omega) (by decide)) ?_
        refine x_iinc hm rfl rfl (v := nI 1) (by decide) rfl ?_
        rw [jI_add]
        refine x_goto hm rfl (t := 2) rfl ?_
        exact ih _ _ (by omega) (by omega) (hT.trans (Tw.row (b := 35) (j := 4) (by decide) (by decide) (by decide) trivial))
      · refine x_aload_n hm rfl rfl ?_
        refine x_getf hm rfl (gR rfl rfl) ?_
        refine x_iload_n hm rfl rfl ?_
        refine x_iald hm rfl (lI rfl (by omega) (by decide)) ?_
        refine x_goto hm rfl (t := 46) rfl ?_
        refine x_iast hm rfl (sI rfl (by omega) (by decide)) ?_
        refine x_iinc hm rfl rfl (v := nI 1) (by decide) rfl ?_
        rw [jI_add]
        refine x_goto hm rfl (t := 2) rfl ?_
        exact ih _ _ (by omega) (by omega) (hT.trans (Tw.row (b := 35) (j := 4) (by decide) (by decide) (by decide) trivial))
theorem t58 {s : Int32} (hW : Wf M) : ∃ v M', mT X 58 [.ref 0, .int s] (con M) (some (.int v)) (con M') ∧ Bq 35 M M' := by
  refine ti_of (row := _) rfl (Nat.le_of_ble_eq_true rfl) ?_
  have hm : mMet 58 = some _ := rfl
  obtain ⟨nb, h8, hnb⟩ := hW.ct (b := 35) (by decide)
  refine x_iconst hm rfl (v := nI 0) (by decide) ?_
  refine x_istore_n hm rfl rfl ?_
  exact l58 hW hnb h8 _ 0 _ (Nat.lt_succ_self _) (Nat.zero_le _) Tw.rf
theorem l55 {c m : Int32} {a nt : Nat} (hW : Wf M) (hnt : M 1 3 = nI nt) (hn8 : nt ≤ 8) : ∀ (n k : Nat) (s g : Int32) (x7 : Option Value) (M1 : mM), 2 ^ nt - k < n → k ≤ 2 ^ nt → Bq 35 M M1 → mEv X (QI (fun _ M' => Bq 35 M M')) 55 78 [some (.ref 0), some (.int c), some (.int (nI a)), some (.int m), some (.int s), some (.int g), some (.int (nI k)), x7] [] (con M1) := by
  have hm : mMet 55 = some _ := rfl
  intro n
  induction n with
  | zero =>
    intro k s g x7 M1 hkn hkb hT
    omega
  | succ n ih =>
    intro k s g x7 M1 hkn hkb hT
    have hn1 : M1 1 3 = nI nt := (hT.2.2 1 (by decide) (by decide)).1.trans hnt
    have hpw := pow_k hn8
    have hp1 : 1 ≤ 2 ^ nt := Nat.pos_of_ne_zero (by simp)
    have hsub : nI (2 ^ nt) - nI 1 = nI (2 ^ nt - 1) := by
      have e : 2 ^ nt = (2 ^ nt - 1) + 1 := by omega
      rw [e, ← jI_add (2 ^ nt - 1) 1, Int32.add_sub_cancel]
      rfl
    refine x_iload hm rfl rfl ?_
    refine x_aload_n hm rfl rfl ?_
    refine x_getf hm rfl (gR rfl rfl) ?_
    refine x_callV hm rfl rfl (t57 (by decide) hn1 hn8) ?_
    rw [hsub]
    refine x_icmp_gt hm rfl (t := 128) rfl (fun h1 => ?_) (fun h1 => ?_)
    · refine x_iload hm rfl rfl ?_
      refine x_iret hm rfl rfl (by first | rfl | exact bI_nar | decide) ?_
      exact ⟨_, _, rfl, rfl, hT⟩
    · have hk : k ≤ 2 ^ nt - 1 := Nat.le_of_not_lt fun h => h1 (nI_lt h (by omega))
      refine x_iload hm rfl rfl ?_
      refine x_cSe hm rfl rfl (t36) (fun v2 r2 => ?_)
      refine x_iload_n hm rfl rfl ?_
      refine x_icmp_ne hm rfl (t := 122) rfl (fun h3 => ?_) (fun h3 => ?_)
      · refine x_iinc hm rfl rfl (v := nI 1) (by decide) rfl ?_
        rw [jI_add]
        refine x_goto hm rfl (t := 78) rfl ?_
        first
          | exact ih _ _ _ _ _ (by omega) (by omega) (hT.trans r2)
          | exact ih _ _ _ _ _ (by omega) (by omega) hT
          | exact ih _ _ _ _ _ (by omega) (by omega) (hT.trans r3)
          | exact ih _ _ _ _ _ (by omega) (by omega) (hT.trans r4)
          | exact ih _ _ _ _ _ (by omega) (by omega) (hT.trans r5)
          | exact ih _ _ _ _ _ (by omega) (by omega) (hT.trans r6)
          | exact ih _ _ _ _ _ (by omega) (by omega) (hT.trans r7)
      · refine x_aload_n hm rfl rfl ?_
        refine x_iload hm rfl rfl ?_
        refine x_cVi hm rfl rfl (t58 (hT.1 hW)) (fun v4 M4 r4 => ?_)
        refine x_istore hm rfl rfl ?_
        refine x_iload hm rfl rfl ?_
        refine x_iload hm rfl rfl ?_
        refine x_icmp_le hm rfl (t := 122) rfl (fun h5 => ?_) (fun h5 => ?_)
        · refine x_iinc hm rfl rfl (v := nI 1) (by decide) rfl ?_
          rw [jI_add]
          refine x_goto hm rfl (t := 78) rfl ?_
          first
            | exact ih _ _ _ _ _ (by omega) (by omega) (hT.trans r4)
            | exact ih _ _ _ _ _ (by omega) (by omega) hT
            | exact ih _ _ _ _ _ (by omega) (by omega) (hT.trans r2)
            | exact ih _ _ _ _ _ (by omega) (by omega) (hT.trans r3)
            | exact ih _ _ _ _ _ (by omega) (by omega) (hT.trans r5)
            | exact ih _ _ _ _ _ (by omega) (by omega) (hT.trans r6)
            | exact ih _ _ _ _ _ (by omega) (by omega) (hT.trans r7)
        · refine x_iload hm rfl rfl ?_
          refine x_istore hm rfl rfl ?_
          refine x_iload hm rfl rfl ?_
          refine x_istore hm rfl rfl ?_
          refine x_iinc hm rfl rfl (v := nI 1) (by decide) rfl ?_
          rw [jI_add]
          refine x_goto hm rfl (t := 78) rfl ?_
          first
            | exact ih _ _ _ _ _ (by omega) (by omega) (hT.trans r4)
            | exact ih _ _ _ _ _ (by omega) (by omega) hT
            | exact ih _ _ _ _ _ (by omega) (by omega) (hT.trans r2)
            | exact ih _ _ _ _ _ (by omega) (by omega) (hT.trans r3)
            | exact ih _ _ _ _ _ (by omega) (by omega) (hT.trans r5)
            | exact ih _ _ _ _ _ (by omega) (by omega) (hT.trans r6)
            | exact ih _ _ _ _ _ (by omega) (by omega) (hT.trans r7)
theorem t55 {a1 a2 : Int32} (hW : Wf M) : ∃ v M', mT X 55 [.ref 0, .int a1, .int a2] (con M) (some (.int v)) (con M') ∧ Cq M M' := by
  refine ti_of (row := _) rfl (Nat.le_of_ble_eq_true rfl) ?_
  have hm : mMet 55 = some _ := rfl
  obtain ⟨nt, hn8, hnt⟩ := hW.ct (b := 1) (by decide)
  refine x_iload_n hm rfl rfl ?_
  refine x_iconst hm rfl (v := nI 0) (by decide) ?_
  refine x_bipush hm rfl (v := nI 8) (by decide) ?_
  refine x_callS hm rfl rfl (t6) ?_
  refine x_if_eq hm rfl (t := 20) rfl (fun h1 => ?_) (fun h1 => ?_)
  · refine x_aload_n hm rfl rfl ?_
    refine x_ldcI hm rfl (v := (-1000001 : Int32)) (by decide +kernel) ?_
    refine x_cVi hm rfl rfl (t7 (by decide +kernel)) (fun v2 M2 r2 => ?_)
    refine x_iret hm rfl rfl (by first | rfl | exact bI_nar | decide) ?_
    first
      | exact ⟨_, _, rfl, rfl, r2.2.cq hW⟩
      | exact ⟨_, _, rfl, rfl, r2.cq hW⟩
      | exact ⟨_, _, rfl, rfl, Cq.rf hW⟩
      | exact ⟨_, _, rfl, rfl, r1.2.cq hW⟩
      | exact ⟨_, _, rfl, rfl, r3.2.cq hW⟩
      | exact ⟨_, _, rfl, rfl, r4.2.cq hW⟩
      | exact ⟨_, _, rfl, rfl, r5.2.cq hW⟩
      | exact ⟨_, _, rfl, rfl, r6.2.cq hW⟩
      | exact ⟨_, _, rfl, rfl, r7.2.cq hW⟩
      | exact ⟨_, _, rfl, rfl, r8.2.cq hW⟩
      | exact ⟨_, _, rfl, rfl, r9.2.cq hW⟩
      | exact ⟨_, _, rfl, rfl, r10.2.cq hW⟩
      | exact ⟨_, _, rfl, rfl, r11.2.cq hW⟩
      | exact ⟨_, _, rfl, rfl, r12.2.cq hW⟩
      | exact ⟨_, _, rfl, rfl, r13.2.cq hW⟩
      | exact ⟨_, _, rfl, rfl, r14.2.cq hW⟩
      | exact ⟨_, _, rfl, rfl, r15.2.cq hW⟩
      | exact ⟨_, _, rfl, rfl, r16.2.cq hW⟩
      | exact ⟨_, _, rfl, rfl, r17.2.cq hW⟩
      | exact ⟨_, _, rfl, rfl, r18.2.cq hW⟩
      | exact ⟨_, _, rfl, rfl, r19.2.cq hW⟩
      | exact ⟨_, _, rfl, rfl, r1.cq hW⟩
      | exact ⟨_, _, rfl, rfl, r3.cq hW⟩
      | exact ⟨_, _, rfl, rfl, r4.cq hW⟩
      | exact ⟨_, _, rfl, rfl, r5.cq hW⟩
      | exact ⟨_, _, rfl, rfl, r6.cq hW⟩
      | exact ⟨_, _, rfl, rfl, r7.cq hW⟩
      | exact ⟨_, _, rfl, rfl, r8.cq hW⟩
      | exact ⟨_, _, rfl, rfl, r9.cq hW⟩
      | exact ⟨_, _, rfl, rfl, r10.cq hW⟩
      | exact ⟨_, _, rfl, rfl, r11.cq hW⟩
  · refine x_iload_n hm rfl rfl ?_
    refine x_iconst hm rfl (v := nI 0) (by decide) ?_
    refine x_bipush hm rfl (v := nI 60) (by decide) ?_
    refine x_callS hm rfl rfl (t6) ?_
    refine x_if_ne hm rfl (t := 27) rfl (fun h3 => ?_) (fun h3 => ?_)
    · obtain ⟨a, ha, rfl⟩ := le_k (by omega) (bI_ne0 h3)
      refine x_iload_n hm rfl rfl ?_
      refine x_aload_n hm rfl rfl ?_
      refine x_getf hm rfl (gR rfl rfl) ?_
      refine x_getf hm rfl (gI rfl rfl) ?_
      refine x_lib hm rfl rfl ?_
      dsimp only
      refine x_istore_n hm rfl rfl ?_
      refine x_aload_n hm rfl rfl ?_
      refine x_iconst hm rfl (v := nI 0) (by decide) ?_
      refine x_iload_n hm rfl rfl ?_
      refine x_aload_n hm rfl rfl ?_
      refine x_getf hm rfl (gR rfl rfl) ?_
      refine x_cVv hm rfl rfl (t56 hW (by omega) (by decide)) (fun M4 r4 => ?_)
      refine x_aload_n hm rfl rfl ?_
      refine x_aload_n hm rfl rfl ?_
      refine x_getf hm rfl (gR rfl rfl) ?_
      refine x_callV hm rfl rfl (t57 (by decide) ((r4.2.2 1 (by decide) (by decide)).1.trans hnt) hn8) ?_
      refine x_iload_n hm rfl rfl ?_
      refine x_aload_n hm rfl rfl ?_
      refine x_getf hm rfl (gR rfl rfl) ?_
      refine x_cVv hm rfl rfl (t56 (r4.1 hW) (by omega) (by decide)) (fun M5 r5 => ?_)
      refine x_aload_n hm rfl rfl ?_
      refine x_cVv hm rfl rfl (t42 (r5.1 (r4.1 hW))) (fun M6 r6 => ?_)
      refine x_iconst hm rfl (v := nI 0) (by decide) ?_
      refine x_istore hm rfl rfl ?_
      refine x_iconst hm rfl (v := (-1 : Int32)) (by decide) ?_
      refine x_istore hm rfl rfl ?_
      refine x_iconst hm rfl (v := nI 0) (by decide) ?_
      refine x_istore hm rfl rfl ?_
      first
        | exact ev_cq hW (l55 hW hnt hn8 _ 0 _ _ _ _ (Nat.lt_succ_self _) (Nat.zero_le _) ((r4.trans r5).trans r6))
    · refine x_aload_n hm rfl rfl ?_
      refine x_ldcI hm rfl (v := (-1000001 : Int32)) (by decide +kernel) ?_
      refine x_cVi hm rfl rfl (t7 (by decide +kernel)) (fun v7 M7 r7 => ?_)
      refine x_iret hm rfl rfl (by first | rfl | exact bI_nar | decide) ?_
      first
        | exact ⟨_, _, rfl, rfl, r7.2.cq hW⟩
        | exact ⟨_, _, rfl, rfl, r7.cq hW⟩
        | exact ⟨_, _, rfl, rfl, Cq.rf hW⟩
        | exact ⟨_, _, rfl, rfl, r1.2.cq hW⟩
        | exact ⟨_, _, rfl, rfl, r2.2.cq hW⟩
        | exact ⟨_, _, rfl, rfl, r3.2.cq hW⟩
        | exact ⟨_, _, rfl, rfl, r4.2.cq hW⟩
        | exact ⟨_, _, rfl, rfl, r5.2.cq hW⟩
        | exact ⟨_, _, rfl, rfl, r6.2.cq hW⟩
        | exact ⟨_, _, rfl, rfl, r8.2.cq hW⟩
        | exact ⟨_, _, rfl, rfl, r9.2.cq hW⟩
        | exact ⟨_, _, rfl, rfl, r10.2.cq hW⟩
        | exact ⟨_, _, rfl, rfl, r11.2.cq hW⟩
        | exact ⟨_, _, rfl, rfl, r12.2.cq hW⟩
        | exact ⟨_, _, rfl, rfl, r13.2.cq hW⟩
        | exact ⟨_, _, rfl, rfl, r14.2.cq hW⟩
        | exact ⟨_, _, rfl, rfl, r15.2.cq hW⟩
        | exact ⟨_, _, rfl, rfl, r16.2.cq hW⟩
        | exact ⟨_, _, rfl, rfl, r17.2.cq hW⟩
        | exact ⟨_, _, rfl, rfl, r18.2.cq hW⟩
        | exact ⟨_, _, rfl, rfl, r19.2.cq hW⟩
        | exact ⟨_, _, rfl, rfl, r1.cq hW⟩
        | exact ⟨_, _, rfl, rfl, r2.cq hW⟩
        | exact ⟨_, _, rfl, rfl, r3.cq hW⟩
        | exact ⟨_, _, rfl, rfl, r4.cq hW⟩
        | exact ⟨_, _, rfl, rfl, r5.cq hW⟩
        | exact ⟨_, _, rfl, rfl, r6.cq hW⟩
        | exact ⟨_, _, rfl, rfl, r8.cq hW⟩
        | exact ⟨_, _, rfl, rfl, r9.cq hW⟩
        | exact ⟨_, _, rfl, rfl, r10.cq hW⟩
        | exact ⟨_, _, rfl, rfl, r11.cq hW⟩
end CF
end
section
/-! ===== the class: strollers, odds, spots, images, counts ===== -/
section CG
variable {X : mSc} {Q : Option Value → mHp → Prop} {M : mM} {b : Nat}
theorem Tw.z {v : Int32} {x : Nat} (h1 : x ≠ 3) (h2 : x ≠ 4) : Tw 1 M (mput M 1 x v) := Tw.fld (b := 1) (by decide) h1 h2
theorem Ck.reader {v : Int32} {x : Nat} (hW : Wf M) (hv : okx (if x = 1 then 4 else 0) v) : Ck M (mput M 52 x v) := by
  refine ⟨hW.put ?_, fun a ha => mpo (by omega)⟩
  have e : kd 52 x = if x = 1 then 4 else 0 := by simp [kd]
  rw [e]
  exact hv
theorem Ck.flag {v : Int32} (hW : Wf M) {x : Nat} : Ck M (mput M 0 x v) := ⟨hW.put0 (by simp [kd]), fun a ha => mpo (by omega)⟩
theorem Cq.trans {M1 M2 : mM} (h : Cq M M1) (g : Cq M1 M2) : Cq M M2 := ⟨g.1, fun a ha => (g.2 a ha).trans (h.2 a ha)⟩
theorem Ck.trans {M1 M2 : mM} (h : Ck M M1) (g : Ck M1 M2) : Ck M M2 := ⟨g.1, fun a ha => (g.2 a ha).trans (h.2 a ha)⟩
theorem t86 {a1 : Int32} (hW : Wf M) : ∃ v M', mT X 86 [.ref 0, .int a1] (con M) (some (.int v)) (con M') ∧ Ck M M' := by
  refine ti_of (row := _) rfl (Nat.le_of_ble_eq_true rfl) ?_
  have hm : mMet 86 = some _ := rfl
  refine x_aload_n hm rfl rfl ?_
  refine x_getf hm rfl (gR rfl rfl) ?_
  refine x_getf hm rfl (gI rfl rfl) ?_
  refine x_istore_n hm rfl rfl ?_
  refine x_aload_n hm rfl rfl ?_
  refine x_getf hm rfl (gR rfl rfl) ?_
  refine x_iload_n hm rfl rfl ?_
  refine x_putf hm rfl (pI rfl rfl (by decide) (by first | exact mFit_int | rfl | decide) rfl) ?_
  refine x_iload_n hm rfl rfl ?_
  refine x_iret hm rfl rfl (by first | rfl | exact bI_nar | decide) ?_
  exact ⟨_, _, rfl, rfl, (Tw.z (by decide) (by decide)).ck hW⟩
theorem t89  (hW : Wf M) : ∃ v M', mT X 89 [.ref 0] (con M) (some (.int v)) (con M') ∧ Ck M M' := by
  refine ti_of (row := _) rfl (Nat.le_of_ble_eq_true rfl) ?_
  have hm : mMet 89 = some _ := rfl
  refine x_aload_n hm rfl rfl ?_
  refine x_getf hm rfl (gR rfl rfl) ?_
  refine x_getf hm rfl (gI rfl rfl) ?_
  refine x_istore_n hm rfl rfl ?_
  refine x_aload_n hm rfl rfl ?_
  refine x_getf hm rfl (gR rfl rfl) ?_
  refine x_iconst hm rfl (v := nI 0) (by decide) ?_
  refine x_putf hm rfl (pI rfl rfl (by decide) (by first | exact mFit_int | rfl | decide) rfl) ?_
  refine x_iload_n hm rfl rfl ?_
  refine x_iret hm rfl rfl (by first | rfl | exact bI_nar | decide) ?_
  exact ⟨_, _, rfl, rfl, Ck.reader hW (okI4 (k := 0) (by decide))⟩
theorem t114 {a1 a2 : Int32} (hW : Wf M) : ∃ v M', mT X 114 [.ref 0, .int a1, .int a2] (con M) (some (.int v)) (con M') ∧ Ck M M' := by
  refine ti_of (row := _) rfl (Nat.le_of_ble_eq_true rfl) ?_
  have hm : mMet 114 = some _ := rfl
  obtain ⟨np, hp8, hnp⟩ := hW.cpn (b := 1) (by decide)
  refine x_iload_n hm rfl rfl ?_
  refine x_iconst hm rfl (v := nI 0) (by decide) ?_
  refine x_bipush hm rfl (v := nI 9) (by decide) ?_
  refine x_callS hm rfl rfl (t6) ?_
  refine x_if_eq hm rfl (t := 26) rfl (fun h1 => ?_) (fun h1 => ?_)
  · refine x_aload_n hm rfl rfl ?_
    refine x_ldcI hm rfl (v := (-1000001 : Int32)) (by decide +kernel) ?_
    refine x_cVi hm rfl rfl (t7 (by decide +kernel)) (fun v2 M2 r2 => ?_)
    refine x_iret hm rfl rfl (by first | rfl | exact bI_nar | decide) ?_
    first
      | exact ⟨_, _, rfl, rfl, r2.2.ck hW⟩
      | exact ⟨_, _, rfl, rfl, Ck.rf hW⟩
      | exact ⟨_, _, rfl, rfl, (Tw.row (b := 1) (j := 16) (by decide) (by decide) (by decide) hq).ck hW⟩
      | exact ⟨_, _, rfl, rfl, r1.2.ck hW⟩
      | exact ⟨_, _, rfl, rfl, r3.2.ck hW⟩
      | exact ⟨_, _, rfl, rfl, r4.2.ck hW⟩
      | exact ⟨_, _, rfl, rfl, r5.2.ck hW⟩
      | exact ⟨_, _, rfl, rfl, r6.2.ck hW⟩
      | exact ⟨_, _, rfl, rfl, r7.2.ck hW⟩
      | exact ⟨_, _, rfl, rfl, r8.2.ck hW⟩
      | exact ⟨_, _, rfl, rfl, r9.2.ck hW⟩
      | exact ⟨_, _, rfl, rfl, r10.2.ck hW⟩
      | exact ⟨_, _, rfl, rfl, r11.2.ck hW⟩
      | exact ⟨_, _, rfl, rfl, r12.2.ck hW⟩
      | exact ⟨_, _, rfl, rfl, r13.2.ck hW⟩
      | exact ⟨_, _, rfl, rfl, r14.2.ck hW⟩
      | exact ⟨_, _, rfl, rfl, r15.2.ck hW⟩
      | exact ⟨_, _, rfl, rfl, r16.2.ck hW⟩
      | exact ⟨_, _, rfl, rfl, r17.2.ck hW⟩
      | exact ⟨_, _, rfl, rfl, r18.2.ck hW⟩
      | exact ⟨_, _, rfl, rfl, r19.2.ck hW⟩
  · obtain ⟨s, hs, rfl⟩ := le_k (by omega) (bI_ne0 h1)
    refine x_iload_n hm rfl rfl ?_
    refine x_iconst hm rfl (v := (-1 : Int32)) (by decide) ?_
    refine x_icmp_eq hm rfl (t := 33) rfl (fun h3 => ?_) (fun h3 => ?_)
    · have hq : okx 2 a2 := by rw [h3]; exact okM1
      refine x_aload_n hm rfl rfl ?_
      refine x_getf hm rfl (gR rfl rfl) ?_
      refine x_getf hm rfl (gR rfl rfl) ?_
      refine x_iload_n hm rfl rfl ?_
      refine x_iload_n hm rfl rfl ?_
      refine x_iast hm rfl (sI rfl (by omega) (by decide)) ?_
      refine x_iconst hm rfl (v := nI 1) (by decide) ?_
      refine x_iret hm rfl rfl (by first | rfl | exact bI_nar | decide) ?_
      first
        | exact ⟨_, _, rfl, rfl, Ck.rf hW⟩
        | exact ⟨_, _, rfl, rfl, (Tw.row (b := 1) (j := 16) (by decide) (by decide) (by decide) hq).ck hW⟩
        | exact ⟨_, _, rfl, rfl, r1.2.ck hW⟩
        | exact ⟨_, _, rfl, rfl, r2.2.ck hW⟩
        | exact ⟨_, _, rfl, rfl, r3.2.ck hW⟩
        | exact ⟨_, _, rfl, rfl, r4.2.ck hW⟩
        | exact ⟨_, _, rfl, rfl, r5.2.ck hW⟩
        | exact ⟨_, _, rfl, rfl, r6.2.ck hW⟩
        | exact ⟨_, _, rfl, rfl, r7.2.ck hW⟩
        | exact ⟨_, _, rfl, rfl, r8.2.ck hW⟩
        | exact ⟨_, _, rfl, rfl, r9.2.ck hW⟩
        | exact ⟨_, _, rfl, rfl, r10.2.ck hW⟩
        | exact ⟨_, _, rfl, rfl, r11.2.ck hW⟩
        | exact ⟨_, _, rfl, rfl, r12.2.ck hW⟩
        | exact ⟨_, _, rfl, rfl, r13.2.ck hW⟩
        | exact ⟨_, _, rfl, rfl, r14.2.ck hW⟩
        | exact ⟨_, _, rfl, rfl, r15.2.ck hW⟩
        | exact ⟨_, _, rfl, rfl, r16.2.ck hW⟩
        | exact ⟨_, _, rfl, rfl, r17.2.ck hW⟩
        | exact ⟨_, _, rfl, rfl, r18.2.ck hW⟩
        | exact ⟨_, _, rfl, rfl, r19.2.ck hW⟩
    · refine x_aload_n hm rfl rfl ?_
      refine x_getf hm rfl (gR rfl rfl) ?_
      refine x_iload_n hm rfl rfl ?_
      refine x_callV hm rfl rfl (t19 (by decide)) ?_
      refine x_if_ne hm rfl (t := 33) rfl (fun h4 => ?_) (fun h4 => ?_)
      · have hq : okx 2 a2 := by
          obtain ⟨k, hk, e⟩ := in_k hnp (by omega) (bI_ne0 h4)
          rw [e]; exact okI2 (by omega)
        refine x_aload_n hm rfl rfl ?_
        refine x_getf hm rfl (gR rfl rfl) ?_
        refine x_getf hm rfl (gR rfl rfl) ?_
        refine x_iload_n hm rfl rfl ?_
        refine x_iload_n hm rfl rfl ?_
        refine x_iast hm rfl (sI rfl (by omega) (by decide)) ?_
        refine x_iconst hm rfl (v := nI 1) (by decide) ?_
        refine x_iret hm rfl rfl (by first | rfl | exact bI_nar | decide) ?_
        first
          | exact ⟨_, _, rfl, rfl, Ck.rf hW⟩
          | exact ⟨_, _, rfl, rfl, (Tw.row (b := 1) (j := 16) (by decide) (by decide) (by decide) hq).ck hW⟩
          | exact ⟨_, _, rfl, rfl, r1.2.ck hW⟩
          | exact ⟨_, _, rfl, rfl, r2.2.ck hW⟩
          | exact ⟨_, _, rfl, rfl, r3.2.ck hW⟩
          | exact ⟨_, _, rfl, rfl, r4.2.ck hW⟩
          | exact ⟨_, _, rfl, rfl, r5.2.ck hW⟩
          | exact ⟨_, _, rfl, rfl, r6.2.ck hW⟩
          | exact ⟨_, _, rfl, rfl, r7.2.ck hW⟩
          | exact ⟨_, _, rfl, rfl, r8.2.ck hW⟩
          | exact ⟨_, _, rfl, rfl, r9.2.ck hW⟩
          | exact ⟨_, _, rfl, rfl, r10.2.ck hW⟩
          | exact ⟨_, _, rfl, rfl, r11.2.ck hW⟩
          | exact ⟨_, _, rfl, rfl, r12.2.ck hW⟩
          | exact ⟨_, _, rfl, rfl, r13.2.ck hW⟩
          | exact ⟨_, _, rfl, rfl, r14.2.ck hW⟩
          | exact ⟨_, _, rfl, rfl, r15.2.ck hW⟩
          | exact ⟨_, _, rfl, rfl, r16.2.ck hW⟩
          | exact ⟨_, _, rfl, rfl, r17.2.ck hW⟩
          | exact ⟨_, _, rfl, rfl, r18.2.ck hW⟩
          | exact ⟨_, _, rfl, rfl, r19.2.ck hW⟩
      · refine x_aload_n hm rfl rfl ?_
        refine x_ldcI hm rfl (v := (-1000001 : Int32)) (by decide +kernel) ?_
        refine x_cVi hm rfl rfl (t7 (by decide +kernel)) (fun v5 M5 r5 => ?_)
        refine x_iret hm rfl rfl (by first | rfl | exact bI_nar | decide) ?_
        first
          | exact ⟨_, _, rfl, rfl, r5.2.ck hW⟩
          | exact ⟨_, _, rfl, rfl, Ck.rf hW⟩
          | exact ⟨_, _, rfl, rfl, (Tw.row (b := 1) (j := 16) (by decide) (by decide) (by decide) hq).ck hW⟩
          | exact ⟨_, _, rfl, rfl, r1.2.ck hW⟩
          | exact ⟨_, _, rfl, rfl, r2.2.ck hW⟩
          | exact ⟨_, _, rfl, rfl, r3.2.ck hW⟩
          | exact ⟨_, _, rfl, rfl, r4.2.ck hW⟩
          | exact ⟨_, _, rfl, rfl, r6.2.ck hW⟩
          | exact ⟨_, _, rfl, rfl, r7.2.ck hW⟩
          | exact ⟨_, _, rfl, rfl, r8.2.ck hW⟩
          | exact ⟨_, _, rfl, rfl, r9.2.ck hW⟩
          | exact ⟨_, _, rfl, rfl, r10.2.ck hW⟩
          | exact ⟨_, _, rfl, rfl, r11.2.ck hW⟩
          | exact ⟨_, _, rfl, rfl, r12.2.ck hW⟩
          | exact ⟨_, _, rfl, rfl, r13.2.ck hW⟩
          | exact ⟨_, _, rfl, rfl, r14.2.ck hW⟩
          | exact ⟨_, _, rfl, rfl, r15.2.ck hW⟩
          | exact ⟨_, _, rfl, rfl, r16.2.ck hW⟩
          | exact ⟨_, _, rfl, rfl, r17.2.ck hW⟩
          | exact ⟨_, _, rfl, rfl, r18.2.ck hW⟩
          | exact ⟨_, _, rfl, rfl, r19.2.ck hW⟩
theorem t115 {a1 a2 : Int32} (hW : Wf M) : ∃ v M', mT X 115 [.ref 0, .int a1, .int a2] (con M) (some (.int v)) (con M') ∧ Cq M M' := by
  refine ti_of (row := _) rfl (Nat.le_of_ble_eq_true rfl) ?_
  have hm : mMet 115 = some _ := rfl
  refine x_iload_n hm rfl rfl ?_
  refine x_iconst hm rfl (v := nI 0) (by decide) ?_
  refine x_bipush hm rfl (v := nI 9) (by decide) ?_
  refine x_callS hm rfl rfl (t6) ?_
  refine x_if_eq hm rfl (t := 20) rfl (fun h1 => ?_) (fun h1 => ?_)
  · refine x_aload_n hm rfl rfl ?_
    refine x_ldcI hm rfl (v := (-1000001 : Int32)) (by decide +kernel) ?_
    refine x_cVi hm rfl rfl (t7 (by decide +kernel)) (fun v2 M2 r2 => ?_)
    refine x_iret hm rfl rfl (by first | rfl | exact bI_nar | decide) ?_
    first
      | exact ⟨_, _, rfl, rfl, r2.2.cq hW⟩
      | exact ⟨_, _, rfl, rfl, r2.cq hW⟩
      | exact ⟨_, _, rfl, rfl, Cq.rf hW⟩
      | exact ⟨_, _, rfl, rfl, r1.2.cq hW⟩
      | exact ⟨_, _, rfl, rfl, r3.2.cq hW⟩
      | exact ⟨_, _, rfl, rfl, r4.2.cq hW⟩
      | exact ⟨_, _, rfl, rfl, r5.2.cq hW⟩
      | exact ⟨_, _, rfl, rfl, r6.2.cq hW⟩
      | exact ⟨_, _, rfl, rfl, r7.2.cq hW⟩
      | exact ⟨_, _, rfl, rfl, r8.2.cq hW⟩
      | exact ⟨_, _, rfl, rfl, r9.2.cq hW⟩
      | exact ⟨_, _, rfl, rfl, r10.2.cq hW⟩
      | exact ⟨_, _, rfl, rfl, r11.2.cq hW⟩
      | exact ⟨_, _, rfl, rfl, r12.2.cq hW⟩
      | exact ⟨_, _, rfl, rfl, r13.2.cq hW⟩
      | exact ⟨_, _, rfl, rfl, r14.2.cq hW⟩
      | exact ⟨_, _, rfl, rfl, r15.2.cq hW⟩
      | exact ⟨_, _, rfl, rfl, r16.2.cq hW⟩
      | exact ⟨_, _, rfl, rfl, r17.2.cq hW⟩
      | exact ⟨_, _, rfl, rfl, r18.2.cq hW⟩
      | exact ⟨_, _, rfl, rfl, r19.2.cq hW⟩
      | exact ⟨_, _, rfl, rfl, r1.cq hW⟩
      | exact ⟨_, _, rfl, rfl, r3.cq hW⟩
      | exact ⟨_, _, rfl, rfl, r4.cq hW⟩
      | exact ⟨_, _, rfl, rfl, r5.cq hW⟩
      | exact ⟨_, _, rfl, rfl, r6.cq hW⟩
      | exact ⟨_, _, rfl, rfl, r7.cq hW⟩
      | exact ⟨_, _, rfl, rfl, r8.cq hW⟩
      | exact ⟨_, _, rfl, rfl, r9.cq hW⟩
      | exact ⟨_, _, rfl, rfl, r10.cq hW⟩
      | exact ⟨_, _, rfl, rfl, r11.cq hW⟩
  · obtain ⟨s, hs, rfl⟩ := le_k (by omega) (bI_ne0 h1)
    refine x_iload_n hm rfl rfl ?_
    refine x_iconst hm rfl (v := nI 0) (by decide) ?_
    refine x_bipush hm rfl (v := nI 6) (by decide) ?_
    refine x_callS hm rfl rfl (t6) ?_
    refine x_if_ne hm rfl (t := 27) rfl (fun h3 => ?_) (fun h3 => ?_)
    · refine x_aload_n hm rfl rfl ?_
      refine x_getf hm rfl (gR rfl rfl) ?_
      refine x_getf hm rfl (gR rfl rfl) ?_
      refine x_iload_n hm rfl rfl ?_
      refine x_iald hm rfl (lI rfl (by omega) (by decide)) ?_
      have hc2 : okx 2 (M 17 s) := by
        have := hW (1 + 16) s
        rw [kdT (b := 1) (j := 16) (by decide) (by decide) (by decide)] at this
        exact this
      generalize M 17 s = c at hc2 ⊢
      refine x_istore_n hm rfl rfl ?_
      refine x_iload_n hm rfl rfl ?_
      refine x_iconst hm rfl (v := (-1 : Int32)) (by decide) ?_
      refine x_icmp_ne hm rfl (t := 49) rfl (fun h4 => ?_) (fun h4 => ?_)
      · obtain ⟨k, hk, rfl⟩ := (ok2 hc2).resolve_left h4
        refine x_aload_n hm rfl rfl ?_
        refine x_getf hm rfl (gR rfl rfl) ?_
        refine x_getf hm rfl (gR rfl rfl) ?_
        refine x_iconst hm rfl (v := nI 0) (by decide) ?_
        refine x_aald hm rfl (lQ _ (by decide) rfl rfl (by omega) (by decide)) ?_
        refine x_iload_n hm rfl rfl ?_
        refine x_iald hm rfl (lI rfl (by omega) (by decide)) ?_
        refine x_iload_n hm rfl rfl ?_
        refine x_cSe hm rfl rfl (t14) (fun v5 r5 => ?_)
        refine x_if_eq hm rfl (t := 71) rfl (fun h6 => ?_) (fun h6 => ?_)
        · refine x_aload_n hm rfl rfl ?_
          refine x_ldcI hm rfl (v := (-1000003 : Int32)) (by decide +kernel) ?_
          refine x_cVi hm rfl rfl (t7 (by decide +kernel)) (fun v7 M7 r7 => ?_)
          refine x_iret hm rfl rfl (by first | rfl | exact bI_nar | decide) ?_
          first
            | exact ⟨_, _, rfl, rfl, r7.2.cq hW⟩
            | exact ⟨_, _, rfl, rfl, r7.cq hW⟩
            | exact ⟨_, _, rfl, rfl, Cq.rf hW⟩
            | exact ⟨_, _, rfl, rfl, r5.2.cq hW⟩
            | exact ⟨_, _, rfl, rfl, r5.cq hW⟩
            | exact ⟨_, _, rfl, rfl, r1.2.cq hW⟩
            | exact ⟨_, _, rfl, rfl, r2.2.cq hW⟩
            | exact ⟨_, _, rfl, rfl, r3.2.cq hW⟩
            | exact ⟨_, _, rfl, rfl, r4.2.cq hW⟩
            | exact ⟨_, _, rfl, rfl, r6.2.cq hW⟩
            | exact ⟨_, _, rfl, rfl, r8.2.cq hW⟩
            | exact ⟨_, _, rfl, rfl, r9.2.cq hW⟩
            | exact ⟨_, _, rfl, rfl, r10.2.cq hW⟩
            | exact ⟨_, _, rfl, rfl, r11.2.cq hW⟩
            | exact ⟨_, _, rfl, rfl, r12.2.cq hW⟩
            | exact ⟨_, _, rfl, rfl, r13.2.cq hW⟩
            | exact ⟨_, _, rfl, rfl, r14.2.cq hW⟩
            | exact ⟨_, _, rfl, rfl, r15.2.cq hW⟩
            | exact ⟨_, _, rfl, rfl, r16.2.cq hW⟩
            | exact ⟨_, _, rfl, rfl, r17.2.cq hW⟩
            | exact ⟨_, _, rfl, rfl, r18.2.cq hW⟩
            | exact ⟨_, _, rfl, rfl, r19.2.cq hW⟩
            | exact ⟨_, _, rfl, rfl, r1.cq hW⟩
            | exact ⟨_, _, rfl, rfl, r2.cq hW⟩
            | exact ⟨_, _, rfl, rfl, r3.cq hW⟩
            | exact ⟨_, _, rfl, rfl, r4.cq hW⟩
            | exact ⟨_, _, rfl, rfl, r6.cq hW⟩
            | exact ⟨_, _, rfl, rfl, r8.cq hW⟩
            | exact ⟨_, _, rfl, rfl, r9.cq hW⟩
            | exact ⟨_, _, rfl, rfl, r10.cq hW⟩
            | exact ⟨_, _, rfl, rfl, r11.cq hW⟩
        · refine x_iload_n hm rfl rfl ?_
          refine x_goto hm rfl (t := 77) rfl ?_
          refine x_iret hm rfl rfl (by first | rfl | exact bI_nar | decide) ?_
          first
            | exact ⟨_, _, rfl, rfl, r5.2.cq hW⟩
            | exact ⟨_, _, rfl, rfl, r5.cq hW⟩
            | exact ⟨_, _, rfl, rfl, Cq.rf hW⟩
            | exact ⟨_, _, rfl, rfl, r1.2.cq hW⟩
            | exact ⟨_, _, rfl, rfl, r2.2.cq hW⟩
            | exact ⟨_, _, rfl, rfl, r3.2.cq hW⟩
            | exact ⟨_, _, rfl, rfl, r4.2.cq hW⟩
            | exact ⟨_, _, rfl, rfl, r6.2.cq hW⟩
            | exact ⟨_, _, rfl, rfl, r7.2.cq hW⟩
            | exact ⟨_, _, rfl, rfl, r8.2.cq hW⟩
            | exact ⟨_, _, rfl, rfl, r9.2.cq hW⟩
            | exact ⟨_, _, rfl, rfl, r10.2.cq hW⟩
            | exact ⟨_, _, rfl, rfl, r11.2.cq hW⟩
            | exact ⟨_, _, rfl, rfl, r12.2.cq hW⟩
            | exact ⟨_, _, rfl, rfl, r13.2.cq hW⟩
            | exact ⟨_, _, rfl, rfl, r14.2.cq hW⟩
            | exact ⟨_, _, rfl, rfl, r15.2.cq hW⟩
            | exact ⟨_, _, rfl, rfl, r16.2.cq hW⟩
            | exact ⟨_, _, rfl, rfl, r17.2.cq hW⟩
            | exact ⟨_, _, rfl, rfl, r18.2.cq hW⟩
            | exact ⟨_, _, rfl, rfl, r19.2.cq hW⟩
            | exact ⟨_, _, rfl, rfl, r1.cq hW⟩
            | exact ⟨_, _, rfl, rfl, r2.cq hW⟩
            | exact ⟨_, _, rfl, rfl, r3.cq hW⟩
            | exact ⟨_, _, rfl, rfl, r4.cq hW⟩
            | exact ⟨_, _, rfl, rfl, r6.cq hW⟩
            | exact ⟨_, _, rfl, rfl, r7.cq hW⟩
            | exact ⟨_, _, rfl, rfl, r8.cq hW⟩
            | exact ⟨_, _, rfl, rfl, r9.cq hW⟩
            | exact ⟨_, _, rfl, rfl, r10.cq hW⟩
            | exact ⟨_, _, rfl, rfl, r11.cq hW⟩
      · refine x_aload_n hm rfl rfl ?_
        refine x_ldcI hm rfl (v := (-1000006 : Int32)) (by decide +kernel) ?_
        refine x_cVi hm rfl rfl (t7 (by decide +kernel)) (fun v8 M8 r8 => ?_)
        refine x_iret hm rfl rfl (by first | rfl | exact bI_nar | decide) ?_
        first
          | exact ⟨_, _, rfl, rfl, r8.2.cq hW⟩
          | exact ⟨_, _, rfl, rfl, r8.cq hW⟩
          | exact ⟨_, _, rfl, rfl, Cq.rf hW⟩
          | exact ⟨_, _, rfl, rfl, r1.2.cq hW⟩
          | exact ⟨_, _, rfl, rfl, r2.2.cq hW⟩
          | exact ⟨_, _, rfl, rfl, r3.2.cq hW⟩
          | exact ⟨_, _, rfl, rfl, r4.2.cq hW⟩
          | exact ⟨_, _, rfl, rfl, r5.2.cq hW⟩
          | exact ⟨_, _, rfl, rfl, r6.2.cq hW⟩
          | exact ⟨_, _, rfl, rfl, r7.2.cq hW⟩
          | exact ⟨_, _, rfl, rfl, r9.2.cq hW⟩
          | exact ⟨_, _, rfl, rfl, r10.2.cq hW⟩
          | exact ⟨_, _, rfl, rfl, r11.2.cq hW⟩
          | exact ⟨_, _, rfl, rfl, r12.2.cq hW⟩
          | exact ⟨_, _, rfl, rfl, r13.2.cq hW⟩
          | exact ⟨_, _, rfl, rfl, r14.2.cq hW⟩
          | exact ⟨_, _, rfl, rfl, r15.2.cq hW⟩
          | exact ⟨_, _, rfl, rfl, r16.2.cq hW⟩
          | exact ⟨_, _, rfl, rfl, r17.2.cq hW⟩
          | exact ⟨_, _, rfl, rfl, r18.2.cq hW⟩
          | exact ⟨_, _, rfl, rfl, r19.2.cq hW⟩
          | exact ⟨_, _, rfl, rfl, r1.cq hW⟩
          | exact ⟨_, _, rfl, rfl, r2.cq hW⟩
          | exact ⟨_, _, rfl, rfl, r3.cq hW⟩
          | exact ⟨_, _, rfl, rfl, r4.cq hW⟩
          | exact ⟨_, _, rfl, rfl, r5.cq hW⟩
          | exact ⟨_, _, rfl, rfl, r6.cq hW⟩
          | exact ⟨_, _, rfl, rfl, r7.cq hW⟩
          | exact ⟨_, _, rfl, rfl, r9.cq hW⟩
          | exact ⟨_, _, rfl, rfl, r10.cq hW⟩
          | exact ⟨_, _, rfl, rfl, r11.cq hW⟩
    · refine x_aload_n hm rfl rfl ?_
      refine x_ldcI hm rfl (v := (-1000001 : Int32)) (by decide +kernel) ?_
      refine x_cVi hm rfl rfl (t7 (by decide +kernel)) (fun v9 M9 r9 => ?_)
      refine x_iret hm rfl rfl (by first | rfl | exact bI_nar | decide) ?_
      first
        | exact ⟨_, _, rfl, rfl, r9.2.cq hW⟩
        | exact ⟨_, _, rfl, rfl, r9.cq hW⟩
        | exact ⟨_, _, rfl, rfl, Cq.rf hW⟩
        | exact ⟨_, _, rfl, rfl, r1.2.cq hW⟩
        | exact ⟨_, _, rfl, rfl, r2.2.cq hW⟩
        | exact ⟨_, _, rfl, rfl, r3.2.cq hW⟩
        | exact ⟨_, _, rfl, rfl, r4.2.cq hW⟩
        | exact ⟨_, _, rfl, rfl, r5.2.cq hW⟩
        | exact ⟨_, _, rfl, rfl, r6.2.cq hW⟩
        | exact ⟨_, _, rfl, rfl, r7.2.cq hW⟩
        | exact ⟨_, _, rfl, rfl, r8.2.cq hW⟩
        | exact ⟨_, _, rfl, rfl, r10.2.cq hW⟩
        | exact ⟨_, _, rfl, rfl, r11.2.cq hW⟩
        | exact ⟨_, _, rfl, rfl, r12.2.cq hW⟩
        | exact ⟨_, _, rfl, rfl, r13.2.cq hW⟩
        | exact ⟨_, _, rfl, rfl, r14.2.cq hW⟩
        | exact ⟨_, _, rfl, rfl, r15.2.cq hW⟩
        | exact ⟨_, _, rfl, rfl, r16.2.cq hW⟩
        | exact ⟨_, _, rfl, rfl, r17.2.cq hW⟩
        | exact ⟨_, _, rfl, rfl, r18.2.cq hW⟩
        | exact ⟨_, _, rfl, rfl, r19.2.cq hW⟩
        | exact ⟨_, _, rfl, rfl, r1.cq hW⟩
        | exact ⟨_, _, rfl, rfl, r2.cq hW⟩
        | exact ⟨_, _, rfl, rfl, r3.cq hW⟩
        | exact ⟨_, _, rfl, rfl, r4.cq hW⟩
        | exact ⟨_, _, rfl, rfl, r5.cq hW⟩
        | exact ⟨_, _, rfl, rfl, r6.cq hW⟩
        | exact ⟨_, _, rfl, rfl, r7.cq hW⟩
        | exact ⟨_, _, rfl, rfl, r8.cq hW⟩
        | exact ⟨_, _, rfl, rfl, r10.cq hW⟩
        | exact ⟨_, _, rfl, rfl, r11.cq hW⟩
theorem t125 (hW : Wf M) : ∃ v M', mT X 125 [.ref 0] (con M) (some (.int v)) (con M') ∧ v = nI 1 ∧ Ck M M' := by
  refine ti_of (row := _) rfl (Nat.le_of_ble_eq_true rfl) ?_
  have hm : mMet 125 = some _ := rfl
  refine x_aload_n hm rfl rfl ?_
  refine x_getf hm rfl (gR rfl rfl) ?_
  refine x_aload_n hm rfl rfl ?_
  refine x_getf hm rfl (gR rfl rfl) ?_
  refine x_cVv hm rfl rfl (t43 (b := 18) (o := 1) (by decide) (by decide) (by decide) hW) (fun M1 r1 => ?_)
  refine x_aload_n hm rfl rfl ?_
  refine x_iconst hm rfl (v := nI 1) (by decide) ?_
  refine x_putf hm rfl (pI rfl rfl (by decide) (by first | exact mFit_int | rfl | decide) rfl) ?_
  refine x_iconst hm rfl (v := nI 1) (by decide) ?_
  refine x_iret hm rfl rfl (by first | rfl | exact bI_nar | decide) ?_
  exact ⟨_, _, rfl, rfl, rfl, (r1.ck hW).trans (Ck.flag (r1.1 hW))⟩
theorem t126  (hW : Wf M) : ∃ v M', mT X 126 [.ref 0] (con M) (some (.int v)) (con M') ∧ Ck M M' := by
  refine ti_of (row := _) rfl (Nat.le_of_ble_eq_true rfl) ?_
  have hm : mMet 126 = some _ := rfl
  refine x_aload_n hm rfl rfl ?_
  refine x_getf hm rfl (gI rfl rfl) ?_
  refine x_if_ne hm rfl (t := 14) rfl (fun h1 => ?_) (fun h1 => ?_)
  · refine x_aload_n hm rfl rfl ?_
    refine x_getf hm rfl (gR rfl rfl) ?_
    refine x_aload_n hm rfl rfl ?_
    refine x_getf hm rfl (gR rfl rfl) ?_
    refine x_cVv hm rfl rfl (t43 (b := 1) (o := 18) (by decide) (by decide) (by decide) hW) (fun M2 r2 => ?_)
    refine x_aload_n hm rfl rfl ?_
    refine x_getf hm rfl (gR rfl rfl) ?_
    refine x_getf hm rfl (gI rfl rfl) ?_
    refine x_iret hm rfl rfl (by first | rfl | exact bI_nar | decide) ?_
    first
      | exact ⟨_, _, rfl, rfl, r2.2.ck hW⟩
      | exact ⟨_, _, rfl, rfl, r2.ck hW⟩
      | exact ⟨_, _, rfl, rfl, Ck.rf hW⟩
      | exact ⟨_, _, rfl, rfl, r1.2.ck hW⟩
      | exact ⟨_, _, rfl, rfl, r3.2.ck hW⟩
      | exact ⟨_, _, rfl, rfl, r4.2.ck hW⟩
      | exact ⟨_, _, rfl, rfl, r5.2.ck hW⟩
      | exact ⟨_, _, rfl, rfl, r6.2.ck hW⟩
      | exact ⟨_, _, rfl, rfl, r7.2.ck hW⟩
      | exact ⟨_, _, rfl, rfl, r8.2.ck hW⟩
      | exact ⟨_, _, rfl, rfl, r9.2.ck hW⟩
      | exact ⟨_, _, rfl, rfl, r10.2.ck hW⟩
      | exact ⟨_, _, rfl, rfl, r11.2.ck hW⟩
      | exact ⟨_, _, rfl, rfl, r12.2.ck hW⟩
      | exact ⟨_, _, rfl, rfl, r13.2.ck hW⟩
      | exact ⟨_, _, rfl, rfl, r14.2.ck hW⟩
      | exact ⟨_, _, rfl, rfl, r15.2.ck hW⟩
      | exact ⟨_, _, rfl, rfl, r16.2.ck hW⟩
      | exact ⟨_, _, rfl, rfl, r17.2.ck hW⟩
      | exact ⟨_, _, rfl, rfl, r18.2.ck hW⟩
      | exact ⟨_, _, rfl, rfl, r19.2.ck hW⟩
      | exact ⟨_, _, rfl, rfl, r1.ck hW⟩
      | exact ⟨_, _, rfl, rfl, r3.ck hW⟩
      | exact ⟨_, _, rfl, rfl, r4.ck hW⟩
      | exact ⟨_, _, rfl, rfl, r5.ck hW⟩
      | exact ⟨_, _, rfl, rfl, r6.ck hW⟩
      | exact ⟨_, _, rfl, rfl, r7.ck hW⟩
      | exact ⟨_, _, rfl, rfl, r8.ck hW⟩
      | exact ⟨_, _, rfl, rfl, r9.ck hW⟩
      | exact ⟨_, _, rfl, rfl, r10.ck hW⟩
      | exact ⟨_, _, rfl, rfl, r11.ck hW⟩
  · refine x_aload_n hm rfl rfl ?_
    refine x_ldcI hm rfl (v := (-1000004 : Int32)) (by decide +kernel) ?_
    refine x_cVi hm rfl rfl (t7 (by decide +kernel)) (fun v3 M3 r3 => ?_)
    refine x_iret hm rfl rfl (by first | rfl | exact bI_nar | decide) ?_
    first
      | exact ⟨_, _, rfl, rfl, r3.2.ck hW⟩
      | exact ⟨_, _, rfl, rfl, r3.ck hW⟩
      | exact ⟨_, _, rfl, rfl, Ck.rf hW⟩
      | exact ⟨_, _, rfl, rfl, r1.2.ck hW⟩
      | exact ⟨_, _, rfl, rfl, r2.2.ck hW⟩
      | exact ⟨_, _, rfl, rfl, r4.2.ck hW⟩
      | exact ⟨_, _, rfl, rfl, r5.2.ck hW⟩
      | exact ⟨_, _, rfl, rfl, r6.2.ck hW⟩
      | exact ⟨_, _, rfl, rfl, r7.2.ck hW⟩
      | exact ⟨_, _, rfl, rfl, r8.2.ck hW⟩
      | exact ⟨_, _, rfl, rfl, r9.2.ck hW⟩
      | exact ⟨_, _, rfl, rfl, r10.2.ck hW⟩
      | exact ⟨_, _, rfl, rfl, r11.2.ck hW⟩
      | exact ⟨_, _, rfl, rfl, r12.2.ck hW⟩
      | exact ⟨_, _, rfl, rfl, r13.2.ck hW⟩
      | exact ⟨_, _, rfl, rfl, r14.2.ck hW⟩
      | exact ⟨_, _, rfl, rfl, r15.2.ck hW⟩
      | exact ⟨_, _, rfl, rfl, r16.2.ck hW⟩
      | exact ⟨_, _, rfl, rfl, r17.2.ck hW⟩
      | exact ⟨_, _, rfl, rfl, r18.2.ck hW⟩
      | exact ⟨_, _, rfl, rfl, r19.2.ck hW⟩
      | exact ⟨_, _, rfl, rfl, r1.ck hW⟩
      | exact ⟨_, _, rfl, rfl, r2.ck hW⟩
      | exact ⟨_, _, rfl, rfl, r4.ck hW⟩
      | exact ⟨_, _, rfl, rfl, r5.ck hW⟩
      | exact ⟨_, _, rfl, rfl, r6.ck hW⟩
      | exact ⟨_, _, rfl, rfl, r7.ck hW⟩
      | exact ⟨_, _, rfl, rfl, r8.ck hW⟩
      | exact ⟨_, _, rfl, rfl, r9.ck hW⟩
      | exact ⟨_, _, rfl, rfl, r10.ck hW⟩
      | exact ⟨_, _, rfl, rfl, r11.ck hW⟩
theorem t127  (hW : Wf M) : ∃ v M', mT X 127 [.ref 0] (con M) (some (.int v)) (con M') ∧ Ck M M' := by
  refine ti_of (row := _) rfl (Nat.le_of_ble_eq_true rfl) ?_
  have hm : mMet 127 = some _ := rfl
  refine x_aload_n hm rfl rfl ?_
  refine x_getf hm rfl (gI rfl rfl) ?_
  refine x_if_eq hm rfl (t := 11) rfl (fun h1 => ?_) (fun h1 => ?_)
  · refine x_iconst hm rfl (v := nI 0) (by decide) ?_
    refine x_istore_n hm rfl rfl ?_
    refine x_aload_n hm rfl rfl ?_
    refine x_iconst hm rfl (v := nI 0) (by decide) ?_
    refine x_putf hm rfl (pI rfl rfl (by decide) (by first | exact mFit_int | rfl | decide) rfl) ?_
    refine x_iload_n hm rfl rfl ?_
    refine x_iret hm rfl rfl (by first | rfl | exact bI_nar | decide) ?_
    exact ⟨_, _, rfl, rfl, Ck.flag hW⟩
  · refine x_iconst hm rfl (v := nI 1) (by decide) ?_
    refine x_goto hm rfl (t := 12) rfl ?_
    refine x_istore_n hm rfl rfl ?_
    refine x_aload_n hm rfl rfl ?_
    refine x_iconst hm rfl (v := nI 0) (by decide) ?_
    refine x_putf hm rfl (pI rfl rfl (by decide) (by first | exact mFit_int | rfl | decide) rfl) ?_
    refine x_iload_n hm rfl rfl ?_
    refine x_iret hm rfl rfl (by first | rfl | exact bI_nar | decide) ?_
    exact ⟨_, _, rfl, rfl, Ck.flag hW⟩
theorem t128 {a1 : Int32} (hW : Wf M) : ∃ v M', mT X 128 [.ref 0, .int a1] (con M) (some (.int v)) (con M') ∧ Cq M M' := by
  refine ti_of (row := _) rfl (Nat.le_of_ble_eq_true rfl) ?_
  have hm : mMet 128 = some _ := rfl
  refine x_iload_n hm rfl rfl ?_
  refine x_ts hm rfl (fun h1 => ⟨115, rfl, ?_⟩) (fun i1 h1 g1 => ?_)
  · refine x_aload_n hm rfl rfl ?_
    refine x_ldcI hm rfl (v := (-1000001 : Int32)) (by decide +kernel) ?_
    refine x_cVi hm rfl rfl (t7 (by decide +kernel)) (fun v2 M2 r2 => ?_)
    refine x_iret hm rfl rfl (by first | rfl | exact bI_nar | decide) ?_
    first
      | exact ⟨_, _, rfl, rfl, r2.2.cq hW⟩
      | exact ⟨_, _, rfl, rfl, r2.cq hW⟩
      | exact ⟨_, _, rfl, rfl, Cq.rf hW⟩
      | exact ⟨_, _, rfl, rfl, r1.2.cq hW⟩
      | exact ⟨_, _, rfl, rfl, r3.2.cq hW⟩
      | exact ⟨_, _, rfl, rfl, r4.2.cq hW⟩
      | exact ⟨_, _, rfl, rfl, r5.2.cq hW⟩
      | exact ⟨_, _, rfl, rfl, r6.2.cq hW⟩
      | exact ⟨_, _, rfl, rfl, r7.2.cq hW⟩
      | exact ⟨_, _, rfl, rfl, r8.2.cq hW⟩
      | exact ⟨_, _, rfl, rfl, r9.2.cq hW⟩
      | exact ⟨_, _, rfl, rfl, r10.2.cq hW⟩
      | exact ⟨_, _, rfl, rfl, r11.2.cq hW⟩
      | exact ⟨_, _, rfl, rfl, r12.2.cq hW⟩
      | exact ⟨_, _, rfl, rfl, r13.2.cq hW⟩
      | exact ⟨_, _, rfl, rfl, r14.2.cq hW⟩
      | exact ⟨_, _, rfl, rfl, r15.2.cq hW⟩
      | exact ⟨_, _, rfl, rfl, r16.2.cq hW⟩
      | exact ⟨_, _, rfl, rfl, r17.2.cq hW⟩
      | exact ⟨_, _, rfl, rfl, r18.2.cq hW⟩
      | exact ⟨_, _, rfl, rfl, r19.2.cq hW⟩
      | exact ⟨_, _, rfl, rfl, r1.cq hW⟩
      | exact ⟨_, _, rfl, rfl, r3.cq hW⟩
      | exact ⟨_, _, rfl, rfl, r4.cq hW⟩
      | exact ⟨_, _, rfl, rfl, r5.cq hW⟩
      | exact ⟨_, _, rfl, rfl, r6.cq hW⟩
      | exact ⟨_, _, rfl, rfl, r7.cq hW⟩
      | exact ⟨_, _, rfl, rfl, r8.cq hW⟩
      | exact ⟨_, _, rfl, rfl, r9.cq hW⟩
      | exact ⟨_, _, rfl, rfl, r10.cq hW⟩
      | exact ⟨_, _, rfl, rfl, r11.cq hW⟩
  · have k1 : i1 = 0 ∨ i1 = 1 ∨ i1 = 2 ∨ i1 = 3 ∨ i1 = 4 ∨ i1 = 5 ∨ i1 = 6 ∨ i1 = 7 := by omega
    rcases k1 with rfl | rfl | rfl | rfl | rfl | rfl | rfl | rfl
    · refine ⟨_, 48, rfl, rfl, ?_⟩
      refine x_aload_n hm rfl rfl ?_
      refine x_getf hm rfl (gR rfl rfl) ?_
      refine x_getf hm rfl (gI rfl rfl) ?_
      refine x_iret hm rfl rfl (by first | rfl | exact bI_nar | decide) ?_
      first
        | exact ⟨_, _, rfl, rfl, Cq.rf hW⟩
        | exact ⟨_, _, rfl, rfl, r1.2.cq hW⟩
        | exact ⟨_, _, rfl, rfl, r2.2.cq hW⟩
        | exact ⟨_, _, rfl, rfl, r3.2.cq hW⟩
        | exact ⟨_, _, rfl, rfl, r4.2.cq hW⟩
        | exact ⟨_, _, rfl, rfl, r5.2.cq hW⟩
        | exact ⟨_, _, rfl, rfl, r6.2.cq hW⟩
        | exact ⟨_, _, rfl, rfl, r7.2.cq hW⟩
        | exact ⟨_, _, rfl, rfl, r8.2.cq hW⟩
        | exact ⟨_, _, rfl, rfl, r9.2.cq hW⟩
        | exact ⟨_, _, rfl, rfl, r10.2.cq hW⟩
        | exact ⟨_, _, rfl, rfl, r11.2.cq hW⟩
        | exact ⟨_, _, rfl, rfl, r12.2.cq hW⟩
        | exact ⟨_, _, rfl, rfl, r13.2.cq hW⟩
        | exact ⟨_, _, rfl, rfl, r14.2.cq hW⟩
        | exact ⟨_, _, rfl, rfl, r15.2.cq hW⟩
        | exact ⟨_, _, rfl, rfl, r16.2.cq hW⟩
        | exact ⟨_, _, rfl, rfl, r17.2.cq hW⟩
        | exact ⟨_, _, rfl, rfl, r18.2.cq hW⟩
        | exact ⟨_, _, rfl, rfl, r19.2.cq hW⟩
        | exact ⟨_, _, rfl, rfl, r1.cq hW⟩
        | exact ⟨_, _, rfl, rfl, r2.cq hW⟩
        | exact ⟨_, _, rfl, rfl, r3.cq hW⟩
        | exact ⟨_, _, rfl, rfl, r4.cq hW⟩
        | exact ⟨_, _, rfl, rfl, r5.cq hW⟩
        | exact ⟨_, _, rfl, rfl, r6.cq hW⟩
        | exact ⟨_, _, rfl, rfl, r7.cq hW⟩
        | exact ⟨_, _, rfl, rfl, r8.cq hW⟩
        | exact ⟨_, _, rfl, rfl, r9.cq hW⟩
        | exact ⟨_, _, rfl, rfl, r10.cq hW⟩
        | exact ⟨_, _, rfl, rfl, r11.cq hW⟩
    · refine ⟨_, 56, rfl, rfl, ?_⟩
      refine x_aload_n hm rfl rfl ?_
      refine x_getf hm rfl (gR rfl rfl) ?_
      refine x_getf hm rfl (gI rfl rfl) ?_
      refine x_iret hm rfl rfl (by first | rfl | exact bI_nar | decide) ?_
      first
        | exact ⟨_, _, rfl, rfl, Cq.rf hW⟩
        | exact ⟨_, _, rfl, rfl, r1.2.cq hW⟩
        | exact ⟨_, _, rfl, rfl, r2.2.cq hW⟩
        | exact ⟨_, _, rfl, rfl, r3.2.cq hW⟩
        | exact ⟨_, _, rfl, rfl, r4.2.cq hW⟩
        | exact ⟨_, _, rfl, rfl, r5.2.cq hW⟩
        | exact ⟨_, _, rfl, rfl, r6.2.cq hW⟩
        | exact ⟨_, _, rfl, rfl, r7.2.cq hW⟩
        | exact ⟨_, _, rfl, rfl, r8.2.cq hW⟩
        | exact ⟨_, _, rfl, rfl, r9.2.cq hW⟩
        | exact ⟨_, _, rfl, rfl, r10.2.cq hW⟩
        | exact ⟨_, _, rfl, rfl, r11.2.cq hW⟩
        | exact ⟨_, _, rfl, rfl, r12.2.cq hW⟩
        | exact ⟨_, _, rfl, rfl, r13.2.cq hW⟩
        | exact ⟨_, _, rfl, rfl, r14.2.cq hW⟩
        | exact ⟨_, _, rfl, rfl, r15.2.cq hW⟩
        | exact ⟨_, _, rfl, rfl, r16.2.cq hW⟩
        | exact ⟨_, _, rfl, rfl, r17.2.cq hW⟩
        | exact ⟨_, _, rfl, rfl, r18.2.cq hW⟩
        | exact ⟨_, _, rfl, rfl, r19.2.cq hW⟩
        | exact ⟨_, _, rfl, rfl, r1.cq hW⟩
        | exact ⟨_, _, rfl, rfl, r2.cq hW⟩
        | exact ⟨_, _, rfl, rfl, r3.cq hW⟩
        | exact ⟨_, _, rfl, rfl, r4.cq hW⟩
        | exact ⟨_, _, rfl, rfl, r5.cq hW⟩
        | exact ⟨_, _, rfl, rfl, r6.cq hW⟩
        | exact ⟨_, _, rfl, rfl, r7.cq hW⟩
        | exact ⟨_, _, rfl, rfl, r8.cq hW⟩
        | exact ⟨_, _, rfl, rfl, r9.cq hW⟩
        | exact ⟨_, _, rfl, rfl, r10.cq hW⟩
        | exact ⟨_, _, rfl, rfl, r11.cq hW⟩
    · refine ⟨_, 64, rfl, rfl, ?_⟩
      refine x_aload_n hm rfl rfl ?_
      refine x_getf hm rfl (gR rfl rfl) ?_
      refine x_getf hm rfl (gI rfl rfl) ?_
      refine x_iret hm rfl rfl (by first | rfl | exact bI_nar | decide) ?_
      first
        | exact ⟨_, _, rfl, rfl, Cq.rf hW⟩
        | exact ⟨_, _, rfl, rfl, r1.2.cq hW⟩
        | exact ⟨_, _, rfl, rfl, r2.2.cq hW⟩
        | exact ⟨_, _, rfl, rfl, r3.2.cq hW⟩
        | exact ⟨_, _, rfl, rfl, r4.2.cq hW⟩
        | exact ⟨_, _, rfl, rfl, r5.2.cq hW⟩
        | exact ⟨_, _, rfl, rfl, r6.2.cq hW⟩
        | exact ⟨_, _, rfl, rfl, r7.2.cq hW⟩
        | exact ⟨_, _, rfl, rfl, r8.2.cq hW⟩
        | exact ⟨_, _, rfl, rfl, r9.2.cq hW⟩
        | exact ⟨_, _, rfl, rfl, r10.2.cq hW⟩
        | exact ⟨_, _, rfl, rfl, r11.2.cq hW⟩
        | exact ⟨_, _, rfl, rfl, r12.2.cq hW⟩
        | exact ⟨_, _, rfl, rfl, r13.2.cq hW⟩
        | exact ⟨_, _, rfl, rfl, r14.2.cq hW⟩
        | exact ⟨_, _, rfl, rfl, r15.2.cq hW⟩
        | exact ⟨_, _, rfl, rfl, r16.2.cq hW⟩
        | exact ⟨_, _, rfl, rfl, r17.2.cq hW⟩
        | exact ⟨_, _, rfl, rfl, r18.2.cq hW⟩
        | exact ⟨_, _, rfl, rfl, r19.2.cq hW⟩
        | exact ⟨_, _, rfl, rfl, r1.cq hW⟩
        | exact ⟨_, _, rfl, rfl, r2.cq hW⟩
        | exact ⟨_, _, rfl, rfl, r3.cq hW⟩
        | exact ⟨_, _, rfl, rfl, r4.cq hW⟩
        | exact ⟨_, _, rfl, rfl, r5.cq hW⟩
        | exact ⟨_, _, rfl, rfl, r6.cq hW⟩
        | exact ⟨_, _, rfl, rfl, r7.cq hW⟩
        | exact ⟨_, _, rfl, rfl, r8.cq hW⟩
        | exact ⟨_, _, rfl, rfl, r9.cq hW⟩
        | exact ⟨_, _, rfl, rfl, r10.cq hW⟩
        | exact ⟨_, _, rfl, rfl, r11.cq hW⟩
    · refine ⟨_, 72, rfl, rfl, ?_⟩
      refine x_aload_n hm rfl rfl ?_
      refine x_getf hm rfl (gR rfl rfl) ?_
      refine x_cVe hm rfl rfl (t35 (by decide) hW) (fun v3 r3 => ?_)
      refine x_cSe hm rfl rfl (t36) (fun v4 r4 => ?_)
      refine x_iret hm rfl rfl (by first | rfl | exact bI_nar | decide) ?_
      first
        | exact ⟨_, _, rfl, rfl, r4.2.cq hW⟩
        | exact ⟨_, _, rfl, rfl, r4.cq hW⟩
        | exact ⟨_, _, rfl, rfl, Cq.rf hW⟩
        | exact ⟨_, _, rfl, rfl, r3.2.cq hW⟩
        | exact ⟨_, _, rfl, rfl, r3.cq hW⟩
        | exact ⟨_, _, rfl, rfl, r1.2.cq hW⟩
        | exact ⟨_, _, rfl, rfl, r2.2.cq hW⟩
        | exact ⟨_, _, rfl, rfl, r5.2.cq hW⟩
        | exact ⟨_, _, rfl, rfl, r6.2.cq hW⟩
        | exact ⟨_, _, rfl, rfl, r7.2.cq hW⟩
        | exact ⟨_, _, rfl, rfl, r8.2.cq hW⟩
        | exact ⟨_, _, rfl, rfl, r9.2.cq hW⟩
        | exact ⟨_, _, rfl, rfl, r10.2.cq hW⟩
        | exact ⟨_, _, rfl, rfl, r11.2.cq hW⟩
        | exact ⟨_, _, rfl, rfl, r12.2.cq hW⟩
        | exact ⟨_, _, rfl, rfl, r13.2.cq hW⟩
        | exact ⟨_, _, rfl, rfl, r14.2.cq hW⟩
        | exact ⟨_, _, rfl, rfl, r15.2.cq hW⟩
        | exact ⟨_, _, rfl, rfl, r16.2.cq hW⟩
        | exact ⟨_, _, rfl, rfl, r17.2.cq hW⟩
        | exact ⟨_, _, rfl, rfl, r18.2.cq hW⟩
        | exact ⟨_, _, rfl, rfl, r19.2.cq hW⟩
        | exact ⟨_, _, rfl, rfl, r1.cq hW⟩
        | exact ⟨_, _, rfl, rfl, r2.cq hW⟩
        | exact ⟨_, _, rfl, rfl, r5.cq hW⟩
        | exact ⟨_, _, rfl, rfl, r6.cq hW⟩
        | exact ⟨_, _, rfl, rfl, r7.cq hW⟩
        | exact ⟨_, _, rfl, rfl, r8.cq hW⟩
        | exact ⟨_, _, rfl, rfl, r9.cq hW⟩
        | exact ⟨_, _, rfl, rfl, r10.cq hW⟩
        | exact ⟨_, _, rfl, rfl, r11.cq hW⟩
    · refine ⟨_, 83, rfl, rfl, ?_⟩
      refine x_aload_n hm rfl rfl ?_
      refine x_getf hm rfl (gR rfl rfl) ?_
      refine x_cVe hm rfl rfl (t38 (by decide) hW) (fun v5 r5 => ?_)
      refine x_iret hm rfl rfl (by first | rfl | exact bI_nar | decide) ?_
      first
        | exact ⟨_, _, rfl, rfl, r5.2.cq hW⟩
        | exact ⟨_, _, rfl, rfl, r5.cq hW⟩
        | exact ⟨_, _, rfl, rfl, Cq.rf hW⟩
        | exact ⟨_, _, rfl, rfl, r1.2.cq hW⟩
        | exact ⟨_, _, rfl, rfl, r2.2.cq hW⟩
        | exact ⟨_, _, rfl, rfl, r3.2.cq hW⟩
        | exact ⟨_, _, rfl, rfl, r4.2.cq hW⟩
        | exact ⟨_, _, rfl, rfl, r6.2.cq hW⟩
        | exact ⟨_, _, rfl, rfl, r7.2.cq hW⟩
        | exact ⟨_, _, rfl, rfl, r8.2.cq hW⟩
        | exact ⟨_, _, rfl, rfl, r9.2.cq hW⟩
        | exact ⟨_, _, rfl, rfl, r10.2.cq hW⟩
        | exact ⟨_, _, rfl, rfl, r11.2.cq hW⟩
        | exact ⟨_, _, rfl, rfl, r12.2.cq hW⟩
        | exact ⟨_, _, rfl, rfl, r13.2.cq hW⟩
        | exact ⟨_, _, rfl, rfl, r14.2.cq hW⟩
        | exact ⟨_, _, rfl, rfl, r15.2.cq hW⟩
        | exact ⟨_, _, rfl, rfl, r16.2.cq hW⟩
        | exact ⟨_, _, rfl, rfl, r17.2.cq hW⟩
        | exact ⟨_, _, rfl, rfl, r18.2.cq hW⟩
        | exact ⟨_, _, rfl, rfl, r19.2.cq hW⟩
        | exact ⟨_, _, rfl, rfl, r1.cq hW⟩
        | exact ⟨_, _, rfl, rfl, r2.cq hW⟩
        | exact ⟨_, _, rfl, rfl, r3.cq hW⟩
        | exact ⟨_, _, rfl, rfl, r4.cq hW⟩
        | exact ⟨_, _, rfl, rfl, r6.cq hW⟩
        | exact ⟨_, _, rfl, rfl, r7.cq hW⟩
        | exact ⟨_, _, rfl, rfl, r8.cq hW⟩
        | exact ⟨_, _, rfl, rfl, r9.cq hW⟩
        | exact ⟨_, _, rfl, rfl, r10.cq hW⟩
        | exact ⟨_, _, rfl, rfl, r11.cq hW⟩
    · refine ⟨_, 91, rfl, rfl, ?_⟩
      refine x_aload_n hm rfl rfl ?_
      refine x_getf hm rfl (gR rfl rfl) ?_
      refine x_getf hm rfl (gI rfl rfl) ?_
      refine x_iret hm rfl rfl (by first | rfl | exact bI_nar | decide) ?_
      first
        | exact ⟨_, _, rfl, rfl, Cq.rf hW⟩
        | exact ⟨_, _, rfl, rfl, r1.2.cq hW⟩
        | exact ⟨_, _, rfl, rfl, r2.2.cq hW⟩
        | exact ⟨_, _, rfl, rfl, r3.2.cq hW⟩
        | exact ⟨_, _, rfl, rfl, r4.2.cq hW⟩
        | exact ⟨_, _, rfl, rfl, r5.2.cq hW⟩
        | exact ⟨_, _, rfl, rfl, r6.2.cq hW⟩
        | exact ⟨_, _, rfl, rfl, r7.2.cq hW⟩
        | exact ⟨_, _, rfl, rfl, r8.2.cq hW⟩
        | exact ⟨_, _, rfl, rfl, r9.2.cq hW⟩
        | exact ⟨_, _, rfl, rfl, r10.2.cq hW⟩
        | exact ⟨_, _, rfl, rfl, r11.2.cq hW⟩
        | exact ⟨_, _, rfl, rfl, r12.2.cq hW⟩
        | exact ⟨_, _, rfl, rfl, r13.2.cq hW⟩
        | exact ⟨_, _, rfl, rfl, r14.2.cq hW⟩
        | exact ⟨_, _, rfl, rfl, r15.2.cq hW⟩
        | exact ⟨_, _, rfl, rfl, r16.2.cq hW⟩
        | exact ⟨_, _, rfl, rfl, r17.2.cq hW⟩
        | exact ⟨_, _, rfl, rfl, r18.2.cq hW⟩
        | exact ⟨_, _, rfl, rfl, r19.2.cq hW⟩
        | exact ⟨_, _, rfl, rfl, r1.cq hW⟩
        | exact ⟨_, _, rfl, rfl, r2.cq hW⟩
        | exact ⟨_, _, rfl, rfl, r3.cq hW⟩
        | exact ⟨_, _, rfl, rfl, r4.cq hW⟩
        | exact ⟨_, _, rfl, rfl, r5.cq hW⟩
        | exact ⟨_, _, rfl, rfl, r6.cq hW⟩
        | exact ⟨_, _, rfl, rfl, r7.cq hW⟩
        | exact ⟨_, _, rfl, rfl, r8.cq hW⟩
        | exact ⟨_, _, rfl, rfl, r9.cq hW⟩
        | exact ⟨_, _, rfl, rfl, r10.cq hW⟩
        | exact ⟨_, _, rfl, rfl, r11.cq hW⟩
    · refine ⟨_, 99, rfl, rfl, ?_⟩
      refine x_aload_n hm rfl rfl ?_
      refine x_getf hm rfl (gR rfl rfl) ?_
      refine x_getf hm rfl (gI rfl rfl) ?_
      refine x_iret hm rfl rfl (by first | rfl | exact bI_nar | decide) ?_
      first
        | exact ⟨_, _, rfl, rfl, Cq.rf hW⟩
        | exact ⟨_, _, rfl, rfl, r1.2.cq hW⟩
        | exact ⟨_, _, rfl, rfl, r2.2.cq hW⟩
        | exact ⟨_, _, rfl, rfl, r3.2.cq hW⟩
        | exact ⟨_, _, rfl, rfl, r4.2.cq hW⟩
        | exact ⟨_, _, rfl, rfl, r5.2.cq hW⟩
        | exact ⟨_, _, rfl, rfl, r6.2.cq hW⟩
        | exact ⟨_, _, rfl, rfl, r7.2.cq hW⟩
        | exact ⟨_, _, rfl, rfl, r8.2.cq hW⟩
        | exact ⟨_, _, rfl, rfl, r9.2.cq hW⟩
        | exact ⟨_, _, rfl, rfl, r10.2.cq hW⟩
        | exact ⟨_, _, rfl, rfl, r11.2.cq hW⟩
        | exact ⟨_, _, rfl, rfl, r12.2.cq hW⟩
        | exact ⟨_, _, rfl, rfl, r13.2.cq hW⟩
        | exact ⟨_, _, rfl, rfl, r14.2.cq hW⟩
        | exact ⟨_, _, rfl, rfl, r15.2.cq hW⟩
        | exact ⟨_, _, rfl, rfl, r16.2.cq hW⟩
        | exact ⟨_, _, rfl, rfl, r17.2.cq hW⟩
        | exact ⟨_, _, rfl, rfl, r18.2.cq hW⟩
        | exact ⟨_, _, rfl, rfl, r19.2.cq hW⟩
        | exact ⟨_, _, rfl, rfl, r1.cq hW⟩
        | exact ⟨_, _, rfl, rfl, r2.cq hW⟩
        | exact ⟨_, _, rfl, rfl, r3.cq hW⟩
        | exact ⟨_, _, rfl, rfl, r4.cq hW⟩
        | exact ⟨_, _, rfl, rfl, r5.cq hW⟩
        | exact ⟨_, _, rfl, rfl, r6.cq hW⟩
        | exact ⟨_, _, rfl, rfl, r7.cq hW⟩
        | exact ⟨_, _, rfl, rfl, r8.cq hW⟩
        | exact ⟨_, _, rfl, rfl, r9.cq hW⟩
        | exact ⟨_, _, rfl, rfl, r10.cq hW⟩
        | exact ⟨_, _, rfl, rfl, r11.cq hW⟩
    · refine ⟨_, 107, rfl, rfl, ?_⟩
      refine x_aload_n hm rfl rfl ?_
      refine x_getf hm rfl (gR rfl rfl) ?_
      refine x_cVe hm rfl rfl (t129 (by decide) hW) (fun v6 r6 => ?_)
      refine x_iret hm rfl rfl (by first | rfl | exact bI_nar | decide) ?_
      first
        | exact ⟨_, _, rfl, rfl, r6.2.cq hW⟩
        | exact ⟨_, _, rfl, rfl, r6.cq hW⟩
        | exact ⟨_, _, rfl, rfl, Cq.rf hW⟩
        | exact ⟨_, _, rfl, rfl, r1.2.cq hW⟩
        | exact ⟨_, _, rfl, rfl, r2.2.cq hW⟩
        | exact ⟨_, _, rfl, rfl, r3.2.cq hW⟩
        | exact ⟨_, _, rfl, rfl, r4.2.cq hW⟩
        | exact ⟨_, _, rfl, rfl, r5.2.cq hW⟩
        | exact ⟨_, _, rfl, rfl, r7.2.cq hW⟩
        | exact ⟨_, _, rfl, rfl, r8.2.cq hW⟩
        | exact ⟨_, _, rfl, rfl, r9.2.cq hW⟩
        | exact ⟨_, _, rfl, rfl, r10.2.cq hW⟩
        | exact ⟨_, _, rfl, rfl, r11.2.cq hW⟩
        | exact ⟨_, _, rfl, rfl, r12.2.cq hW⟩
        | exact ⟨_, _, rfl, rfl, r13.2.cq hW⟩
        | exact ⟨_, _, rfl, rfl, r14.2.cq hW⟩
        | exact ⟨_, _, rfl, rfl, r15.2.cq hW⟩
        | exact ⟨_, _, rfl, rfl, r16.2.cq hW⟩
        | exact ⟨_, _, rfl, rfl, r17.2.cq hW⟩
        | exact ⟨_, _, rfl, rfl, r18.2.cq hW⟩
        | exact ⟨_, _, rfl, rfl, r19.2.cq hW⟩
        | exact ⟨_, _, rfl, rfl, r1.cq hW⟩
        | exact ⟨_, _, rfl, rfl, r2.cq hW⟩
        | exact ⟨_, _, rfl, rfl, r3.cq hW⟩
        | exact ⟨_, _, rfl, rfl, r4.cq hW⟩
        | exact ⟨_, _, rfl, rfl, r5.cq hW⟩
        | exact ⟨_, _, rfl, rfl, r7.cq hW⟩
        | exact ⟨_, _, rfl, rfl, r8.cq hW⟩
        | exact ⟨_, _, rfl, rfl, r9.cq hW⟩
        | exact ⟨_, _, rfl, rfl, r10.cq hW⟩
        | exact ⟨_, _, rfl, rfl, r11.cq hW⟩
theorem st_k0 {v : Int32} (h : ¬ v < 0) (h2 : v ≤ nI 6) : ∃ k, k ≤ 6 ∧ v = nI k := by
  obtain ⟨z, hz, rfl⟩ := jI_of h
  exact ⟨z, (jI_le hz (by decide)).mp h2, rfl⟩
theorem l130 {a1 : Int32} (hW : Wf M) : ∀ (n k : Nat) (s : Int32), 7 - k < n → k ≤ 7 → mEv X (QI (fun _ M' => Cq M M')) 130 32 [some (.ref 0), some (.int a1), some (.int s), some (.int (nI k))] [] (con M) := by
  have hm : mMet 130 = some _ := rfl
  intro n
  induction n with
  | zero =>
    intro k s hkn hkb
    omega
  | succ n ih =>
    intro k s hkn hkb
    refine x_iload_n hm rfl rfl ?_
    refine x_bipush hm rfl (v := nI 7) (by decide) ?_
    refine x_icmp_ge hm rfl (t := 53) rfl (fun h1 => ?_) (fun h1 => ?_)
    · refine x_iload_n hm rfl rfl ?_
      refine x_iret hm rfl rfl (by first | rfl | exact bI_nar | decide) ?_
      first
        | exact ⟨_, _, rfl, rfl, Cq.rf hW⟩
        | exact ⟨_, _, rfl, rfl, r1.2.cq hW⟩
        | exact ⟨_, _, rfl, rfl, r2.2.cq hW⟩
        | exact ⟨_, _, rfl, rfl, r3.2.cq hW⟩
        | exact ⟨_, _, rfl, rfl, r4.2.cq hW⟩
        | exact ⟨_, _, rfl, rfl, r5.2.cq hW⟩
        | exact ⟨_, _, rfl, rfl, r6.2.cq hW⟩
        | exact ⟨_, _, rfl, rfl, r7.2.cq hW⟩
        | exact ⟨_, _, rfl, rfl, r8.2.cq hW⟩
        | exact ⟨_, _, rfl, rfl, r9.2.cq hW⟩
        | exact ⟨_, _, rfl, rfl, r10.2.cq hW⟩
        | exact ⟨_, _, rfl, rfl, r11.2.cq hW⟩
        | exact ⟨_, _, rfl, rfl, r12.2.cq hW⟩
        | exact ⟨_, _, rfl, rfl, r13.2.cq hW⟩
        | exact ⟨_, _, rfl, rfl, r14.2.cq hW⟩
        | exact ⟨_, _, rfl, rfl, r15.2.cq hW⟩
        | exact ⟨_, _, rfl, rfl, r16.2.cq hW⟩
        | exact ⟨_, _, rfl, rfl, r17.2.cq hW⟩
        | exact ⟨_, _, rfl, rfl, r18.2.cq hW⟩
        | exact ⟨_, _, rfl, rfl, r19.2.cq hW⟩
        | exact ⟨_, _, rfl, rfl, r1.cq hW⟩
        | exact ⟨_, _, rfl, rfl, r2.cq hW⟩
        | exact ⟨_, _, rfl, rfl, r3.cq hW⟩
        | exact ⟨_, _, rfl, rfl, r4.cq hW⟩
        | exact ⟨_, _, rfl, rfl, r5.cq hW⟩
        | exact ⟨_, _, rfl, rfl, r6.cq hW⟩
        | exact ⟨_, _, rfl, rfl, r7.cq hW⟩
        | exact ⟨_, _, rfl, rfl, r8.cq hW⟩
        | exact ⟨_, _, rfl, rfl, r9.cq hW⟩
        | exact ⟨_, _, rfl, rfl, r10.cq hW⟩
        | exact ⟨_, _, rfl, rfl, r11.cq hW⟩
    · have hk : k < 7 := Nat.lt_of_not_le fun h => h1 (nI_le h (by omega))
      refine x_iload_n hm rfl rfl ?_
      refine x_aload_n hm rfl rfl ?_
      refine x_getf hm rfl (gR rfl rfl) ?_
      refine x_iload_n hm rfl rfl ?_
      refine x_iald hm rfl (lI rfl (by omega) (by decide)) ?_
      refine x_iadd hm rfl ?_
      refine x_istore_n hm rfl rfl ?_
      refine x_iinc hm rfl rfl (v := nI 1) (by decide) rfl ?_
      rw [jI_add]
      refine x_goto hm rfl (t := 32) rfl ?_
      exact ih _ _ (by omega) (by omega)
theorem t130 {a1 : Int32} (hW : Wf M) : ∃ v M', mT X 130 [.ref 0, .int a1] (con M) (some (.int v)) (con M') ∧ Cq M M' := by
  refine ti_of (row := _) rfl (Nat.le_of_ble_eq_true rfl) ?_
  have hm : mMet 130 = some _ := rfl
  refine x_iload_n hm rfl rfl ?_
  refine x_iconst hm rfl (v := (-1 : Int32)) (by decide) ?_
  refine x_bipush hm rfl (v := nI 6) (by decide) ?_
  refine x_callS hm rfl rfl (t6) ?_
  refine x_if_ne hm rfl (t := 17) rfl (fun h1 => ?_) (fun h1 => ?_)
  · have hb1 := bI_ne0 h1
    refine x_iload_n hm rfl rfl ?_
    refine x_if_lt hm rfl (t := 28) rfl (fun h2 => ?_) (fun h2 => ?_)
    · refine x_iconst hm rfl (v := nI 0) (by decide) ?_
      refine x_istore_n hm rfl rfl ?_
      refine x_iconst hm rfl (v := nI 0) (by decide) ?_
      refine x_istore_n hm rfl rfl ?_
      exact l130 hW _ 0 _ (Nat.lt_succ_self _) (Nat.zero_le _)
    · obtain ⟨k, hk, rfl⟩ := st_k0 h2 hb1.2
      refine x_aload_n hm rfl rfl ?_
      refine x_getf hm rfl (gR rfl rfl) ?_
      refine x_iload_n hm rfl rfl ?_
      refine x_iald hm rfl (lI rfl (by omega) (by decide)) ?_
      refine x_iret hm rfl rfl (by first | rfl | exact bI_nar | decide) ?_
      first
        | exact ⟨_, _, rfl, rfl, Cq.rf hW⟩
        | exact ⟨_, _, rfl, rfl, r1.2.cq hW⟩
        | exact ⟨_, _, rfl, rfl, r2.2.cq hW⟩
        | exact ⟨_, _, rfl, rfl, r3.2.cq hW⟩
        | exact ⟨_, _, rfl, rfl, r4.2.cq hW⟩
        | exact ⟨_, _, rfl, rfl, r5.2.cq hW⟩
        | exact ⟨_, _, rfl, rfl, r6.2.cq hW⟩
        | exact ⟨_, _, rfl, rfl, r7.2.cq hW⟩
        | exact ⟨_, _, rfl, rfl, r8.2.cq hW⟩
        | exact ⟨_, _, rfl, rfl, r9.2.cq hW⟩
        | exact ⟨_, _, rfl, rfl, r10.2.cq hW⟩
        | exact ⟨_, _, rfl, rfl, r11.2.cq hW⟩
        | exact ⟨_, _, rfl, rfl, r12.2.cq hW⟩
        | exact ⟨_, _, rfl, rfl, r13.2.cq hW⟩
        | exact ⟨_, _, rfl, rfl, r14.2.cq hW⟩
        | exact ⟨_, _, rfl, rfl, r15.2.cq hW⟩
        | exact ⟨_, _, rfl, rfl, r16.2.cq hW⟩
        | exact ⟨_, _, rfl, rfl, r17.2.cq hW⟩
        | exact ⟨_, _, rfl, rfl, r18.2.cq hW⟩
        | exact ⟨_, _, rfl, rfl, r19.2.cq hW⟩
        | exact ⟨_, _, rfl, rfl, r1.cq hW⟩
        | exact ⟨_, _, rfl, rfl, r2.cq hW⟩
        | exact ⟨_, _, rfl, rfl, r3.cq hW⟩
        | exact ⟨_, _, rfl, rfl, r4.cq hW⟩
        | exact ⟨_, _, rfl, rfl, r5.cq hW⟩
        | exact ⟨_, _, rfl, rfl, r6.cq hW⟩
        | exact ⟨_, _, rfl, rfl, r7.cq hW⟩
        | exact ⟨_, _, rfl, rfl, r8.cq hW⟩
        | exact ⟨_, _, rfl, rfl, r9.cq hW⟩
        | exact ⟨_, _, rfl, rfl, r10.cq hW⟩
        | exact ⟨_, _, rfl, rfl, r11.cq hW⟩
  · refine x_aload_n hm rfl rfl ?_
    refine x_ldcI hm rfl (v := (-1000001 : Int32)) (by decide +kernel) ?_
    refine x_cVi hm rfl rfl (t7 (by decide +kernel)) (fun v3 M3 r3 => ?_)
    refine x_iret hm rfl rfl (by first | rfl | exact bI_nar | decide) ?_
    first
      | exact ⟨_, _, rfl, rfl, r3.2.cq hW⟩
      | exact ⟨_, _, rfl, rfl, r3.cq hW⟩
      | exact ⟨_, _, rfl, rfl, Cq.rf hW⟩
      | exact ⟨_, _, rfl, rfl, r1.2.cq hW⟩
      | exact ⟨_, _, rfl, rfl, r2.2.cq hW⟩
      | exact ⟨_, _, rfl, rfl, r4.2.cq hW⟩
      | exact ⟨_, _, rfl, rfl, r5.2.cq hW⟩
      | exact ⟨_, _, rfl, rfl, r6.2.cq hW⟩
      | exact ⟨_, _, rfl, rfl, r7.2.cq hW⟩
      | exact ⟨_, _, rfl, rfl, r8.2.cq hW⟩
      | exact ⟨_, _, rfl, rfl, r9.2.cq hW⟩
      | exact ⟨_, _, rfl, rfl, r10.2.cq hW⟩
      | exact ⟨_, _, rfl, rfl, r11.2.cq hW⟩
      | exact ⟨_, _, rfl, rfl, r12.2.cq hW⟩
      | exact ⟨_, _, rfl, rfl, r13.2.cq hW⟩
      | exact ⟨_, _, rfl, rfl, r14.2.cq hW⟩
      | exact ⟨_, _, rfl, rfl, r15.2.cq hW⟩
      | exact ⟨_, _, rfl, rfl, r16.2.cq hW⟩
      | exact ⟨_, _, rfl, rfl, r17.2.cq hW⟩
      | exact ⟨_, _, rfl, rfl, r18.2.cq hW⟩
      | exact ⟨_, _, rfl, rfl, r19.2.cq hW⟩
      | exact ⟨_, _, rfl, rfl, r1.cq hW⟩
      | exact ⟨_, _, rfl, rfl, r2.cq hW⟩
      | exact ⟨_, _, rfl, rfl, r4.cq hW⟩
      | exact ⟨_, _, rfl, rfl, r5.cq hW⟩
      | exact ⟨_, _, rfl, rfl, r6.cq hW⟩
      | exact ⟨_, _, rfl, rfl, r7.cq hW⟩
      | exact ⟨_, _, rfl, rfl, r8.cq hW⟩
      | exact ⟨_, _, rfl, rfl, r9.cq hW⟩
      | exact ⟨_, _, rfl, rfl, r10.cq hW⟩
      | exact ⟨_, _, rfl, rfl, r11.cq hW⟩
theorem l82 {a : Nat} {c : Int32} (hW : Wf M) (ha : a ≤ 1000) : ∀ (n k : Nat) (M1 : mM), a - k < n → k ≤ a → Tw 1 M M1 → mEv X (QI (fun _ M' => Tw 1 M M')) 82 48 [some (.ref 0), some (.int (nI a)), some (.int c), some (.int (nI k))] [] (con M1) := by
  have hm : mMet 82 = some _ := rfl
  intro n
  induction n with
  | zero =>
    intro k M1 hkn hkb hT
    omega
  | succ n ih =>
    intro k M1 hkn hkb hT
    refine x_iload_n hm rfl rfl ?_
    refine x_iload_n hm rfl rfl ?_
    refine x_icmp_ge hm rfl (t := 74) rfl (fun h1 => ?_) (fun h1 => ?_)
    · refine x_iload_n hm rfl rfl ?_
      refine x_aload_n hm rfl rfl ?_
      refine x_getf hm rfl (gR rfl rfl) ?_
      refine x_cVe hm rfl rfl (t38 (by decide) (hT.1 hW)) (fun v2 r2 => ?_)
      refine x_isub hm rfl ?_
      refine x_iret hm rfl rfl (by first | rfl | exact bI_nar | decide) ?_
      exact ⟨_, _, rfl, rfl, hT⟩
    · have hk : k < a := Nat.lt_of_not_le fun h => h1 (nI_le h (by omega))
      refine x_aload_n hm rfl rfl ?_
      refine x_getf hm rfl (gR rfl rfl) ?_
      refine x_cVv hm rfl rfl (t83 (by decide) (hT.1 hW)) (fun M3 r3 => ?_)
      refine x_aload_n hm rfl rfl ?_
      refine x_getf hm rfl (gR rfl rfl) ?_
      refine x_iconst hm rfl (v := nI 1) (by decide) ?_
      refine x_cVv hm rfl rfl (t30 (by decide) (by decide) (r3.1 (hT.1 hW))) (fun M4 r4 => ?_)
      refine x_iinc hm rfl rfl (v := nI 1) (by decide) rfl ?_
      rw [jI_add]
      refine x_goto hm rfl (t := 48) rfl ?_
      first
        | exact ih _ _ (by omega) (by omega) ((hT.trans r3).trans r4)
        | exact ih _ _ (by omega) (by omega) ((hT.trans r2).trans r3)
        | exact ih _ _ (by omega) (by omega) ((hT.trans r4).trans r5)
theorem ev_ckT {m pc : Nat} {L : mLoc} {st : List Value} {D : mHp} (hW : Wf M) (h : mEv X (QI (fun _ M' => Tw 1 M M')) m pc L st D) : mEv X (QI (fun _ M' => Ck M M')) m pc L st D := ev_mono h (fun r D' ⟨v, M2, g1, g2, g3⟩ => ⟨v, M2, g1, g2, g3.ck hW⟩)
theorem t82 {a1 : Int32} (hW : Wf M) : ∃ v M', mT X 82 [.ref 0, .int a1] (con M) (some (.int v)) (con M') ∧ Ck M M' := by
  refine ti_of (row := _) rfl (Nat.le_of_ble_eq_true rfl) ?_
  have hm : mMet 82 = some _ := rfl
  refine x_iload_n hm rfl rfl ?_
  refine x_iconst hm rfl (v := nI 1) (by decide) ?_
  refine x_bipush hm rfl (v := nI 20) (by decide) ?_
  refine x_callS hm rfl rfl (t6) ?_
  refine x_if_ne hm rfl (t := 17) rfl (fun h1 => ?_) (fun h1 => ?_)
  · obtain ⟨a, ha, -, rfl⟩ := le1_k (by omega) (bI_ne0 h1)
    refine x_aload_n hm rfl rfl ?_
    refine x_getf hm rfl (gR rfl rfl) ?_
    refine x_getf hm rfl (gI rfl rfl) ?_
    refine x_iload_n hm rfl rfl ?_
    refine x_iadd hm rfl ?_
    refine x_ldcI hm rfl (v := nI 99999) (by decide +kernel) ?_
    refine x_icmp_le hm rfl (t := 38) rfl (fun h2 => ?_) (fun h2 => ?_)
    · refine x_aload_n hm rfl rfl ?_
      refine x_getf hm rfl (gR rfl rfl) ?_
      refine x_cVe hm rfl rfl (t38 (by decide) hW) (fun v3 r3 => ?_)
      refine x_istore_n hm rfl rfl ?_
      refine x_iconst hm rfl (v := nI 0) (by decide) ?_
      refine x_istore_n hm rfl rfl ?_
      exact ev_ckT hW (l82 hW (by omega) _ 0 _ (Nat.lt_succ_self _) (Nat.zero_le _) Tw.rf)
    · refine x_aload_n hm rfl rfl ?_
      refine x_ldcI hm rfl (v := (-1000005 : Int32)) (by decide +kernel) ?_
      refine x_cVi hm rfl rfl (t7 (by decide +kernel)) (fun v4 M4 r4 => ?_)
      refine x_iret hm rfl rfl (by first | rfl | exact bI_nar | decide) ?_
      first
        | exact ⟨_, _, rfl, rfl, r4.2.ck hW⟩
        | exact ⟨_, _, rfl, rfl, r4.ck hW⟩
        | exact ⟨_, _, rfl, rfl, Ck.rf hW⟩
        | exact ⟨_, _, rfl, rfl, r1.2.ck hW⟩
        | exact ⟨_, _, rfl, rfl, r2.2.ck hW⟩
        | exact ⟨_, _, rfl, rfl, r3.2.ck hW⟩
        | exact ⟨_, _, rfl, rfl, r5.2.ck hW⟩
        | exact ⟨_, _, rfl, rfl, r6.2.ck hW⟩
        | exact ⟨_, _, rfl, rfl, r7.2.ck hW⟩
        | exact ⟨_, _, rfl, rfl, r8.2.ck hW⟩
        | exact ⟨_, _, rfl, rfl, r9.2.ck hW⟩
        | exact ⟨_, _, rfl, rfl, r10.2.ck hW⟩
        | exact ⟨_, _, rfl, rfl, r11.2.ck hW⟩
        | exact ⟨_, _, rfl, rfl, r12.2.ck hW⟩
        | exact ⟨_, _, rfl, rfl, r13.2.ck hW⟩
        | exact ⟨_, _, rfl, rfl, r14.2.ck hW⟩
        | exact ⟨_, _, rfl, rfl, r15.2.ck hW⟩
        | exact ⟨_, _, rfl, rfl, r16.2.ck hW⟩
        | exact ⟨_, _, rfl, rfl, r17.2.ck hW⟩
        | exact ⟨_, _, rfl, rfl, r18.2.ck hW⟩
        | exact ⟨_, _, rfl, rfl, r19.2.ck hW⟩
        | exact ⟨_, _, rfl, rfl, r1.ck hW⟩
        | exact ⟨_, _, rfl, rfl, r2.ck hW⟩
        | exact ⟨_, _, rfl, rfl, r3.ck hW⟩
        | exact ⟨_, _, rfl, rfl, r5.ck hW⟩
        | exact ⟨_, _, rfl, rfl, r6.ck hW⟩
        | exact ⟨_, _, rfl, rfl, r7.ck hW⟩
        | exact ⟨_, _, rfl, rfl, r8.ck hW⟩
        | exact ⟨_, _, rfl, rfl, r9.ck hW⟩
        | exact ⟨_, _, rfl, rfl, r10.ck hW⟩
        | exact ⟨_, _, rfl, rfl, r11.ck hW⟩
  · refine x_aload_n hm rfl rfl ?_
    refine x_ldcI hm rfl (v := (-1000001 : Int32)) (by decide +kernel) ?_
    refine x_cVi hm rfl rfl (t7 (by decide +kernel)) (fun v5 M5 r5 => ?_)
    refine x_iret hm rfl rfl (by first | rfl | exact bI_nar | decide) ?_
    first
      | exact ⟨_, _, rfl, rfl, r5.2.ck hW⟩
      | exact ⟨_, _, rfl, rfl, r5.ck hW⟩
      | exact ⟨_, _, rfl, rfl, Ck.rf hW⟩
      | exact ⟨_, _, rfl, rfl, r1.2.ck hW⟩
      | exact ⟨_, _, rfl, rfl, r2.2.ck hW⟩
      | exact ⟨_, _, rfl, rfl, r3.2.ck hW⟩
      | exact ⟨_, _, rfl, rfl, r4.2.ck hW⟩
      | exact ⟨_, _, rfl, rfl, r6.2.ck hW⟩
      | exact ⟨_, _, rfl, rfl, r7.2.ck hW⟩
      | exact ⟨_, _, rfl, rfl, r8.2.ck hW⟩
      | exact ⟨_, _, rfl, rfl, r9.2.ck hW⟩
      | exact ⟨_, _, rfl, rfl, r10.2.ck hW⟩
      | exact ⟨_, _, rfl, rfl, r11.2.ck hW⟩
      | exact ⟨_, _, rfl, rfl, r12.2.ck hW⟩
      | exact ⟨_, _, rfl, rfl, r13.2.ck hW⟩
      | exact ⟨_, _, rfl, rfl, r14.2.ck hW⟩
      | exact ⟨_, _, rfl, rfl, r15.2.ck hW⟩
      | exact ⟨_, _, rfl, rfl, r16.2.ck hW⟩
      | exact ⟨_, _, rfl, rfl, r17.2.ck hW⟩
      | exact ⟨_, _, rfl, rfl, r18.2.ck hW⟩
      | exact ⟨_, _, rfl, rfl, r19.2.ck hW⟩
      | exact ⟨_, _, rfl, rfl, r1.ck hW⟩
      | exact ⟨_, _, rfl, rfl, r2.ck hW⟩
      | exact ⟨_, _, rfl, rfl, r3.ck hW⟩
      | exact ⟨_, _, rfl, rfl, r4.ck hW⟩
      | exact ⟨_, _, rfl, rfl, r6.ck hW⟩
      | exact ⟨_, _, rfl, rfl, r7.ck hW⟩
      | exact ⟨_, _, rfl, rfl, r8.ck hW⟩
      | exact ⟨_, _, rfl, rfl, r9.ck hW⟩
      | exact ⟨_, _, rfl, rfl, r10.ck hW⟩
      | exact ⟨_, _, rfl, rfl, r11.ck hW⟩
theorem half_k : ∀ b, b ≤ 16 → ¬ nI b ≤ nI 1 → 1 ≤ b / 2 ∧ b / 2 < b ∧ nI b / nI 2 = nI (b / 2) := by decide +kernel
theorem l84b {a : Nat} {w x : Int32} {y : Int32} (hW : Wf M) (ha : a ≤ 1000) : ∀ (n k : Nat) (g : Int64), a - k < n → k ≤ a → mEv X (QL (fun _ M' => Cq M M')) 84 76 [some (.ref 0), some (.int (nI a)), some (.int w), some (.int x), some (.int y), some (.long g), none, some (.int (nI k))] [] (con M) := by
  have hm : mMet 84 = some _ := rfl
  intro n
  induction n with
  | zero =>
    intro k g hkn hkb
    omega
  | succ n ih =>
    intro k g hkn hkb
    refine x_iload hm rfl rfl ?_
    refine x_iload_n hm rfl rfl ?_
    refine x_icmp_ge hm rfl (t := 105) rfl (fun h1 => ?_) (fun h1 => ?_)
    · refine x_lload hm rfl rfl ?_
      refine x_lret hm rfl rfl ?_
      exact ⟨_, _, rfl, rfl, Cq.rf hW⟩
    · have hk : k < a := Nat.lt_of_not_le fun h => h1 (nI_le h (by omega))
      refine x_lload hm rfl rfl ?_
      refine x_iload_n hm rfl rfl ?_
      refine x_if_ne hm rfl (t := 93) rfl (fun h2 => ?_) (fun h2 => ?_)
      · refine x_iload hm rfl rfl ?_
        refine x_i2l hm rfl ?_
        refine x_lmul hm rfl ?_
        refine x_lstore hm rfl rfl ?_
        refine x_iinc hm rfl rfl (v := nI 1) (by decide) rfl ?_
        rw [jI_add]
        refine x_goto hm rfl (t := 76) rfl ?_
        exact ih _ _ (by omega) (by omega)
      · refine x_iload_n hm rfl rfl ?_
        refine x_i2l hm rfl ?_
        refine x_goto hm rfl (t := 96) rfl ?_
        refine x_lmul hm rfl ?_
        refine x_lstore hm rfl rfl ?_
        refine x_iinc hm rfl rfl (v := nI 1) (by decide) rfl ?_
        rw [jI_add]
        refine x_goto hm rfl (t := 76) rfl ?_
        exact ih _ _ (by omega) (by omega)
theorem l84a {a : Nat} {w : Int32} (hW : Wf M) (ha : a ≤ 1000) : ∀ (n b : Nat) (y : Int32), b < n → b ≤ 16 → mEv X (QL (fun _ M' => Cq M M')) 84 45 [some (.ref 0), some (.int (nI a)), some (.int w), some (.int y), some (.int (nI b)), none, none, none] [] (con M) := by
  have hm : mMet 84 = some _ := rfl
  intro n
  induction n with
  | zero =>
    intro b y hb hb16
    omega
  | succ n ih =>
    intro b y hb hb16
    refine x_iload hm rfl rfl ?_
    refine x_iconst hm rfl (v := nI 1) (by decide) ?_
    refine x_icmp_le hm rfl (t := 70) rfl (fun h1 => ?_) (fun h1 => ?_)
    · refine x_lconst hm rfl rfl ?_
      refine x_lstore hm rfl rfl ?_
      refine x_iconst hm rfl (v := nI 0) (by decide) ?_
      refine x_istore hm rfl rfl ?_
      exact l84b hW ha _ 0 _ (Nat.lt_succ_self _) (Nat.zero_le _)
    · obtain ⟨o1, o2, o3⟩ := half_k b hb16 h1
      refine x_iload_n hm rfl rfl ?_
      refine x_iconst hm rfl (v := nI 2) (by decide) ?_
      refine x_irem hm rfl (by decide) ?_
      refine x_if_ne hm rfl (t := 70) rfl (fun h2 => ?_) (fun h2 => ?_)
      · refine x_lconst hm rfl rfl ?_
        refine x_lstore hm rfl rfl ?_
        refine x_iconst hm rfl (v := nI 0) (by decide) ?_
        refine x_istore hm rfl rfl ?_
        exact l84b hW ha _ 0 _ (Nat.lt_succ_self _) (Nat.zero_le _)
      · refine x_iload_n hm rfl rfl ?_
        refine x_iconst hm rfl (v := nI 2) (by decide) ?_
        refine x_idiv hm rfl (by decide) ?_
        refine x_istore_n hm rfl rfl ?_
        refine x_iload hm rfl rfl ?_
        refine x_iconst hm rfl (v := nI 2) (by decide) ?_
        refine x_idiv hm rfl (by decide) ?_
        rw [o3]
        refine x_istore hm rfl rfl ?_
        refine x_goto hm rfl (t := 45) rfl ?_
        exact ih _ _ (by omega) (by omega)
theorem t84 {a1 a2 : Int32} (hW : Wf M) : ∃ v M', mT X 84 [.ref 0, .int a1, .int a2] (con M) (some (.long v)) (con M') ∧ Cq M M' := by
  refine tl_of (row := _) rfl (Nat.le_of_ble_eq_true rfl) ?_
  have hm : mMet 84 = some _ := rfl
  refine x_iload_n hm rfl rfl ?_
  refine x_iconst hm rfl (v := nI 0) (by decide) ?_
  refine x_bipush hm rfl (v := nI 14) (by decide) ?_
  refine x_callS hm rfl rfl (t6) ?_
  refine x_if_eq hm rfl (t := 19) rfl (fun h1 => ?_) (fun h1 => ?_)
  · refine x_aload_n hm rfl rfl ?_
    refine x_ldcI hm rfl (v := (-1000001 : Int32)) (by decide +kernel) ?_
    refine x_cVi hm rfl rfl (t7 (by decide +kernel)) (fun v2 M2 r2 => ?_)
    refine x_i2l hm rfl ?_
    refine x_lret hm rfl rfl ?_
    first
      | exact ⟨_, _, rfl, rfl, r2.2.cq hW⟩
      | exact ⟨_, _, rfl, rfl, Cq.rf hW⟩
      | exact ⟨_, _, rfl, rfl, r1.2.cq hW⟩
      | exact ⟨_, _, rfl, rfl, r3.2.cq hW⟩
      | exact ⟨_, _, rfl, rfl, r4.2.cq hW⟩
      | exact ⟨_, _, rfl, rfl, r5.2.cq hW⟩
      | exact ⟨_, _, rfl, rfl, r6.2.cq hW⟩
      | exact ⟨_, _, rfl, rfl, r7.2.cq hW⟩
      | exact ⟨_, _, rfl, rfl, r8.2.cq hW⟩
      | exact ⟨_, _, rfl, rfl, r9.2.cq hW⟩
      | exact ⟨_, _, rfl, rfl, r10.2.cq hW⟩
      | exact ⟨_, _, rfl, rfl, r11.2.cq hW⟩
  · obtain ⟨a, ha, rfl⟩ := le_k (by omega) (bI_ne0 h1)
    refine x_iload_n hm rfl rfl ?_
    refine x_iconst hm rfl (v := nI 0) (by decide) ?_
    refine x_iconst hm rfl (v := nI 1) (by decide) ?_
    refine x_callS hm rfl rfl (t6) ?_
    refine x_if_ne hm rfl (t := 27) rfl (fun h3 => ?_) (fun h3 => ?_)
    · refine x_bipush hm rfl (v := nI 16) (by decide) ?_
      refine x_aload_n hm rfl rfl ?_
      refine x_getf hm rfl (gR rfl rfl) ?_
      refine x_cVe hm rfl rfl (t85 (by decide) hW) (fun v4 r4 => ?_)
      refine x_cSe hm rfl rfl (t36) (fun v5 r5 => ?_)
      refine x_isub hm rfl ?_
      refine x_istore_n hm rfl rfl ?_
      refine x_bipush hm rfl (v := nI 16) (by decide) ?_
      refine x_istore hm rfl rfl ?_
      exact l84a hW (by omega) _ 16 _ (Nat.lt_succ_self _) (by decide)
    · refine x_aload_n hm rfl rfl ?_
      refine x_ldcI hm rfl (v := (-1000001 : Int32)) (by decide +kernel) ?_
      refine x_cVi hm rfl rfl (t7 (by decide +kernel)) (fun v6 M6 r6 => ?_)
      refine x_i2l hm rfl ?_
      refine x_lret hm rfl rfl ?_
      first
        | exact ⟨_, _, rfl, rfl, r6.2.cq hW⟩
        | exact ⟨_, _, rfl, rfl, Cq.rf hW⟩
        | exact ⟨_, _, rfl, rfl, r1.2.cq hW⟩
        | exact ⟨_, _, rfl, rfl, r2.2.cq hW⟩
        | exact ⟨_, _, rfl, rfl, r3.2.cq hW⟩
        | exact ⟨_, _, rfl, rfl, r4.2.cq hW⟩
        | exact ⟨_, _, rfl, rfl, r5.2.cq hW⟩
        | exact ⟨_, _, rfl, rfl, r7.2.cq hW⟩
        | exact ⟨_, _, rfl, rfl, r8.2.cq hW⟩
        | exact ⟨_, _, rfl, rfl, r9.2.cq hW⟩
        | exact ⟨_, _, rfl, rfl, r10.2.cq hW⟩
        | exact ⟨_, _, rfl, rfl, r11.2.cq hW⟩
theorem t88 {c : Nat} {v : Int32} (hc : M 52 1 = nI c) (h : c < 120) : ∃ M', mT X 88 [.ref 52, .int v] (con M) none (con M') ∧ M' = mput (mput M 53 c v.toInt8.toInt32) 52 1 (nI (c + 1)) := by
  refine tv_of (row := _) rfl (Nat.le_of_ble_eq_true rfl) ?_
  have hm : mMet 88 = some _ := rfl
  refine x_aload_n hm rfl rfl ?_
  refine x_getf hm rfl (gR rfl rfl) ?_
  refine x_aload_n hm rfl rfl ?_
  refine x_getf hm rfl (gI rfl rfl) ?_
  rw [hc]
  refine x_iload_n hm rfl rfl ?_
  refine x_bast hm rfl (sB rfl (by omega) (by decide)) ?_
  refine x_aload_n hm rfl rfl ?_
  refine x_dup hm rfl rfl ?_
  refine x_getf hm rfl (gI rfl rfl) ?_
  rw [mput_ne (a := 53) (i := 52) (by decide), hc]
  refine x_iconst hm rfl (v := nI 1) (by decide) ?_
  refine x_iadd hm rfl ?_
  rw [jI_add]
  refine x_putf hm rfl (pI rfl rfl (by decide) (by first | exact mFit_int | rfl | decide) rfl) ?_
  refine x_ret hm rfl rfl ?_
  exact ⟨_, rfl, rfl, rfl⟩
theorem Ck.tape {v : Int32} {x : Nat} (hW : Wf M) : Ck M (mput M 53 x v) := ⟨hW.put0 (by simp [kd]), fun a ha => mpo (by omega)⟩
theorem l87 {b nn : Int32} : ∀ (n j c : Nat) (M1 : mM), j < n → c + j ≤ 120 → M1 52 1 = nI c → Ck M M1 → mEv X (QI (fun _ M' => Ck M M')) 87 41 [some (.ref 0), some (.int b), some (.int nn), some (.int (nI j + (-1)))] [] (con M1) := by
  have hm : mMet 87 = some _ := rfl
  intro n
  induction n with
  | zero =>
    intro j c M1 hj hc hc1 hS
    omega
  | succ n ih =>
    intro j c M1 hj hc hc1 hS
    refine x_iload_n hm rfl rfl ?_
    refine x_if_lt hm rfl (t := 65) rfl (fun h1 => ?_) (fun h1 => ?_)
    · refine x_aload_n hm rfl rfl ?_
      refine x_getf hm rfl (gR rfl rfl) ?_
      refine x_getf hm rfl (gI rfl rfl) ?_
      refine x_iret hm rfl rfl (by first | rfl | exact bI_nar | decide) ?_
      exact ⟨_, _, rfl, rfl, hS⟩
    · obtain ⟨i, rfl⟩ : ∃ i, j = i + 1 := by
        cases j with
        | zero => exact absurd (by decide) h1
        | succ i => exact ⟨i, rfl⟩
      refine x_aload_n hm rfl rfl ?_
      refine x_getf hm rfl (gR rfl rfl) ?_
      refine x_iload_n hm rfl rfl ?_
      refine x_bipush hm rfl (v := nI 8) (by decide) ?_
      refine x_iload_n hm rfl rfl ?_
      refine x_imul hm rfl ?_
      refine x_ishr hm rfl ?_
      refine x_i2b hm rfl ?_
      refine x_cVv hm rfl rfl (t88 hc1 (by omega)) (fun M2 r2 => ?_)
      refine x_iinc hm rfl rfl (v := (-1 : Int32)) (by decide) rfl ?_
      rw [dec1]
      refine x_goto hm rfl (t := 41) rfl ?_
      subst r2
      exact ih _ (c + 1) _ (by omega) (by omega) mp0 (hS.trans ((Ck.tape hS.1).trans (Ck.reader (Ck.tape hS.1).1 (okI4 (by omega)))))
theorem t87 {a1 a2 : Int32} (hW : Wf M) : ∃ v M', mT X 87 [.ref 0, .int a1, .int a2] (con M) (some (.int v)) (con M') ∧ Ck M M' := by
  refine ti_of (row := _) rfl (Nat.le_of_ble_eq_true rfl) ?_
  have hm : mMet 87 = some _ := rfl
  obtain ⟨c, hc, hc9⟩ := ok4 (show okx 4 (M 52 1) from hW 52 1)
  refine x_iload_n hm rfl rfl ?_
  refine x_iconst hm rfl (v := nI 1) (by decide) ?_
  refine x_iconst hm rfl (v := nI 4) (by decide) ?_
  refine x_callS hm rfl rfl (t6) ?_
  refine x_if_ne hm rfl (t := 16) rfl (fun h1 => ?_) (fun h1 => ?_)
  · obtain ⟨a, ha, ha1, rfl⟩ := le1_k (by omega) (bI_ne0 h1)
    refine x_aload_n hm rfl rfl ?_
    refine x_getf hm rfl (gR rfl rfl) ?_
    refine x_getf hm rfl (gI rfl rfl) ?_
    rw [hc9]
    refine x_iload_n hm rfl rfl ?_
    refine x_iadd hm rfl ?_
    rw [jI_add]
    refine x_bipush hm rfl (v := nI 120) (by decide) ?_
    refine x_icmp_le hm rfl (t := 37) rfl (fun h2 => ?_) (fun h2 => ?_)
    · have hle : c + a ≤ 120 := (jI_le (by omega) (by decide)).mp h2
      refine x_iload_n hm rfl rfl ?_
      refine x_iconst hm rfl (v := nI 1) (by decide) ?_
      refine x_isub hm rfl ?_
      rw [sub1]
      refine x_istore_n hm rfl rfl ?_
      exact l87 _ a c _ (Nat.lt_succ_self _) hle hc9 (Ck.rf hW)
    · refine x_aload_n hm rfl rfl ?_
      refine x_ldcI hm rfl (v := (-1000002 : Int32)) (by decide +kernel) ?_
      refine x_cVi hm rfl rfl (t7 (by decide +kernel)) (fun v3 M3 r3 => ?_)
      refine x_iret hm rfl rfl (by first | rfl | exact bI_nar | decide) ?_
      first
        | exact ⟨_, _, rfl, rfl, r3.2.ck hW⟩
        | exact ⟨_, _, rfl, rfl, r3.ck hW⟩
        | exact ⟨_, _, rfl, rfl, Ck.rf hW⟩
        | exact ⟨_, _, rfl, rfl, r1.2.ck hW⟩
        | exact ⟨_, _, rfl, rfl, r2.2.ck hW⟩
        | exact ⟨_, _, rfl, rfl, r4.2.ck hW⟩
        | exact ⟨_, _, rfl, rfl, r5.2.ck hW⟩
        | exact ⟨_, _, rfl, rfl, r6.2.ck hW⟩
        | exact ⟨_, _, rfl, rfl, r7.2.ck hW⟩
        | exact ⟨_, _, rfl, rfl, r8.2.ck hW⟩
        | exact ⟨_, _, rfl, rfl, r9.2.ck hW⟩
        | exact ⟨_, _, rfl, rfl, r10.2.ck hW⟩
        | exact ⟨_, _, rfl, rfl, r11.2.ck hW⟩
        | exact ⟨_, _, rfl, rfl, r12.2.ck hW⟩
        | exact ⟨_, _, rfl, rfl, r13.2.ck hW⟩
        | exact ⟨_, _, rfl, rfl, r14.2.ck hW⟩
        | exact ⟨_, _, rfl, rfl, r15.2.ck hW⟩
        | exact ⟨_, _, rfl, rfl, r16.2.ck hW⟩
        | exact ⟨_, _, rfl, rfl, r17.2.ck hW⟩
        | exact ⟨_, _, rfl, rfl, r18.2.ck hW⟩
        | exact ⟨_, _, rfl, rfl, r19.2.ck hW⟩
        | exact ⟨_, _, rfl, rfl, r1.ck hW⟩
        | exact ⟨_, _, rfl, rfl, r2.ck hW⟩
        | exact ⟨_, _, rfl, rfl, r4.ck hW⟩
        | exact ⟨_, _, rfl, rfl, r5.ck hW⟩
        | exact ⟨_, _, rfl, rfl, r6.ck hW⟩
        | exact ⟨_, _, rfl, rfl, r7.ck hW⟩
        | exact ⟨_, _, rfl, rfl, r8.ck hW⟩
        | exact ⟨_, _, rfl, rfl, r9.ck hW⟩
        | exact ⟨_, _, rfl, rfl, r10.ck hW⟩
        | exact ⟨_, _, rfl, rfl, r11.ck hW⟩
  · refine x_aload_n hm rfl rfl ?_
    refine x_ldcI hm rfl (v := (-1000001 : Int32)) (by decide +kernel) ?_
    refine x_cVi hm rfl rfl (t7 (by decide +kernel)) (fun v4 M4 r4 => ?_)
    refine x_iret hm rfl rfl (by first | rfl | exact bI_nar | decide) ?_
    first
      | exact ⟨_, _, rfl, rfl, r4.2.ck hW⟩
      | exact ⟨_, _, rfl, rfl, r4.ck hW⟩
      | exact ⟨_, _, rfl, rfl, Ck.rf hW⟩
      | exact ⟨_, _, rfl, rfl, r1.2.ck hW⟩
      | exact ⟨_, _, rfl, rfl, r2.2.ck hW⟩
      | exact ⟨_, _, rfl, rfl, r3.2.ck hW⟩
      | exact ⟨_, _, rfl, rfl, r5.2.ck hW⟩
      | exact ⟨_, _, rfl, rfl, r6.2.ck hW⟩
      | exact ⟨_, _, rfl, rfl, r7.2.ck hW⟩
      | exact ⟨_, _, rfl, rfl, r8.2.ck hW⟩
      | exact ⟨_, _, rfl, rfl, r9.2.ck hW⟩
      | exact ⟨_, _, rfl, rfl, r10.2.ck hW⟩
      | exact ⟨_, _, rfl, rfl, r11.2.ck hW⟩
      | exact ⟨_, _, rfl, rfl, r12.2.ck hW⟩
      | exact ⟨_, _, rfl, rfl, r13.2.ck hW⟩
      | exact ⟨_, _, rfl, rfl, r14.2.ck hW⟩
      | exact ⟨_, _, rfl, rfl, r15.2.ck hW⟩
      | exact ⟨_, _, rfl, rfl, r16.2.ck hW⟩
      | exact ⟨_, _, rfl, rfl, r17.2.ck hW⟩
      | exact ⟨_, _, rfl, rfl, r18.2.ck hW⟩
      | exact ⟨_, _, rfl, rfl, r19.2.ck hW⟩
      | exact ⟨_, _, rfl, rfl, r1.ck hW⟩
      | exact ⟨_, _, rfl, rfl, r2.ck hW⟩
      | exact ⟨_, _, rfl, rfl, r3.ck hW⟩
      | exact ⟨_, _, rfl, rfl, r5.ck hW⟩
      | exact ⟨_, _, rfl, rfl, r6.ck hW⟩
      | exact ⟨_, _, rfl, rfl, r7.ck hW⟩
      | exact ⟨_, _, rfl, rfl, r8.ck hW⟩
      | exact ⟨_, _, rfl, rfl, r9.ck hW⟩
      | exact ⟨_, _, rfl, rfl, r10.ck hW⟩
      | exact ⟨_, _, rfl, rfl, r11.ck hW⟩
end CG
end
section
/-! ===== the class: sheets ===== -/
section CH
variable {X : mSc} {Q : Option Value → mHp → Prop} {M : mM} {s : Nat}
theorem sO (hs : s ≤ 3) : mSp[2 * s + 58]? = some (5, 0, [2 * s + 60, 0, 0]) := by
  rcases (by omega : s = 0 ∨ s = 1 ∨ s = 2 ∨ s = 3) with rfl | rfl | rfl | rfl <;> rfl
theorem sRow (hs : s ≤ 3) : mSp[2 * s + 59]? = some (0, 40, []) := by
  rcases (by omega : s = 0 ∨ s = 1 ∨ s = 2 ∨ s = 3) with rfl | rfl | rfl | rfl <;> rfl
theorem shk (hs : s ≤ 3) : ([58, 60, 62, 64] : List Nat)[s]? = some (2 * s + 58) := by
  rcases (by omega : s = 0 ∨ s = 1 ∨ s = 2 ∨ s = 3) with rfl | rfl | rfl | rfl <;> rfl
theorem kdS (hs : s ≤ 3) {c : Nat} : kd (2 * s + 58) c = if c = 2 then 5 else 0 := by
  rcases (by omega : s = 0 ∨ s = 1 ∨ s = 2 ∨ s = 3) with rfl | rfl | rfl | rfl <;> rfl
theorem kdSr (hs : s ≤ 3) {c : Nat} : kd (2 * s + 59) c = 0 := by
  rcases (by omega : s = 0 ∨ s = 1 ∨ s = 2 ∨ s = 3) with rfl | rfl | rfl | rfl <;> rfl
theorem mCallSh {ins : Instr} {len j kd a n pc : Nat} {z : Int} {L : mLoc} {st as r : List Value} {rw2 : mRow} (hs : s ≤ 3) (hk : kd = 10 ∨ kd = 11) (h1 : (st.take n).reverse = .ref (2 * s + 58) :: as) (h2 : st.drop n = r) (h3 : (Nat.ble n st.length && mC1 (st.take n) && Nat.ble (mWt (st.drop n)) 8) = true) (h4 : mMet a = some rw2) (h5 : rw2.1 = 0) :
    mCall (ins, len, j, kd, a, n, z) true pc L st (con M) = some (.inr (.inr (a, .ref (2 * s + 58) :: as, r))) := by
  have hr : mRcv (con M) (st.take n).reverse a = true := by
    have hD := con_obj (M := M) (sO hs)
    unfold mRcv
    rw [h1]
    dsimp only
    rw [hD, h4]
    dsimp only
    rw [h5]
    rfl
  have key : cond (Nat.ble n st.length && mC1 (st.take n) && Nat.ble (mWt (st.drop n)) 8 && (!true || mRcv (con M) (st.take n).reverse a)) (some ((.inr (.inr (a, (st.take n).reverse, st.drop n))) : mRes)) none = some (.inr (.inr (a, .ref (2 * s + 58) :: as, r))) := by
    rw [h3, hr, h1, h2]
    rfl
  rcases hk with rfl | rfl <;> exact key
theorem Wf.len (hW : Wf M) (hs : s ≤ 3) : ∃ z, z ≤ 40 ∧ M (2 * s + 58) 2 = nI z := by
  have := hW (2 * s + 58) 2
  rw [kdS hs] at this
  exact ok5 this
theorem Tw.row39 {c : Nat} {v : Int32} (hs : s ≤ 3) : Tw 58 M (mput M (2 * s + 59) c v) := Tw.put (by rw [kdSr hs]; trivial) (by omega) (by omega) (fun h => by omega)
theorem Tw.sh {c : Nat} {v : Int32} (hs : s ≤ 3) (hv : okx (if c = 2 then 5 else 0) v) : Tw 58 M (mput M (2 * s + 58) c v) := Tw.put (by rw [kdS hs]; exact hv) (by omega) (by omega) (fun h => by omega)
theorem t78 {v : Int32} : mT X 78 [.int v] (con M) (some (.int (bI (nI 0 ≤ v ∧ v ≤ nI 3)))) (con M) := by
  refine mT.of (row := _) rfl (Nat.le_of_ble_eq_true rfl) ?_
  have hm : mMet 78 = some _ := rfl
  refine x_iload_n hm rfl rfl ?_
  refine x_iconst hm rfl (v := nI 0) (by decide) ?_
  refine x_iconst hm rfl (v := nI 3) (by decide) ?_
  refine x_callS hm rfl rfl (t6) ?_
  refine x_iret hm rfl rfl (by first | rfl | exact bI_nar | decide) ?_
  exact qt rfl
theorem t79 (hs : s ≤ 3) : mT X 79 [.ref (2 * s + 58)] (con M) (some (.int (bI (M (2 * s + 58) 1 = 0)))) (con M) := by
  refine mT.of (row := _) rfl (Nat.le_of_ble_eq_true rfl) ?_
  have hm : mMet 79 = some _ := rfl
  refine x_aload_n hm rfl rfl ?_
  refine x_getf hm rfl (by first | exact gI (sO hs) rfl) ?_
  refine x_if_ne hm rfl (t := 11) rfl (fun h1 => ?_) (fun h1 => ?_)
  · refine x_iconst hm rfl (v := nI 0) (by decide) ?_
    refine x_iret hm rfl rfl (by first | rfl | exact bI_nar | decide) ?_
    exact qt (congrArg Value.int (by first | exact bI_t h1 | exact bI_f h1))
  · refine x_iconst hm rfl (v := nI 1) (by decide) ?_
    refine x_goto hm rfl (t := 12) rfl ?_
    refine x_iret hm rfl rfl (by first | rfl | exact bI_nar | decide) ?_
    exact qt (congrArg Value.int (by first | exact bI_t h1 | exact bI_f h1))
theorem t77 {a1 : Int32} : ∃ v, mT X 77 [.ref 0, .int a1] (con M) (some (.int v)) (con M) ∧ (FD v ∨ (v = nI 0 ∧ ∃ s, s ≤ 3 ∧ a1 = nI s)) := by
  refine te_of (row := _) rfl (Nat.le_of_ble_eq_true rfl) ?_
  have hm : mMet 77 = some _ := rfl
  refine x_iload_n hm rfl rfl ?_
  refine x_callS hm rfl rfl (t78) ?_
  refine x_if_ne hm rfl (t := 10) rfl (fun h1 => ?_) (fun h1 => ?_)
  · obtain ⟨s, hs, rfl⟩ := le_k (by omega) (bI_ne0 h1)
    refine x_aload_n hm rfl rfl ?_
    refine x_getf hm rfl (gR rfl rfl) ?_
    refine x_iload_n hm rfl rfl ?_
    refine x_aald hm rfl (by first | exact lQ 2 (Or.inl rfl) rfl (shk hs) (by omega) (by decide) | exact lQ 3 (Or.inr (Or.inl rfl)) rfl rfl (by omega) (by decide)) ?_
    refine x_callV hm rfl (by first | exact mCallSh hs (by decide) rfl rfl rfl rfl rfl) (t79 hs) ?_
    refine x_if_eq hm rfl (t := 27) rfl (fun h2 => ?_) (fun h2 => ?_)
    · refine x_iconst hm rfl (v := nI 0) (by decide) ?_
      refine x_iret hm rfl rfl (by first | rfl | exact bI_nar | decide) ?_
      exact ⟨_, rfl, rfl, by first | exact Or.inl (by decide) | exact Or.inr ⟨rfl, s, hs, rfl⟩⟩
    · refine x_ldcI hm rfl (v := (-1000006 : Int32)) (by decide +kernel) ?_
      refine x_goto hm rfl (t := 28) rfl ?_
      refine x_iret hm rfl rfl (by first | rfl | exact bI_nar | decide) ?_
      exact ⟨_, rfl, rfl, by first | exact Or.inl (by decide) | exact Or.inr ⟨rfl, s, hs, rfl⟩⟩
  · refine x_ldcI hm rfl (v := (-1000001 : Int32)) (by decide +kernel) ?_
    refine x_iret hm rfl rfl (by first | rfl | exact bI_nar | decide) ?_
    exact ⟨_, rfl, rfl, by first | exact Or.inl (by decide) | exact Or.inr ⟨rfl, s, hs, rfl⟩⟩
theorem FD_ne {v : Int32} (h : FD v) : ¬ v = 0 := by
  rcases h with rfl | rfl | rfl | rfl | rfl | rfl | rfl <;> decide
theorem t76 {a1 a2 a3 : Int32} (hW : Wf M) : ∃ v, mT X 76 [.ref 0, .int a1, .int a2, .int a3] (con M) (some (.int v)) (con M) ∧ (FD v ∨ (v = nI 0 ∧ ∃ s t p, s ≤ 3 ∧ t < 8 ∧ p < 8 ∧ a1 = nI s ∧ a2 = nI p ∧ a3 = nI t)) := by
  refine te_of (row := _) rfl (Nat.le_of_ble_eq_true rfl) ?_
  have hm : mMet 76 = some _ := rfl
  obtain ⟨nt, hn8, hnt⟩ := hW.ct (b := 1) (by decide)
  obtain ⟨np, hp8, hnp⟩ := hW.cpn (b := 1) (by decide)
  refine x_aload_n hm rfl rfl ?_
  refine x_iload_n hm rfl rfl ?_
  refine x_cVe hm rfl rfl (t77) (fun v1 r1 => ?_)
  refine x_istore hm rfl rfl ?_
  refine x_iload hm rfl rfl ?_
  refine x_if_eq hm rfl (t := 15) rfl (fun h2 => ?_) (fun h2 => ?_)
  · obtain ⟨s, hs, rfl⟩ := (r1.resolve_left (fun e => FD_ne e h2)).2
    refine x_aload_n hm rfl rfl ?_
    refine x_getf hm rfl (gR rfl rfl) ?_
    refine x_iload_n hm rfl rfl ?_
    refine x_callV hm rfl rfl (t19 (by decide)) ?_
    refine x_if_eq hm rfl (t := 41) rfl (fun h3 => ?_) (fun h3 => ?_)
    · refine x_ldcI hm rfl (v := (-1000001 : Int32)) (by decide +kernel) ?_
      refine x_iret hm rfl rfl (by first | rfl | exact bI_nar | decide) ?_
      exact ⟨_, rfl, rfl, by first | exact Or.inl (by decide) | exact Or.inl (r1.resolve_right (fun e => h2 e.1)) | exact Or.inr ⟨rfl, s, t, p, hs, by omega, by omega, rfl, rfl, rfl⟩⟩
    · obtain ⟨p, hp, rfl⟩ := in_k hnp (by omega) (bI_ne0 h3)
      refine x_aload_n hm rfl rfl ?_
      refine x_getf hm rfl (gR rfl rfl) ?_
      refine x_iload_n hm rfl rfl ?_
      refine x_callV hm rfl rfl (t10 (by decide)) ?_
      refine x_if_eq hm rfl (t := 41) rfl (fun h4 => ?_) (fun h4 => ?_)
      · refine x_ldcI hm rfl (v := (-1000001 : Int32)) (by decide +kernel) ?_
        refine x_iret hm rfl rfl (by first | rfl | exact bI_nar | decide) ?_
        exact ⟨_, rfl, rfl, by first | exact Or.inl (by decide) | exact Or.inl (r1.resolve_right (fun e => h2 e.1)) | exact Or.inr ⟨rfl, s, t, p, hs, by omega, by omega, rfl, rfl, rfl⟩⟩
      · obtain ⟨t, ht, rfl⟩ := in_k hnt (by omega) (bI_ne0 h4)
        refine x_iconst hm rfl (v := nI 0) (by decide) ?_
        refine x_goto hm rfl (t := 43) rfl ?_
        refine x_iret hm rfl rfl (by first | rfl | exact bI_nar | decide) ?_
        exact ⟨_, rfl, rfl, by first | exact Or.inl (by decide) | exact Or.inl (r1.resolve_right (fun e => h2 e.1)) | exact Or.inr ⟨rfl, s, t, p, hs, by omega, by omega, rfl, rfl, rfl⟩⟩
  · refine x_iload hm rfl rfl ?_
    refine x_iret hm rfl rfl (by first | rfl | exact bI_nar | decide) ?_
    exact ⟨_, rfl, rfl, by first | exact Or.inl (by decide) | exact Or.inl (r1.resolve_right (fun e => h2 e.1)) | exact Or.inr ⟨rfl, s, t, p, hs, by omega, by omega, rfl, rfl, rfl⟩⟩
theorem l117 {a1 a2 : Int32} (hs : s ≤ 3) : ∀ (n k : Nat) (M1 : mM), 40 - k < n → k ≤ 40 → Tw 58 M M1 → mEv X (QV (fun M' => Tw 58 M M')) 117 20 [some (.ref (2 * s + 58)), some (.int a1), some (.int a2), some (.int (nI k))] [] (con M1) := by
  have hm : mMet 117 = some _ := rfl
  intro n
  induction n with
  | zero =>
    intro k M1 hkn hkb hT
    omega
  | succ n ih =>
    intro k M1 hkn hkb hT
    refine x_iload_n hm rfl rfl ?_
    refine x_bipush hm rfl (v := nI 40) (by decide) ?_
    refine x_icmp_ge hm rfl (t := 39) rfl (fun h1 => ?_) (fun h1 => ?_)
    · refine x_ret hm rfl rfl ?_
      exact ⟨_, rfl, rfl, hT⟩
    · have hk : k < 40 := Nat.lt_of_not_le fun h => h1 (nI_le h (by omega))
      refine x_aload_n hm rfl rfl ?_
      refine x_getf hm rfl (by first | exact gR (sO hs) rfl) ?_
      refine x_iload_n hm rfl rfl ?_
      refine x_iconst hm rfl (v := nI 0) (by decide) ?_
      refine x_iast hm rfl (by first | exact sI (sRow hs) (by omega) (by decide) | exact sI rfl (by omega) (by decide)) ?_
      refine x_iinc hm rfl rfl (v := nI 1) (by decide) rfl ?_
      rw [jI_add]
      refine x_goto hm rfl (t := 20) rfl ?_
      exact ih _ _ (by omega) (by omega) (hT.trans (Tw.row39 hs))
theorem t117 {z : Nat} {a1 : Int32} (hs : s ≤ 3) (hz : z ≤ 40) : ∃ M', mT X 117 [.ref (2 * s + 58), .int a1, .int (nI z)] (con M) none (con M') ∧ Tw 58 M M' := by
  refine tv_of (row := _) rfl (Nat.le_of_ble_eq_true rfl) ?_
  have hm : mMet 117 = some _ := rfl
  refine x_aload_n hm rfl rfl ?_
  refine x_iload_n hm rfl rfl ?_
  refine x_putf hm rfl (pI (sO hs) rfl (by decide) (by first | exact mFit_int | rfl | decide) rfl) ?_
  refine x_aload_n hm rfl rfl ?_
  refine x_iload_n hm rfl rfl ?_
  refine x_if_ne hm rfl (t := 14) rfl (fun h1 => ?_) (fun h1 => ?_)
  · refine x_iload_n hm rfl rfl ?_
    refine x_putf hm rfl (pI (sO hs) rfl (by decide) (by first | exact mFit_int | rfl | decide) rfl) ?_
    refine x_iconst hm rfl (v := nI 0) (by decide) ?_
    refine x_istore_n hm rfl rfl ?_
    exact l117 hs _ 0 _ (Nat.lt_succ_self _) (Nat.zero_le _) ((Tw.sh (c := 1) hs trivial).trans (Tw.sh (c := 2) hs (okI5 (by omega))))
  · refine x_iconst hm rfl (v := nI 0) (by decide) ?_
    refine x_goto hm rfl (t := 15) rfl ?_
    refine x_putf hm rfl (pI (sO hs) rfl (by decide) (by first | exact mFit_int | rfl | decide) rfl) ?_
    refine x_iconst hm rfl (v := nI 0) (by decide) ?_
    refine x_istore_n hm rfl rfl ?_
    exact l117 hs _ 0 _ (Nat.lt_succ_self _) (Nat.zero_le _) ((Tw.sh (c := 1) hs trivial).trans (Tw.sh (c := 2) hs (okI5 (by omega))))
theorem t119 {i : Nat} {v : Int32} (hs : s ≤ 3) (hi : i < 40) : ∃ M', mT X 119 [.ref (2 * s + 58), .int (nI i), .int v] (con M) none (con M') ∧ Tw 58 M M' := by
  refine tv_of (row := _) rfl (Nat.le_of_ble_eq_true rfl) ?_
  have hm : mMet 119 = some _ := rfl
  refine x_aload_n hm rfl rfl ?_
  refine x_getf hm rfl (by first | exact gI (sO hs) rfl) ?_
  refine x_bipush hm rfl (v := nI 8) (by decide) ?_
  refine x_icmp_ne hm rfl (t := 20) rfl (fun h1 => ?_) (fun h1 => ?_)
  · refine x_aload_n hm rfl rfl ?_
    refine x_getf hm rfl (by first | exact gI (sO hs) rfl) ?_
    refine x_bipush hm rfl (v := nI 16) (by decide) ?_
    refine x_icmp_ne hm rfl (t := 40) rfl (fun h2 => ?_) (fun h2 => ?_)
    · refine x_aload_n hm rfl rfl ?_
      refine x_getf hm rfl (by first | exact gR (sO hs) rfl) ?_
      refine x_iload_n hm rfl rfl ?_
      refine x_iload_n hm rfl rfl ?_
      refine x_iast hm rfl (by first | exact sI (sRow hs) (by omega) (by decide) | exact sI rfl (by omega) (by decide)) ?_
      refine x_ret hm rfl rfl ?_
      exact ⟨_, rfl, rfl, Tw.row39 hs⟩
    · refine x_aload_n hm rfl rfl ?_
      refine x_getf hm rfl (by first | exact gR (sO hs) rfl) ?_
      refine x_iload_n hm rfl rfl ?_
      refine x_iload_n hm rfl rfl ?_
      refine x_i2s hm rfl ?_
      refine x_iast hm rfl (by first | exact sI (sRow hs) (by omega) (by decide) | exact sI rfl (by omega) (by decide)) ?_
      refine x_goto hm rfl (t := 47) rfl ?_
      refine x_ret hm rfl rfl ?_
      exact ⟨_, rfl, rfl, Tw.row39 hs⟩
  · refine x_aload_n hm rfl rfl ?_
    refine x_getf hm rfl (by first | exact gR (sO hs) rfl) ?_
    refine x_iload_n hm rfl rfl ?_
    refine x_iload_n hm rfl rfl ?_
    refine x_i2b hm rfl ?_
    refine x_iast hm rfl (by first | exact sI (sRow hs) (by omega) (by decide) | exact sI rfl (by omega) (by decide)) ?_
    refine x_goto hm rfl (t := 47) rfl ?_
    refine x_ret hm rfl rfl ?_
    exact ⟨_, rfl, rfl, Tw.row39 hs⟩
theorem t116 {a1 a2 a3 : Int32} (hW : Wf M) : ∃ v M', mT X 116 [.ref 0, .int a1, .int a2, .int a3] (con M) (some (.int v)) (con M') ∧ Ck M M' := by
  refine ti_of (row := _) rfl (Nat.le_of_ble_eq_true rfl) ?_
  have hm : mMet 116 = some _ := rfl
  refine x_iload_n hm rfl rfl ?_
  refine x_callS hm rfl rfl (t78) ?_
  refine x_if_eq hm rfl (t := 29) rfl (fun h1 => ?_) (fun h1 => ?_)
  · refine x_aload_n hm rfl rfl ?_
    refine x_ldcI hm rfl (v := (-1000001 : Int32)) (by decide +kernel) ?_
    refine x_cVi hm rfl rfl (t7 (by decide +kernel)) (fun v2 M2 r2 => ?_)
    refine x_iret hm rfl rfl (by first | rfl | exact bI_nar | decide) ?_
    first
      | exact ⟨_, _, rfl, rfl, r2.2.ck hW⟩
      | exact ⟨_, _, rfl, rfl, r2.ck hW⟩
      | exact ⟨_, _, rfl, rfl, Ck.rf hW⟩
      | exact ⟨_, _, rfl, rfl, r1.2.ck hW⟩
      | exact ⟨_, _, rfl, rfl, r3.2.ck hW⟩
      | exact ⟨_, _, rfl, rfl, r4.2.ck hW⟩
      | exact ⟨_, _, rfl, rfl, r5.2.ck hW⟩
      | exact ⟨_, _, rfl, rfl, r6.2.ck hW⟩
      | exact ⟨_, _, rfl, rfl, r7.2.ck hW⟩
      | exact ⟨_, _, rfl, rfl, r8.2.ck hW⟩
      | exact ⟨_, _, rfl, rfl, r9.2.ck hW⟩
      | exact ⟨_, _, rfl, rfl, r10.2.ck hW⟩
      | exact ⟨_, _, rfl, rfl, r11.2.ck hW⟩
      | exact ⟨_, _, rfl, rfl, r12.2.ck hW⟩
      | exact ⟨_, _, rfl, rfl, r13.2.ck hW⟩
      | exact ⟨_, _, rfl, rfl, r14.2.ck hW⟩
      | exact ⟨_, _, rfl, rfl, r15.2.ck hW⟩
      | exact ⟨_, _, rfl, rfl, r16.2.ck hW⟩
      | exact ⟨_, _, rfl, rfl, r17.2.ck hW⟩
      | exact ⟨_, _, rfl, rfl, r18.2.ck hW⟩
      | exact ⟨_, _, rfl, rfl, r19.2.ck hW⟩
      | exact ⟨_, _, rfl, rfl, r1.ck hW⟩
      | exact ⟨_, _, rfl, rfl, r3.ck hW⟩
      | exact ⟨_, _, rfl, rfl, r4.ck hW⟩
      | exact ⟨_, _, rfl, rfl, r5.ck hW⟩
      | exact ⟨_, _, rfl, rfl, r6.ck hW⟩
      | exact ⟨_, _, rfl, rfl, r7.ck hW⟩
      | exact ⟨_, _, rfl, rfl, r8.ck hW⟩
      | exact ⟨_, _, rfl, rfl, r9.ck hW⟩
      | exact ⟨_, _, rfl, rfl, r10.ck hW⟩
      | exact ⟨_, _, rfl, rfl, r11.ck hW⟩
      | exact ⟨_, _, rfl, rfl, r12.ck hW⟩
      | exact ⟨_, _, rfl, rfl, r13.ck hW⟩
      | exact ⟨_, _, rfl, rfl, r14.ck hW⟩
      | exact ⟨_, _, rfl, rfl, r15.ck hW⟩
      | exact ⟨_, _, rfl, rfl, r16.ck hW⟩
      | exact ⟨_, _, rfl, rfl, r17.ck hW⟩
      | exact ⟨_, _, rfl, rfl, r18.ck hW⟩
      | exact ⟨_, _, rfl, rfl, r19.ck hW⟩
      | exact ⟨_, _, rfl, rfl, r20.ck hW⟩
      | exact ⟨_, _, rfl, rfl, r21.ck hW⟩
      | exact ⟨_, _, rfl, rfl, r22.ck hW⟩
      | exact ⟨_, _, rfl, rfl, r23.ck hW⟩
      | exact ⟨_, _, rfl, rfl, r24.ck hW⟩
      | exact ⟨_, _, rfl, rfl, r25.ck hW⟩
      | exact ⟨_, _, rfl, rfl, r26.ck hW⟩
      | exact ⟨_, _, rfl, rfl, r27.ck hW⟩
      | exact ⟨_, _, rfl, rfl, r28.ck hW⟩
      | exact ⟨_, _, rfl, rfl, r29.ck hW⟩
      | exact ⟨_, _, rfl, rfl, r20.2.ck hW⟩
      | exact ⟨_, _, rfl, rfl, r21.2.ck hW⟩
      | exact ⟨_, _, rfl, rfl, r22.2.ck hW⟩
      | exact ⟨_, _, rfl, rfl, r23.2.ck hW⟩
      | exact ⟨_, _, rfl, rfl, r24.2.ck hW⟩
      | exact ⟨_, _, rfl, rfl, r25.2.ck hW⟩
      | exact ⟨_, _, rfl, rfl, r26.2.ck hW⟩
      | exact ⟨_, _, rfl, rfl, r27.2.ck hW⟩
      | exact ⟨_, _, rfl, rfl, r28.2.ck hW⟩
      | exact ⟨_, _, rfl, rfl, r29.2.ck hW⟩
      | exact ⟨_, _, rfl, rfl, r30.2.ck hW⟩
      | exact ⟨_, _, rfl, rfl, r31.2.ck hW⟩
      | exact ⟨_, _, rfl, rfl, r32.2.ck hW⟩
      | exact ⟨_, _, rfl, rfl, r33.2.ck hW⟩
      | exact ⟨_, _, rfl, rfl, r34.2.ck hW⟩
      | exact ⟨_, _, rfl, rfl, r35.2.ck hW⟩
      | exact ⟨_, _, rfl, rfl, r36.2.ck hW⟩
      | exact ⟨_, _, rfl, rfl, r37.2.ck hW⟩
      | exact ⟨_, _, rfl, rfl, r38.2.ck hW⟩
      | exact ⟨_, _, rfl, rfl, r39.2.ck hW⟩
  · obtain ⟨s, hs, rfl⟩ := le_k (by omega) (bI_ne0 h1)
    refine x_iload_n hm rfl rfl ?_
    refine x_if_eq hm rfl (t := 36) rfl (fun h3 => ?_) (fun h3 => ?_)
    · refine x_iload_n hm rfl rfl ?_
      refine x_if_ge hm rfl (t := 47) rfl (fun h4 => ?_) (fun h4 => ?_)
      · have hn0 : ¬ a3 < 0 := fun q => Int32.not_lt.mpr h4 q
        refine x_iload_n hm rfl rfl ?_
        refine x_bipush hm rfl (v := nI 40) (by decide) ?_
        refine x_icmp_le hm rfl (t := 60) rfl (fun h5 => ?_) (fun h5 => ?_)
        · obtain ⟨z, hz, rfl⟩ : ∃ z, z ≤ 40 ∧ a3 = nI z := by
            obtain ⟨z, hz, rfl⟩ := jI_of (v := a3) hn0
            exact ⟨z, (jI_le hz (by decide)).mp h5, rfl⟩
          refine x_aload_n hm rfl rfl ?_
          refine x_getf hm rfl (gR rfl rfl) ?_
          refine x_iload_n hm rfl rfl ?_
          refine x_aald hm rfl (by first | exact lQ 2 (Or.inl rfl) rfl (shk hs) (by omega) (by decide) | exact lQ 3 (Or.inr (Or.inl rfl)) rfl rfl (by omega) (by decide)) ?_
          refine x_iload_n hm rfl rfl ?_
          refine x_iload_n hm rfl rfl ?_
          refine x_cVv hm rfl (by first | exact mCallSh hs (by decide) rfl rfl rfl rfl rfl) (t117 hs hz) (fun M6 r6 => ?_)
          refine x_aload_n hm rfl rfl ?_
          refine x_getf hm rfl (gR rfl rfl) ?_
          refine x_iload_n hm rfl rfl ?_
          refine x_aald hm rfl (by first | exact lQ 2 (Or.inl rfl) rfl (shk hs) (by omega) (by decide) | exact lQ 3 (Or.inr (Or.inl rfl)) rfl rfl (by omega) (by decide)) ?_
          refine x_getf hm rfl (by first | exact gI (sO hs) rfl) ?_
          refine x_iret hm rfl rfl (by first | rfl | exact bI_nar | decide) ?_
          first
            | exact ⟨_, _, rfl, rfl, r6.2.ck hW⟩
            | exact ⟨_, _, rfl, rfl, r6.ck hW⟩
            | exact ⟨_, _, rfl, rfl, Ck.rf hW⟩
            | exact ⟨_, _, rfl, rfl, r1.2.ck hW⟩
            | exact ⟨_, _, rfl, rfl, r2.2.ck hW⟩
            | exact ⟨_, _, rfl, rfl, r3.2.ck hW⟩
            | exact ⟨_, _, rfl, rfl, r4.2.ck hW⟩
            | exact ⟨_, _, rfl, rfl, r5.2.ck hW⟩
            | exact ⟨_, _, rfl, rfl, r7.2.ck hW⟩
            | exact ⟨_, _, rfl, rfl, r8.2.ck hW⟩
            | exact ⟨_, _, rfl, rfl, r9.2.ck hW⟩
            | exact ⟨_, _, rfl, rfl, r10.2.ck hW⟩
            | exact ⟨_, _, rfl, rfl, r11.2.ck hW⟩
            | exact ⟨_, _, rfl, rfl, r12.2.ck hW⟩
            | exact ⟨_, _, rfl, rfl, r13.2.ck hW⟩
            | exact ⟨_, _, rfl, rfl, r14.2.ck hW⟩
            | exact ⟨_, _, rfl, rfl, r15.2.ck hW⟩
            | exact ⟨_, _, rfl, rfl, r16.2.ck hW⟩
            | exact ⟨_, _, rfl, rfl, r17.2.ck hW⟩
            | exact ⟨_, _, rfl, rfl, r18.2.ck hW⟩
            | exact ⟨_, _, rfl, rfl, r19.2.ck hW⟩
            | exact ⟨_, _, rfl, rfl, r1.ck hW⟩
            | exact ⟨_, _, rfl, rfl, r2.ck hW⟩
            | exact ⟨_, _, rfl, rfl, r3.ck hW⟩
            | exact ⟨_, _, rfl, rfl, r4.ck hW⟩
            | exact ⟨_, _, rfl, rfl, r5.ck hW⟩
            | exact ⟨_, _, rfl, rfl, r7.ck hW⟩
            | exact ⟨_, _, rfl, rfl, r8.ck hW⟩
            | exact ⟨_, _, rfl, rfl, r9.ck hW⟩
            | exact ⟨_, _, rfl, rfl, r10.ck hW⟩
            | exact ⟨_, _, rfl, rfl, r11.ck hW⟩
            | exact ⟨_, _, rfl, rfl, r12.ck hW⟩
            | exact ⟨_, _, rfl, rfl, r13.ck hW⟩
            | exact ⟨_, _, rfl, rfl, r14.ck hW⟩
            | exact ⟨_, _, rfl, rfl, r15.ck hW⟩
            | exact ⟨_, _, rfl, rfl, r16.ck hW⟩
            | exact ⟨_, _, rfl, rfl, r17.ck hW⟩
            | exact ⟨_, _, rfl, rfl, r18.ck hW⟩
            | exact ⟨_, _, rfl, rfl, r19.ck hW⟩
            | exact ⟨_, _, rfl, rfl, r20.ck hW⟩
            | exact ⟨_, _, rfl, rfl, r21.ck hW⟩
            | exact ⟨_, _, rfl, rfl, r22.ck hW⟩
            | exact ⟨_, _, rfl, rfl, r23.ck hW⟩
            | exact ⟨_, _, rfl, rfl, r24.ck hW⟩
            | exact ⟨_, _, rfl, rfl, r25.ck hW⟩
            | exact ⟨_, _, rfl, rfl, r26.ck hW⟩
            | exact ⟨_, _, rfl, rfl, r27.ck hW⟩
            | exact ⟨_, _, rfl, rfl, r28.ck hW⟩
            | exact ⟨_, _, rfl, rfl, r29.ck hW⟩
            | exact ⟨_, _, rfl, rfl, r20.2.ck hW⟩
            | exact ⟨_, _, rfl, rfl, r21.2.ck hW⟩
            | exact ⟨_, _, rfl, rfl, r22.2.ck hW⟩
            | exact ⟨_, _, rfl, rfl, r23.2.ck hW⟩
            | exact ⟨_, _, rfl, rfl, r24.2.ck hW⟩
            | exact ⟨_, _, rfl, rfl, r25.2.ck hW⟩
            | exact ⟨_, _, rfl, rfl, r26.2.ck hW⟩
            | exact ⟨_, _, rfl, rfl, r27.2.ck hW⟩
            | exact ⟨_, _, rfl, rfl, r28.2.ck hW⟩
            | exact ⟨_, _, rfl, rfl, r29.2.ck hW⟩
            | exact ⟨_, _, rfl, rfl, r30.2.ck hW⟩
            | exact ⟨_, _, rfl, rfl, r31.2.ck hW⟩
            | exact ⟨_, _, rfl, rfl, r32.2.ck hW⟩
            | exact ⟨_, _, rfl, rfl, r33.2.ck hW⟩
            | exact ⟨_, _, rfl, rfl, r34.2.ck hW⟩
            | exact ⟨_, _, rfl, rfl, r35.2.ck hW⟩
            | exact ⟨_, _, rfl, rfl, r36.2.ck hW⟩
            | exact ⟨_, _, rfl, rfl, r37.2.ck hW⟩
            | exact ⟨_, _, rfl, rfl, r38.2.ck hW⟩
            | exact ⟨_, _, rfl, rfl, r39.2.ck hW⟩
        · refine x_aload_n hm rfl rfl ?_
          refine x_ldcI hm rfl (v := (-1000001 : Int32)) (by decide +kernel) ?_
          refine x_cVi hm rfl rfl (t7 (by decide +kernel)) (fun v7 M7 r7 => ?_)
          refine x_iret hm rfl rfl (by first | rfl | exact bI_nar | decide) ?_
          first
            | exact ⟨_, _, rfl, rfl, r7.2.ck hW⟩
            | exact ⟨_, _, rfl, rfl, r7.ck hW⟩
            | exact ⟨_, _, rfl, rfl, Ck.rf hW⟩
            | exact ⟨_, _, rfl, rfl, r1.2.ck hW⟩
            | exact ⟨_, _, rfl, rfl, r2.2.ck hW⟩
            | exact ⟨_, _, rfl, rfl, r3.2.ck hW⟩
            | exact ⟨_, _, rfl, rfl, r4.2.ck hW⟩
            | exact ⟨_, _, rfl, rfl, r5.2.ck hW⟩
            | exact ⟨_, _, rfl, rfl, r6.2.ck hW⟩
            | exact ⟨_, _, rfl, rfl, r8.2.ck hW⟩
            | exact ⟨_, _, rfl, rfl, r9.2.ck hW⟩
            | exact ⟨_, _, rfl, rfl, r10.2.ck hW⟩
            | exact ⟨_, _, rfl, rfl, r11.2.ck hW⟩
            | exact ⟨_, _, rfl, rfl, r12.2.ck hW⟩
            | exact ⟨_, _, rfl, rfl, r13.2.ck hW⟩
            | exact ⟨_, _, rfl, rfl, r14.2.ck hW⟩
            | exact ⟨_, _, rfl, rfl, r15.2.ck hW⟩
            | exact ⟨_, _, rfl, rfl, r16.2.ck hW⟩
            | exact ⟨_, _, rfl, rfl, r17.2.ck hW⟩
            | exact ⟨_, _, rfl, rfl, r18.2.ck hW⟩
            | exact ⟨_, _, rfl, rfl, r19.2.ck hW⟩
            | exact ⟨_, _, rfl, rfl, r1.ck hW⟩
            | exact ⟨_, _, rfl, rfl, r2.ck hW⟩
            | exact ⟨_, _, rfl, rfl, r3.ck hW⟩
            | exact ⟨_, _, rfl, rfl, r4.ck hW⟩
            | exact ⟨_, _, rfl, rfl, r5.ck hW⟩
            | exact ⟨_, _, rfl, rfl, r6.ck hW⟩
            | exact ⟨_, _, rfl, rfl, r8.ck hW⟩
            | exact ⟨_, _, rfl, rfl, r9.ck hW⟩
            | exact ⟨_, _, rfl, rfl, r10.ck hW⟩
            | exact ⟨_, _, rfl, rfl, r11.ck hW⟩
            | exact ⟨_, _, rfl, rfl, r12.ck hW⟩
            | exact ⟨_, _, rfl, rfl, r13.ck hW⟩
            | exact ⟨_, _, rfl, rfl, r14.ck hW⟩
            | exact ⟨_, _, rfl, rfl, r15.ck hW⟩
            | exact ⟨_, _, rfl, rfl, r16.ck hW⟩
            | exact ⟨_, _, rfl, rfl, r17.ck hW⟩
            | exact ⟨_, _, rfl, rfl, r18.ck hW⟩
            | exact ⟨_, _, rfl, rfl, r19.ck hW⟩
            | exact ⟨_, _, rfl, rfl, r20.ck hW⟩
            | exact ⟨_, _, rfl, rfl, r21.ck hW⟩
            | exact ⟨_, _, rfl, rfl, r22.ck hW⟩
            | exact ⟨_, _, rfl, rfl, r23.ck hW⟩
            | exact ⟨_, _, rfl, rfl, r24.ck hW⟩
            | exact ⟨_, _, rfl, rfl, r25.ck hW⟩
            | exact ⟨_, _, rfl, rfl, r26.ck hW⟩
            | exact ⟨_, _, rfl, rfl, r27.ck hW⟩
            | exact ⟨_, _, rfl, rfl, r28.ck hW⟩
            | exact ⟨_, _, rfl, rfl, r29.ck hW⟩
            | exact ⟨_, _, rfl, rfl, r20.2.ck hW⟩
            | exact ⟨_, _, rfl, rfl, r21.2.ck hW⟩
            | exact ⟨_, _, rfl, rfl, r22.2.ck hW⟩
            | exact ⟨_, _, rfl, rfl, r23.2.ck hW⟩
            | exact ⟨_, _, rfl, rfl, r24.2.ck hW⟩
            | exact ⟨_, _, rfl, rfl, r25.2.ck hW⟩
            | exact ⟨_, _, rfl, rfl, r26.2.ck hW⟩
            | exact ⟨_, _, rfl, rfl, r27.2.ck hW⟩
            | exact ⟨_, _, rfl, rfl, r28.2.ck hW⟩
            | exact ⟨_, _, rfl, rfl, r29.2.ck hW⟩
            | exact ⟨_, _, rfl, rfl, r30.2.ck hW⟩
            | exact ⟨_, _, rfl, rfl, r31.2.ck hW⟩
            | exact ⟨_, _, rfl, rfl, r32.2.ck hW⟩
            | exact ⟨_, _, rfl, rfl, r33.2.ck hW⟩
            | exact ⟨_, _, rfl, rfl, r34.2.ck hW⟩
            | exact ⟨_, _, rfl, rfl, r35.2.ck hW⟩
            | exact ⟨_, _, rfl, rfl, r36.2.ck hW⟩
            | exact ⟨_, _, rfl, rfl, r37.2.ck hW⟩
            | exact ⟨_, _, rfl, rfl, r38.2.ck hW⟩
            | exact ⟨_, _, rfl, rfl, r39.2.ck hW⟩
      · refine x_aload_n hm rfl rfl ?_
        refine x_ldcI hm rfl (v := (-1000007 : Int32)) (by decide +kernel) ?_
        refine x_cVi hm rfl rfl (t7 (by decide +kernel)) (fun v8 M8 r8 => ?_)
        refine x_iret hm rfl rfl (by first | rfl | exact bI_nar | decide) ?_
        first
          | exact ⟨_, _, rfl, rfl, r8.2.ck hW⟩
          | exact ⟨_, _, rfl, rfl, r8.ck hW⟩
          | exact ⟨_, _, rfl, rfl, Ck.rf hW⟩
          | exact ⟨_, _, rfl, rfl, r1.2.ck hW⟩
          | exact ⟨_, _, rfl, rfl, r2.2.ck hW⟩
          | exact ⟨_, _, rfl, rfl, r3.2.ck hW⟩
          | exact ⟨_, _, rfl, rfl, r4.2.ck hW⟩
          | exact ⟨_, _, rfl, rfl, r5.2.ck hW⟩
          | exact ⟨_, _, rfl, rfl, r6.2.ck hW⟩
          | exact ⟨_, _, rfl, rfl, r7.2.ck hW⟩
          | exact ⟨_, _, rfl, rfl, r9.2.ck hW⟩
          | exact ⟨_, _, rfl, rfl, r10.2.ck hW⟩
          | exact ⟨_, _, rfl, rfl, r11.2.ck hW⟩
          | exact ⟨_, _, rfl, rfl, r12.2.ck hW⟩
          | exact ⟨_, _, rfl, rfl, r13.2.ck hW⟩
          | exact ⟨_, _, rfl, rfl, r14.2.ck hW⟩
          | exact ⟨_, _, rfl, rfl, r15.2.ck hW⟩
          | exact ⟨_, _, rfl, rfl, r16.2.ck hW⟩
          | exact ⟨_, _, rfl, rfl, r17.2.ck hW⟩
          | exact ⟨_, _, rfl, rfl, r18.2.ck hW⟩
          | exact ⟨_, _, rfl, rfl, r19.2.ck hW⟩
          | exact ⟨_, _, rfl, rfl, r1.ck hW⟩
          | exact ⟨_, _, rfl, rfl, r2.ck hW⟩
          | exact ⟨_, _, rfl, rfl, r3.ck hW⟩
          | exact ⟨_, _, rfl, rfl, r4.ck hW⟩
          | exact ⟨_, _, rfl, rfl, r5.ck hW⟩
          | exact ⟨_, _, rfl, rfl, r6.ck hW⟩
          | exact ⟨_, _, rfl, rfl, r7.ck hW⟩
          | exact ⟨_, _, rfl, rfl, r9.ck hW⟩
          | exact ⟨_, _, rfl, rfl, r10.ck hW⟩
          | exact ⟨_, _, rfl, rfl, r11.ck hW⟩
          | exact ⟨_, _, rfl, rfl, r12.ck hW⟩
          | exact ⟨_, _, rfl, rfl, r13.ck hW⟩
          | exact ⟨_, _, rfl, rfl, r14.ck hW⟩
          | exact ⟨_, _, rfl, rfl, r15.ck hW⟩
          | exact ⟨_, _, rfl, rfl, r16.ck hW⟩
          | exact ⟨_, _, rfl, rfl, r17.ck hW⟩
          | exact ⟨_, _, rfl, rfl, r18.ck hW⟩
          | exact ⟨_, _, rfl, rfl, r19.ck hW⟩
          | exact ⟨_, _, rfl, rfl, r20.ck hW⟩
          | exact ⟨_, _, rfl, rfl, r21.ck hW⟩
          | exact ⟨_, _, rfl, rfl, r22.ck hW⟩
          | exact ⟨_, _, rfl, rfl, r23.ck hW⟩
          | exact ⟨_, _, rfl, rfl, r24.ck hW⟩
          | exact ⟨_, _, rfl, rfl, r25.ck hW⟩
          | exact ⟨_, _, rfl, rfl, r26.ck hW⟩
          | exact ⟨_, _, rfl, rfl, r27.ck hW⟩
          | exact ⟨_, _, rfl, rfl, r28.ck hW⟩
          | exact ⟨_, _, rfl, rfl, r29.ck hW⟩
          | exact ⟨_, _, rfl, rfl, r20.2.ck hW⟩
          | exact ⟨_, _, rfl, rfl, r21.2.ck hW⟩
          | exact ⟨_, _, rfl, rfl, r22.2.ck hW⟩
          | exact ⟨_, _, rfl, rfl, r23.2.ck hW⟩
          | exact ⟨_, _, rfl, rfl, r24.2.ck hW⟩
          | exact ⟨_, _, rfl, rfl, r25.2.ck hW⟩
          | exact ⟨_, _, rfl, rfl, r26.2.ck hW⟩
          | exact ⟨_, _, rfl, rfl, r27.2.ck hW⟩
          | exact ⟨_, _, rfl, rfl, r28.2.ck hW⟩
          | exact ⟨_, _, rfl, rfl, r29.2.ck hW⟩
          | exact ⟨_, _, rfl, rfl, r30.2.ck hW⟩
          | exact ⟨_, _, rfl, rfl, r31.2.ck hW⟩
          | exact ⟨_, _, rfl, rfl, r32.2.ck hW⟩
          | exact ⟨_, _, rfl, rfl, r33.2.ck hW⟩
          | exact ⟨_, _, rfl, rfl, r34.2.ck hW⟩
          | exact ⟨_, _, rfl, rfl, r35.2.ck hW⟩
          | exact ⟨_, _, rfl, rfl, r36.2.ck hW⟩
          | exact ⟨_, _, rfl, rfl, r37.2.ck hW⟩
          | exact ⟨_, _, rfl, rfl, r38.2.ck hW⟩
          | exact ⟨_, _, rfl, rfl, r39.2.ck hW⟩
    · refine x_iload_n hm rfl rfl ?_
      refine x_bipush hm rfl (v := nI 8) (by decide) ?_
      refine x_icmp_eq hm rfl (t := 36) rfl (fun h9 => ?_) (fun h9 => ?_)
      · refine x_iload_n hm rfl rfl ?_
        refine x_if_ge hm rfl (t := 47) rfl (fun h10 => ?_) (fun h10 => ?_)
        · have hn0 : ¬ a3 < 0 := fun q => Int32.not_lt.mpr h10 q
          refine x_iload_n hm rfl rfl ?_
          refine x_bipush hm rfl (v := nI 40) (by decide) ?_
          refine x_icmp_le hm rfl (t := 60) rfl (fun h11 => ?_) (fun h11 => ?_)
          · obtain ⟨z, hz, rfl⟩ : ∃ z, z ≤ 40 ∧ a3 = nI z := by
              obtain ⟨z, hz, rfl⟩ := jI_of (v := a3) hn0
              exact ⟨z, (jI_le hz (by decide)).mp h11, rfl⟩
            refine x_aload_n hm rfl rfl ?_
            refine x_getf hm rfl (gR rfl rfl) ?_
            refine x_iload_n hm rfl rfl ?_
            refine x_aald hm rfl (by first | exact lQ 2 (Or.inl rfl) rfl (shk hs) (by omega) (by decide) | exact lQ 3 (Or.inr (Or.inl rfl)) rfl rfl (by omega) (by decide)) ?_
            refine x_iload_n hm rfl rfl ?_
            refine x_iload_n hm rfl rfl ?_
            refine x_cVv hm rfl (by first | exact mCallSh hs (by decide) rfl rfl rfl rfl rfl) (t117 hs hz) (fun M12 r12 => ?_)
            refine x_aload_n hm rfl rfl ?_
            refine x_getf hm rfl (gR rfl rfl) ?_
            refine x_iload_n hm rfl rfl ?_
            refine x_aald hm rfl (by first | exact lQ 2 (Or.inl rfl) rfl (shk hs) (by omega) (by decide) | exact lQ 3 (Or.inr (Or.inl rfl)) rfl rfl (by omega) (by decide)) ?_
            refine x_getf hm rfl (by first | exact gI (sO hs) rfl) ?_
            refine x_iret hm rfl rfl (by first | rfl | exact bI_nar | decide) ?_
            first
              | exact ⟨_, _, rfl, rfl, r12.2.ck hW⟩
              | exact ⟨_, _, rfl, rfl, r12.ck hW⟩
              | exact ⟨_, _, rfl, rfl, Ck.rf hW⟩
              | exact ⟨_, _, rfl, rfl, r1.2.ck hW⟩
              | exact ⟨_, _, rfl, rfl, r2.2.ck hW⟩
              | exact ⟨_, _, rfl, rfl, r3.2.ck hW⟩
              | exact ⟨_, _, rfl, rfl, r4.2.ck hW⟩
              | exact ⟨_, _, rfl, rfl, r5.2.ck hW⟩
              | exact ⟨_, _, rfl, rfl, r6.2.ck hW⟩
              | exact ⟨_, _, rfl, rfl, r7.2.ck hW⟩
              | exact ⟨_, _, rfl, rfl, r8.2.ck hW⟩
              | exact ⟨_, _, rfl, rfl, r9.2.ck hW⟩
              | exact ⟨_, _, rfl, rfl, r10.2.ck hW⟩
              | exact ⟨_, _, rfl, rfl, r11.2.ck hW⟩
              | exact ⟨_, _, rfl, rfl, r13.2.ck hW⟩
              | exact ⟨_, _, rfl, rfl, r14.2.ck hW⟩
              | exact ⟨_, _, rfl, rfl, r15.2.ck hW⟩
              | exact ⟨_, _, rfl, rfl, r16.2.ck hW⟩
              | exact ⟨_, _, rfl, rfl, r17.2.ck hW⟩
              | exact ⟨_, _, rfl, rfl, r18.2.ck hW⟩
              | exact ⟨_, _, rfl, rfl, r19.2.ck hW⟩
              | exact ⟨_, _, rfl, rfl, r1.ck hW⟩
              | exact ⟨_, _, rfl, rfl, r2.ck hW⟩
              | exact ⟨_, _, rfl, rfl, r3.ck hW⟩
              | exact ⟨_, _, rfl, rfl, r4.ck hW⟩
              | exact ⟨_, _, rfl, rfl, r5.ck hW⟩
              | exact ⟨_, _, rfl, rfl, r6.ck hW⟩
              | exact ⟨_, _, rfl, rfl, r7.ck hW⟩
              | exact ⟨_, _, rfl, rfl, r8.ck hW⟩
              | exact ⟨_, _, rfl, rfl, r9.ck hW⟩
              | exact ⟨_, _, rfl, rfl, r10.ck hW⟩
              | exact ⟨_, _, rfl, rfl, r11.ck hW⟩
              | exact ⟨_, _, rfl, rfl, r13.ck hW⟩
              | exact ⟨_, _, rfl, rfl, r14.ck hW⟩
              | exact ⟨_, _, rfl, rfl, r15.ck hW⟩
              | exact ⟨_, _, rfl, rfl, r16.ck hW⟩
              | exact ⟨_, _, rfl, rfl, r17.ck hW⟩
              | exact ⟨_, _, rfl, rfl, r18.ck hW⟩
              | exact ⟨_, _, rfl, rfl, r19.ck hW⟩
              | exact ⟨_, _, rfl, rfl, r20.ck hW⟩
              | exact ⟨_, _, rfl, rfl, r21.ck hW⟩
              | exact ⟨_, _, rfl, rfl, r22.ck hW⟩
              | exact ⟨_, _, rfl, rfl, r23.ck hW⟩
              | exact ⟨_, _, rfl, rfl, r24.ck hW⟩
              | exact ⟨_, _, rfl, rfl, r25.ck hW⟩
              | exact ⟨_, _, rfl, rfl, r26.ck hW⟩
              | exact ⟨_, _, rfl, rfl, r27.ck hW⟩
              | exact ⟨_, _, rfl, rfl, r28.ck hW⟩
              | exact ⟨_, _, rfl, rfl, r29.ck hW⟩
              | exact ⟨_, _, rfl, rfl, r20.2.ck hW⟩
              | exact ⟨_, _, rfl, rfl, r21.2.ck hW⟩
              | exact ⟨_, _, rfl, rfl, r22.2.ck hW⟩
              | exact ⟨_, _, rfl, rfl, r23.2.ck hW⟩
              | exact ⟨_, _, rfl, rfl, r24.2.ck hW⟩
              | exact ⟨_, _, rfl, rfl, r25.2.ck hW⟩
              | exact ⟨_, _, rfl, rfl, r26.2.ck hW⟩
              | exact ⟨_, _, rfl, rfl, r27.2.ck hW⟩
              | exact ⟨_, _, rfl, rfl, r28.2.ck hW⟩
              | exact ⟨_, _, rfl, rfl, r29.2.ck hW⟩
              | exact ⟨_, _, rfl, rfl, r30.2.ck hW⟩
              | exact ⟨_, _, rfl, rfl, r31.2.ck hW⟩
              | exact ⟨_, _, rfl, rfl, r32.2.ck hW⟩
              | exact ⟨_, _, rfl, rfl, r33.2.ck hW⟩
              | exact ⟨_, _, rfl, rfl, r34.2.ck hW⟩
              | exact ⟨_, _, rfl, rfl, r35.2.ck hW⟩
              | exact ⟨_, _, rfl, rfl, r36.2.ck hW⟩
              | exact ⟨_, _, rfl, rfl, r37.2.ck hW⟩
              | exact ⟨_, _, rfl, rfl, r38.2.ck hW⟩
              | exact ⟨_, _, rfl, rfl, r39.2.ck hW⟩
          · refine x_aload_n hm rfl rfl ?_
            refine x_ldcI hm rfl (v := (-1000001 : Int32)) (by decide +kernel) ?_
            refine x_cVi hm rfl rfl (t7 (by decide +kernel)) (fun v13 M13 r13 => ?_)
            refine x_iret hm rfl rfl (by first | rfl | exact bI_nar | decide) ?_
            first
              | exact ⟨_, _, rfl, rfl, r13.2.ck hW⟩
              | exact ⟨_, _, rfl, rfl, r13.ck hW⟩
              | exact ⟨_, _, rfl, rfl, Ck.rf hW⟩
              | exact ⟨_, _, rfl, rfl, r1.2.ck hW⟩
              | exact ⟨_, _, rfl, rfl, r2.2.ck hW⟩
              | exact ⟨_, _, rfl, rfl, r3.2.ck hW⟩
              | exact ⟨_, _, rfl, rfl, r4.2.ck hW⟩
              | exact ⟨_, _, rfl, rfl, r5.2.ck hW⟩
              | exact ⟨_, _, rfl, rfl, r6.2.ck hW⟩
              | exact ⟨_, _, rfl, rfl, r7.2.ck hW⟩
              | exact ⟨_, _, rfl, rfl, r8.2.ck hW⟩
              | exact ⟨_, _, rfl, rfl, r9.2.ck hW⟩
              | exact ⟨_, _, rfl, rfl, r10.2.ck hW⟩
              | exact ⟨_, _, rfl, rfl, r11.2.ck hW⟩
              | exact ⟨_, _, rfl, rfl, r12.2.ck hW⟩
              | exact ⟨_, _, rfl, rfl, r14.2.ck hW⟩
              | exact ⟨_, _, rfl, rfl, r15.2.ck hW⟩
              | exact ⟨_, _, rfl, rfl, r16.2.ck hW⟩
              | exact ⟨_, _, rfl, rfl, r17.2.ck hW⟩
              | exact ⟨_, _, rfl, rfl, r18.2.ck hW⟩
              | exact ⟨_, _, rfl, rfl, r19.2.ck hW⟩
              | exact ⟨_, _, rfl, rfl, r1.ck hW⟩
              | exact ⟨_, _, rfl, rfl, r2.ck hW⟩
              | exact ⟨_, _, rfl, rfl, r3.ck hW⟩
              | exact ⟨_, _, rfl, rfl, r4.ck hW⟩
              | exact ⟨_, _, rfl, rfl, r5.ck hW⟩
              | exact ⟨_, _, rfl, rfl, r6.ck hW⟩
              | exact ⟨_, _, rfl, rfl, r7.ck hW⟩
              | exact ⟨_, _, rfl, rfl, r8.ck hW⟩
              | exact ⟨_, _, rfl, rfl, r9.ck hW⟩
              | exact ⟨_, _, rfl, rfl, r10.ck hW⟩
              | exact ⟨_, _, rfl, rfl, r11.ck hW⟩
              | exact ⟨_, _, rfl, rfl, r12.ck hW⟩
              | exact ⟨_, _, rfl, rfl, r14.ck hW⟩
              | exact ⟨_, _, rfl, rfl, r15.ck hW⟩
              | exact ⟨_, _, rfl, rfl, r16.ck hW⟩
              | exact ⟨_, _, rfl, rfl, r17.ck hW⟩
              | exact ⟨_, _, rfl, rfl, r18.ck hW⟩
              | exact ⟨_, _, rfl, rfl, r19.ck hW⟩
              | exact ⟨_, _, rfl, rfl, r20.ck hW⟩
              | exact ⟨_, _, rfl, rfl, r21.ck hW⟩
              | exact ⟨_, _, rfl, rfl, r22.ck hW⟩
              | exact ⟨_, _, rfl, rfl, r23.ck hW⟩
              | exact ⟨_, _, rfl, rfl, r24.ck hW⟩
              | exact ⟨_, _, rfl, rfl, r25.ck hW⟩
              | exact ⟨_, _, rfl, rfl, r26.ck hW⟩
              | exact ⟨_, _, rfl, rfl, r27.ck hW⟩
              | exact ⟨_, _, rfl, rfl, r28.ck hW⟩
              | exact ⟨_, _, rfl, rfl, r29.ck hW⟩
              | exact ⟨_, _, rfl, rfl, r20.2.ck hW⟩
              | exact ⟨_, _, rfl, rfl, r21.2.ck hW⟩
              | exact ⟨_, _, rfl, rfl, r22.2.ck hW⟩
              | exact ⟨_, _, rfl, rfl, r23.2.ck hW⟩
              | exact ⟨_, _, rfl, rfl, r24.2.ck hW⟩
              | exact ⟨_, _, rfl, rfl, r25.2.ck hW⟩
              | exact ⟨_, _, rfl, rfl, r26.2.ck hW⟩
              | exact ⟨_, _, rfl, rfl, r27.2.ck hW⟩
              | exact ⟨_, _, rfl, rfl, r28.2.ck hW⟩
              | exact ⟨_, _, rfl, rfl, r29.2.ck hW⟩
              | exact ⟨_, _, rfl, rfl, r30.2.ck hW⟩
              | exact ⟨_, _, rfl, rfl, r31.2.ck hW⟩
              | exact ⟨_, _, rfl, rfl, r32.2.ck hW⟩
              | exact ⟨_, _, rfl, rfl, r33.2.ck hW⟩
              | exact ⟨_, _, rfl, rfl, r34.2.ck hW⟩
              | exact ⟨_, _, rfl, rfl, r35.2.ck hW⟩
              | exact ⟨_, _, rfl, rfl, r36.2.ck hW⟩
              | exact ⟨_, _, rfl, rfl, r37.2.ck hW⟩
              | exact ⟨_, _, rfl, rfl, r38.2.ck hW⟩
              | exact ⟨_, _, rfl, rfl, r39.2.ck hW⟩
        · refine x_aload_n hm rfl rfl ?_
          refine x_ldcI hm rfl (v := (-1000007 : Int32)) (by decide +kernel) ?_
          refine x_cVi hm rfl rfl (t7 (by decide +kernel)) (fun v14 M14 r14 => ?_)
          refine x_iret hm rfl rfl (by first | rfl | exact bI_nar | decide) ?_
          first
            | exact ⟨_, _, rfl, rfl, r14.2.ck hW⟩
            | exact ⟨_, _, rfl, rfl, r14.ck hW⟩
            | exact ⟨_, _, rfl, rfl, Ck.rf hW⟩
            | exact ⟨_, _, rfl, rfl, r1.2.ck hW⟩
            | exact ⟨_, _, rfl, rfl, r2.2.ck hW⟩
            | exact ⟨_, _, rfl, rfl, r3.2.ck hW⟩
            | exact ⟨_, _, rfl, rfl, r4.2.ck hW⟩
            | exact ⟨_, _, rfl, rfl, r5.2.ck hW⟩
            | exact ⟨_, _, rfl, rfl, r6.2.ck hW⟩
            | exact ⟨_, _, rfl, rfl, r7.2.ck hW⟩
            | exact ⟨_, _, rfl, rfl, r8.2.ck hW⟩
            | exact ⟨_, _, rfl, rfl, r9.2.ck hW⟩
            | exact ⟨_, _, rfl, rfl, r10.2.ck hW⟩
            | exact ⟨_, _, rfl, rfl, r11.2.ck hW⟩
            | exact ⟨_, _, rfl, rfl, r12.2.ck hW⟩
            | exact ⟨_, _, rfl, rfl, r13.2.ck hW⟩
            | exact ⟨_, _, rfl, rfl, r15.2.ck hW⟩
            | exact ⟨_, _, rfl, rfl, r16.2.ck hW⟩
            | exact ⟨_, _, rfl, rfl, r17.2.ck hW⟩
            | exact ⟨_, _, rfl, rfl, r18.2.ck hW⟩
            | exact ⟨_, _, rfl, rfl, r19.2.ck hW⟩
            | exact ⟨_, _, rfl, rfl, r1.ck hW⟩
            | exact ⟨_, _, rfl, rfl, r2.ck hW⟩
            | exact ⟨_, _, rfl, rfl, r3.ck hW⟩
            | exact ⟨_, _, rfl, rfl, r4.ck hW⟩
            | exact ⟨_, _, rfl, rfl, r5.ck hW⟩
            | exact ⟨_, _, rfl, rfl, r6.ck hW⟩
            | exact ⟨_, _, rfl, rfl, r7.ck hW⟩
            | exact ⟨_, _, rfl, rfl, r8.ck hW⟩
            | exact ⟨_, _, rfl, rfl, r9.ck hW⟩
            | exact ⟨_, _, rfl, rfl, r10.ck hW⟩
            | exact ⟨_, _, rfl, rfl, r11.ck hW⟩
            | exact ⟨_, _, rfl, rfl, r12.ck hW⟩
            | exact ⟨_, _, rfl, rfl, r13.ck hW⟩
            | exact ⟨_, _, rfl, rfl, r15.ck hW⟩
            | exact ⟨_, _, rfl, rfl, r16.ck hW⟩
            | exact ⟨_, _, rfl, rfl, r17.ck hW⟩
            | exact ⟨_, _, rfl, rfl, r18.ck hW⟩
            | exact ⟨_, _, rfl, rfl, r19.ck hW⟩
            | exact ⟨_, _, rfl, rfl, r20.ck hW⟩
            | exact ⟨_, _, rfl, rfl, r21.ck hW⟩
            | exact ⟨_, _, rfl, rfl, r22.ck hW⟩
            | exact ⟨_, _, rfl, rfl, r23.ck hW⟩
            | exact ⟨_, _, rfl, rfl, r24.ck hW⟩
            | exact ⟨_, _, rfl, rfl, r25.ck hW⟩
            | exact ⟨_, _, rfl, rfl, r26.ck hW⟩
            | exact ⟨_, _, rfl, rfl, r27.ck hW⟩
            | exact ⟨_, _, rfl, rfl, r28.ck hW⟩
            | exact ⟨_, _, rfl, rfl, r29.ck hW⟩
            | exact ⟨_, _, rfl, rfl, r20.2.ck hW⟩
            | exact ⟨_, _, rfl, rfl, r21.2.ck hW⟩
            | exact ⟨_, _, rfl, rfl, r22.2.ck hW⟩
            | exact ⟨_, _, rfl, rfl, r23.2.ck hW⟩
            | exact ⟨_, _, rfl, rfl, r24.2.ck hW⟩
            | exact ⟨_, _, rfl, rfl, r25.2.ck hW⟩
            | exact ⟨_, _, rfl, rfl, r26.2.ck hW⟩
            | exact ⟨_, _, rfl, rfl, r27.2.ck hW⟩
            | exact ⟨_, _, rfl, rfl, r28.2.ck hW⟩
            | exact ⟨_, _, rfl, rfl, r29.2.ck hW⟩
            | exact ⟨_, _, rfl, rfl, r30.2.ck hW⟩
            | exact ⟨_, _, rfl, rfl, r31.2.ck hW⟩
            | exact ⟨_, _, rfl, rfl, r32.2.ck hW⟩
            | exact ⟨_, _, rfl, rfl, r33.2.ck hW⟩
            | exact ⟨_, _, rfl, rfl, r34.2.ck hW⟩
            | exact ⟨_, _, rfl, rfl, r35.2.ck hW⟩
            | exact ⟨_, _, rfl, rfl, r36.2.ck hW⟩
            | exact ⟨_, _, rfl, rfl, r37.2.ck hW⟩
            | exact ⟨_, _, rfl, rfl, r38.2.ck hW⟩
            | exact ⟨_, _, rfl, rfl, r39.2.ck hW⟩
      · refine x_iload_n hm rfl rfl ?_
        refine x_bipush hm rfl (v := nI 16) (by decide) ?_
        refine x_icmp_eq hm rfl (t := 36) rfl (fun h15 => ?_) (fun h15 => ?_)
        · refine x_iload_n hm rfl rfl ?_
          refine x_if_ge hm rfl (t := 47) rfl (fun h16 => ?_) (fun h16 => ?_)
          · have hn0 : ¬ a3 < 0 := fun q => Int32.not_lt.mpr h16 q
            refine x_iload_n hm rfl rfl ?_
            refine x_bipush hm rfl (v := nI 40) (by decide) ?_
            refine x_icmp_le hm rfl (t := 60) rfl (fun h17 => ?_) (fun h17 => ?_)
            · obtain ⟨z, hz, rfl⟩ : ∃ z, z ≤ 40 ∧ a3 = nI z := by
                obtain ⟨z, hz, rfl⟩ := jI_of (v := a3) hn0
                exact ⟨z, (jI_le hz (by decide)).mp h17, rfl⟩
              refine x_aload_n hm rfl rfl ?_
              refine x_getf hm rfl (gR rfl rfl) ?_
              refine x_iload_n hm rfl rfl ?_
              refine x_aald hm rfl (by first | exact lQ 2 (Or.inl rfl) rfl (shk hs) (by omega) (by decide) | exact lQ 3 (Or.inr (Or.inl rfl)) rfl rfl (by omega) (by decide)) ?_
              refine x_iload_n hm rfl rfl ?_
              refine x_iload_n hm rfl rfl ?_
              refine x_cVv hm rfl (by first | exact mCallSh hs (by decide) rfl rfl rfl rfl rfl) (t117 hs hz) (fun M18 r18 => ?_)
              refine x_aload_n hm rfl rfl ?_
              refine x_getf hm rfl (gR rfl rfl) ?_
              refine x_iload_n hm rfl rfl ?_
              refine x_aald hm rfl (by first | exact lQ 2 (Or.inl rfl) rfl (shk hs) (by omega) (by decide) | exact lQ 3 (Or.inr (Or.inl rfl)) rfl rfl (by omega) (by decide)) ?_
              refine x_getf hm rfl (by first | exact gI (sO hs) rfl) ?_
              refine x_iret hm rfl rfl (by first | rfl | exact bI_nar | decide) ?_
              first
                | exact ⟨_, _, rfl, rfl, r18.2.ck hW⟩
                | exact ⟨_, _, rfl, rfl, r18.ck hW⟩
                | exact ⟨_, _, rfl, rfl, Ck.rf hW⟩
                | exact ⟨_, _, rfl, rfl, r1.2.ck hW⟩
                | exact ⟨_, _, rfl, rfl, r2.2.ck hW⟩
                | exact ⟨_, _, rfl, rfl, r3.2.ck hW⟩
                | exact ⟨_, _, rfl, rfl, r4.2.ck hW⟩
                | exact ⟨_, _, rfl, rfl, r5.2.ck hW⟩
                | exact ⟨_, _, rfl, rfl, r6.2.ck hW⟩
                | exact ⟨_, _, rfl, rfl, r7.2.ck hW⟩
                | exact ⟨_, _, rfl, rfl, r8.2.ck hW⟩
                | exact ⟨_, _, rfl, rfl, r9.2.ck hW⟩
                | exact ⟨_, _, rfl, rfl, r10.2.ck hW⟩
                | exact ⟨_, _, rfl, rfl, r11.2.ck hW⟩
                | exact ⟨_, _, rfl, rfl, r12.2.ck hW⟩
                | exact ⟨_, _, rfl, rfl, r13.2.ck hW⟩
                | exact ⟨_, _, rfl, rfl, r14.2.ck hW⟩
                | exact ⟨_, _, rfl, rfl, r15.2.ck hW⟩
                | exact ⟨_, _, rfl, rfl, r16.2.ck hW⟩
                | exact ⟨_, _, rfl, rfl, r17.2.ck hW⟩
                | exact ⟨_, _, rfl, rfl, r19.2.ck hW⟩
                | exact ⟨_, _, rfl, rfl, r1.ck hW⟩
                | exact ⟨_, _, rfl, rfl, r2.ck hW⟩
                | exact ⟨_, _, rfl, rfl, r3.ck hW⟩
                | exact ⟨_, _, rfl, rfl, r4.ck hW⟩
                | exact ⟨_, _, rfl, rfl, r5.ck hW⟩
                | exact ⟨_, _, rfl, rfl, r6.ck hW⟩
                | exact ⟨_, _, rfl, rfl, r7.ck hW⟩
                | exact ⟨_, _, rfl, rfl, r8.ck hW⟩
                | exact ⟨_, _, rfl, rfl, r9.ck hW⟩
                | exact ⟨_, _, rfl, rfl, r10.ck hW⟩
                | exact ⟨_, _, rfl, rfl, r11.ck hW⟩
                | exact ⟨_, _, rfl, rfl, r12.ck hW⟩
                | exact ⟨_, _, rfl, rfl, r13.ck hW⟩
                | exact ⟨_, _, rfl, rfl, r14.ck hW⟩
                | exact ⟨_, _, rfl, rfl, r15.ck hW⟩
                | exact ⟨_, _, rfl, rfl, r16.ck hW⟩
                | exact ⟨_, _, rfl, rfl, r17.ck hW⟩
                | exact ⟨_, _, rfl, rfl, r19.ck hW⟩
                | exact ⟨_, _, rfl, rfl, r20.ck hW⟩
                | exact ⟨_, _, rfl, rfl, r21.ck hW⟩
                | exact ⟨_, _, rfl, rfl, r22.ck hW⟩
                | exact ⟨_, _, rfl, rfl, r23.ck hW⟩
                | exact ⟨_, _, rfl, rfl, r24.ck hW⟩
                | exact ⟨_, _, rfl, rfl, r25.ck hW⟩
                | exact ⟨_, _, rfl, rfl, r26.ck hW⟩
                | exact ⟨_, _, rfl, rfl, r27.ck hW⟩
                | exact ⟨_, _, rfl, rfl, r28.ck hW⟩
                | exact ⟨_, _, rfl, rfl, r29.ck hW⟩
                | exact ⟨_, _, rfl, rfl, r20.2.ck hW⟩
                | exact ⟨_, _, rfl, rfl, r21.2.ck hW⟩
                | exact ⟨_, _, rfl, rfl, r22.2.ck hW⟩
                | exact ⟨_, _, rfl, rfl, r23.2.ck hW⟩
                | exact ⟨_, _, rfl, rfl, r24.2.ck hW⟩
                | exact ⟨_, _, rfl, rfl, r25.2.ck hW⟩
                | exact ⟨_, _, rfl, rfl, r26.2.ck hW⟩
                | exact ⟨_, _, rfl, rfl, r27.2.ck hW⟩
                | exact ⟨_, _, rfl, rfl, r28.2.ck hW⟩
                | exact ⟨_, _, rfl, rfl, r29.2.ck hW⟩
                | exact ⟨_, _, rfl, rfl, r30.2.ck hW⟩
                | exact ⟨_, _, rfl, rfl, r31.2.ck hW⟩
                | exact ⟨_, _, rfl, rfl, r32.2.ck hW⟩
                | exact ⟨_, _, rfl, rfl, r33.2.ck hW⟩
                | exact ⟨_, _, rfl, rfl, r34.2.ck hW⟩
                | exact ⟨_, _, rfl, rfl, r35.2.ck hW⟩
                | exact ⟨_, _, rfl, rfl, r36.2.ck hW⟩
                | exact ⟨_, _, rfl, rfl, r37.2.ck hW⟩
                | exact ⟨_, _, rfl, rfl, r38.2.ck hW⟩
                | exact ⟨_, _, rfl, rfl, r39.2.ck hW⟩
            · refine x_aload_n hm rfl rfl ?_
              refine x_ldcI hm rfl (v := (-1000001 : Int32)) (by decide +kernel) ?_
              refine x_cVi hm rfl rfl (t7 (by decide +kernel)) (fun v19 M19 r19 => ?_)
              refine x_iret hm rfl rfl (by first | rfl | exact bI_nar | decide) ?_
              first
                | exact ⟨_, _, rfl, rfl, r19.2.ck hW⟩
                | exact ⟨_, _, rfl, rfl, r19.ck hW⟩
                | exact ⟨_, _, rfl, rfl, Ck.rf hW⟩
                | exact ⟨_, _, rfl, rfl, r1.2.ck hW⟩
                | exact ⟨_, _, rfl, rfl, r2.2.ck hW⟩
                | exact ⟨_, _, rfl, rfl, r3.2.ck hW⟩
                | exact ⟨_, _, rfl, rfl, r4.2.ck hW⟩
                | exact ⟨_, _, rfl, rfl, r5.2.ck hW⟩
                | exact ⟨_, _, rfl, rfl, r6.2.ck hW⟩
                | exact ⟨_, _, rfl, rfl, r7.2.ck hW⟩
                | exact ⟨_, _, rfl, rfl, r8.2.ck hW⟩
                | exact ⟨_, _, rfl, rfl, r9.2.ck hW⟩
                | exact ⟨_, _, rfl, rfl, r10.2.ck hW⟩
                | exact ⟨_, _, rfl, rfl, r11.2.ck hW⟩
                | exact ⟨_, _, rfl, rfl, r12.2.ck hW⟩
                | exact ⟨_, _, rfl, rfl, r13.2.ck hW⟩
                | exact ⟨_, _, rfl, rfl, r14.2.ck hW⟩
                | exact ⟨_, _, rfl, rfl, r15.2.ck hW⟩
                | exact ⟨_, _, rfl, rfl, r16.2.ck hW⟩
                | exact ⟨_, _, rfl, rfl, r17.2.ck hW⟩
                | exact ⟨_, _, rfl, rfl, r18.2.ck hW⟩
                | exact ⟨_, _, rfl, rfl, r1.ck hW⟩
                | exact ⟨_, _, rfl, rfl, r2.ck hW⟩
                | exact ⟨_, _, rfl, rfl, r3.ck hW⟩
                | exact ⟨_, _, rfl, rfl, r4.ck hW⟩
                | exact ⟨_, _, rfl, rfl, r5.ck hW⟩
                | exact ⟨_, _, rfl, rfl, r6.ck hW⟩
                | exact ⟨_, _, rfl, rfl, r7.ck hW⟩
                | exact ⟨_, _, rfl, rfl, r8.ck hW⟩
                | exact ⟨_, _, rfl, rfl, r9.ck hW⟩
                | exact ⟨_, _, rfl, rfl, r10.ck hW⟩
                | exact ⟨_, _, rfl, rfl, r11.ck hW⟩
                | exact ⟨_, _, rfl, rfl, r12.ck hW⟩
                | exact ⟨_, _, rfl, rfl, r13.ck hW⟩
                | exact ⟨_, _, rfl, rfl, r14.ck hW⟩
                | exact ⟨_, _, rfl, rfl, r15.ck hW⟩
                | exact ⟨_, _, rfl, rfl, r16.ck hW⟩
                | exact ⟨_, _, rfl, rfl, r17.ck hW⟩
                | exact ⟨_, _, rfl, rfl, r18.ck hW⟩
                | exact ⟨_, _, rfl, rfl, r20.ck hW⟩
                | exact ⟨_, _, rfl, rfl, r21.ck hW⟩
                | exact ⟨_, _, rfl, rfl, r22.ck hW⟩
                | exact ⟨_, _, rfl, rfl, r23.ck hW⟩
                | exact ⟨_, _, rfl, rfl, r24.ck hW⟩
                | exact ⟨_, _, rfl, rfl, r25.ck hW⟩
                | exact ⟨_, _, rfl, rfl, r26.ck hW⟩
                | exact ⟨_, _, rfl, rfl, r27.ck hW⟩
                | exact ⟨_, _, rfl, rfl, r28.ck hW⟩
                | exact ⟨_, _, rfl, rfl, r29.ck hW⟩
                | exact ⟨_, _, rfl, rfl, r20.2.ck hW⟩
                | exact ⟨_, _, rfl, rfl, r21.2.ck hW⟩
                | exact ⟨_, _, rfl, rfl, r22.2.ck hW⟩
                | exact ⟨_, _, rfl, rfl, r23.2.ck hW⟩
                | exact ⟨_, _, rfl, rfl, r24.2.ck hW⟩
                | exact ⟨_, _, rfl, rfl, r25.2.ck hW⟩
                | exact ⟨_, _, rfl, rfl, r26.2.ck hW⟩
                | exact ⟨_, _, rfl, rfl, r27.2.ck hW⟩
                | exact ⟨_, _, rfl, rfl, r28.2.ck hW⟩
                | exact ⟨_, _, rfl, rfl, r29.2.ck hW⟩
                | exact ⟨_, _, rfl, rfl, r30.2.ck hW⟩
                | exact ⟨_, _, rfl, rfl, r31.2.ck hW⟩
                | exact ⟨_, _, rfl, rfl, r32.2.ck hW⟩
                | exact ⟨_, _, rfl, rfl, r33.2.ck hW⟩
                | exact ⟨_, _, rfl, rfl, r34.2.ck hW⟩
                | exact ⟨_, _, rfl, rfl, r35.2.ck hW⟩
                | exact ⟨_, _, rfl, rfl, r36.2.ck hW⟩
                | exact ⟨_, _, rfl, rfl, r37.2.ck hW⟩
                | exact ⟨_, _, rfl, rfl, r38.2.ck hW⟩
                | exact ⟨_, _, rfl, rfl, r39.2.ck hW⟩
          · refine x_aload_n hm rfl rfl ?_
            refine x_ldcI hm rfl (v := (-1000007 : Int32)) (by decide +kernel) ?_
            refine x_cVi hm rfl rfl (t7 (by decide +kernel)) (fun v20 M20 r20 => ?_)
            refine x_iret hm rfl rfl (by first | rfl | exact bI_nar | decide) ?_
            first
              | exact ⟨_, _, rfl, rfl, r20.ck hW⟩
              | exact ⟨_, _, rfl, rfl, r20.2.ck hW⟩
              | exact ⟨_, _, rfl, rfl, Ck.rf hW⟩
              | exact ⟨_, _, rfl, rfl, r1.2.ck hW⟩
              | exact ⟨_, _, rfl, rfl, r2.2.ck hW⟩
              | exact ⟨_, _, rfl, rfl, r3.2.ck hW⟩
              | exact ⟨_, _, rfl, rfl, r4.2.ck hW⟩
              | exact ⟨_, _, rfl, rfl, r5.2.ck hW⟩
              | exact ⟨_, _, rfl, rfl, r6.2.ck hW⟩
              | exact ⟨_, _, rfl, rfl, r7.2.ck hW⟩
              | exact ⟨_, _, rfl, rfl, r8.2.ck hW⟩
              | exact ⟨_, _, rfl, rfl, r9.2.ck hW⟩
              | exact ⟨_, _, rfl, rfl, r10.2.ck hW⟩
              | exact ⟨_, _, rfl, rfl, r11.2.ck hW⟩
              | exact ⟨_, _, rfl, rfl, r12.2.ck hW⟩
              | exact ⟨_, _, rfl, rfl, r13.2.ck hW⟩
              | exact ⟨_, _, rfl, rfl, r14.2.ck hW⟩
              | exact ⟨_, _, rfl, rfl, r15.2.ck hW⟩
              | exact ⟨_, _, rfl, rfl, r16.2.ck hW⟩
              | exact ⟨_, _, rfl, rfl, r17.2.ck hW⟩
              | exact ⟨_, _, rfl, rfl, r18.2.ck hW⟩
              | exact ⟨_, _, rfl, rfl, r19.2.ck hW⟩
              | exact ⟨_, _, rfl, rfl, r1.ck hW⟩
              | exact ⟨_, _, rfl, rfl, r2.ck hW⟩
              | exact ⟨_, _, rfl, rfl, r3.ck hW⟩
              | exact ⟨_, _, rfl, rfl, r4.ck hW⟩
              | exact ⟨_, _, rfl, rfl, r5.ck hW⟩
              | exact ⟨_, _, rfl, rfl, r6.ck hW⟩
              | exact ⟨_, _, rfl, rfl, r7.ck hW⟩
              | exact ⟨_, _, rfl, rfl, r8.ck hW⟩
              | exact ⟨_, _, rfl, rfl, r9.ck hW⟩
              | exact ⟨_, _, rfl, rfl, r10.ck hW⟩
              | exact ⟨_, _, rfl, rfl, r11.ck hW⟩
              | exact ⟨_, _, rfl, rfl, r12.ck hW⟩
              | exact ⟨_, _, rfl, rfl, r13.ck hW⟩
              | exact ⟨_, _, rfl, rfl, r14.ck hW⟩
              | exact ⟨_, _, rfl, rfl, r15.ck hW⟩
              | exact ⟨_, _, rfl, rfl, r16.ck hW⟩
              | exact ⟨_, _, rfl, rfl, r17.ck hW⟩
              | exact ⟨_, _, rfl, rfl, r18.ck hW⟩
              | exact ⟨_, _, rfl, rfl, r19.ck hW⟩
              | exact ⟨_, _, rfl, rfl, r21.ck hW⟩
              | exact ⟨_, _, rfl, rfl, r22.ck hW⟩
              | exact ⟨_, _, rfl, rfl, r23.ck hW⟩
              | exact ⟨_, _, rfl, rfl, r24.ck hW⟩
              | exact ⟨_, _, rfl, rfl, r25.ck hW⟩
              | exact ⟨_, _, rfl, rfl, r26.ck hW⟩
              | exact ⟨_, _, rfl, rfl, r27.ck hW⟩
              | exact ⟨_, _, rfl, rfl, r28.ck hW⟩
              | exact ⟨_, _, rfl, rfl, r29.ck hW⟩
              | exact ⟨_, _, rfl, rfl, r21.2.ck hW⟩
              | exact ⟨_, _, rfl, rfl, r22.2.ck hW⟩
              | exact ⟨_, _, rfl, rfl, r23.2.ck hW⟩
              | exact ⟨_, _, rfl, rfl, r24.2.ck hW⟩
              | exact ⟨_, _, rfl, rfl, r25.2.ck hW⟩
              | exact ⟨_, _, rfl, rfl, r26.2.ck hW⟩
              | exact ⟨_, _, rfl, rfl, r27.2.ck hW⟩
              | exact ⟨_, _, rfl, rfl, r28.2.ck hW⟩
              | exact ⟨_, _, rfl, rfl, r29.2.ck hW⟩
              | exact ⟨_, _, rfl, rfl, r30.2.ck hW⟩
              | exact ⟨_, _, rfl, rfl, r31.2.ck hW⟩
              | exact ⟨_, _, rfl, rfl, r32.2.ck hW⟩
              | exact ⟨_, _, rfl, rfl, r33.2.ck hW⟩
              | exact ⟨_, _, rfl, rfl, r34.2.ck hW⟩
              | exact ⟨_, _, rfl, rfl, r35.2.ck hW⟩
              | exact ⟨_, _, rfl, rfl, r36.2.ck hW⟩
              | exact ⟨_, _, rfl, rfl, r37.2.ck hW⟩
              | exact ⟨_, _, rfl, rfl, r38.2.ck hW⟩
              | exact ⟨_, _, rfl, rfl, r39.2.ck hW⟩
        · refine x_iload_n hm rfl rfl ?_
          refine x_bipush hm rfl (v := nI 32) (by decide) ?_
          refine x_icmp_eq hm rfl (t := 36) rfl (fun h21 => ?_) (fun h21 => ?_)
          · refine x_iload_n hm rfl rfl ?_
            refine x_if_ge hm rfl (t := 47) rfl (fun h22 => ?_) (fun h22 => ?_)
            · have hn0 : ¬ a3 < 0 := fun q => Int32.not_lt.mpr h22 q
              refine x_iload_n hm rfl rfl ?_
              refine x_bipush hm rfl (v := nI 40) (by decide) ?_
              refine x_icmp_le hm rfl (t := 60) rfl (fun h23 => ?_) (fun h23 => ?_)
              · obtain ⟨z, hz, rfl⟩ : ∃ z, z ≤ 40 ∧ a3 = nI z := by
                  obtain ⟨z, hz, rfl⟩ := jI_of (v := a3) hn0
                  exact ⟨z, (jI_le hz (by decide)).mp h23, rfl⟩
                refine x_aload_n hm rfl rfl ?_
                refine x_getf hm rfl (gR rfl rfl) ?_
                refine x_iload_n hm rfl rfl ?_
                refine x_aald hm rfl (by first | exact lQ 2 (Or.inl rfl) rfl (shk hs) (by omega) (by decide) | exact lQ 3 (Or.inr (Or.inl rfl)) rfl rfl (by omega) (by decide)) ?_
                refine x_iload_n hm rfl rfl ?_
                refine x_iload_n hm rfl rfl ?_
                refine x_cVv hm rfl (by first | exact mCallSh hs (by decide) rfl rfl rfl rfl rfl) (t117 hs hz) (fun M24 r24 => ?_)
                refine x_aload_n hm rfl rfl ?_
                refine x_getf hm rfl (gR rfl rfl) ?_
                refine x_iload_n hm rfl rfl ?_
                refine x_aald hm rfl (by first | exact lQ 2 (Or.inl rfl) rfl (shk hs) (by omega) (by decide) | exact lQ 3 (Or.inr (Or.inl rfl)) rfl rfl (by omega) (by decide)) ?_
                refine x_getf hm rfl (by first | exact gI (sO hs) rfl) ?_
                refine x_iret hm rfl rfl (by first | rfl | exact bI_nar | decide) ?_
                first
                  | exact ⟨_, _, rfl, rfl, r24.ck hW⟩
                  | exact ⟨_, _, rfl, rfl, r24.2.ck hW⟩
                  | exact ⟨_, _, rfl, rfl, Ck.rf hW⟩
                  | exact ⟨_, _, rfl, rfl, r1.2.ck hW⟩
                  | exact ⟨_, _, rfl, rfl, r2.2.ck hW⟩
                  | exact ⟨_, _, rfl, rfl, r3.2.ck hW⟩
                  | exact ⟨_, _, rfl, rfl, r4.2.ck hW⟩
                  | exact ⟨_, _, rfl, rfl, r5.2.ck hW⟩
                  | exact ⟨_, _, rfl, rfl, r6.2.ck hW⟩
                  | exact ⟨_, _, rfl, rfl, r7.2.ck hW⟩
                  | exact ⟨_, _, rfl, rfl, r8.2.ck hW⟩
                  | exact ⟨_, _, rfl, rfl, r9.2.ck hW⟩
                  | exact ⟨_, _, rfl, rfl, r10.2.ck hW⟩
                  | exact ⟨_, _, rfl, rfl, r11.2.ck hW⟩
                  | exact ⟨_, _, rfl, rfl, r12.2.ck hW⟩
                  | exact ⟨_, _, rfl, rfl, r13.2.ck hW⟩
                  | exact ⟨_, _, rfl, rfl, r14.2.ck hW⟩
                  | exact ⟨_, _, rfl, rfl, r15.2.ck hW⟩
                  | exact ⟨_, _, rfl, rfl, r16.2.ck hW⟩
                  | exact ⟨_, _, rfl, rfl, r17.2.ck hW⟩
                  | exact ⟨_, _, rfl, rfl, r18.2.ck hW⟩
                  | exact ⟨_, _, rfl, rfl, r19.2.ck hW⟩
                  | exact ⟨_, _, rfl, rfl, r1.ck hW⟩
                  | exact ⟨_, _, rfl, rfl, r2.ck hW⟩
                  | exact ⟨_, _, rfl, rfl, r3.ck hW⟩
                  | exact ⟨_, _, rfl, rfl, r4.ck hW⟩
                  | exact ⟨_, _, rfl, rfl, r5.ck hW⟩
                  | exact ⟨_, _, rfl, rfl, r6.ck hW⟩
                  | exact ⟨_, _, rfl, rfl, r7.ck hW⟩
                  | exact ⟨_, _, rfl, rfl, r8.ck hW⟩
                  | exact ⟨_, _, rfl, rfl, r9.ck hW⟩
                  | exact ⟨_, _, rfl, rfl, r10.ck hW⟩
                  | exact ⟨_, _, rfl, rfl, r11.ck hW⟩
                  | exact ⟨_, _, rfl, rfl, r12.ck hW⟩
                  | exact ⟨_, _, rfl, rfl, r13.ck hW⟩
                  | exact ⟨_, _, rfl, rfl, r14.ck hW⟩
                  | exact ⟨_, _, rfl, rfl, r15.ck hW⟩
                  | exact ⟨_, _, rfl, rfl, r16.ck hW⟩
                  | exact ⟨_, _, rfl, rfl, r17.ck hW⟩
                  | exact ⟨_, _, rfl, rfl, r18.ck hW⟩
                  | exact ⟨_, _, rfl, rfl, r19.ck hW⟩
                  | exact ⟨_, _, rfl, rfl, r20.ck hW⟩
                  | exact ⟨_, _, rfl, rfl, r21.ck hW⟩
                  | exact ⟨_, _, rfl, rfl, r22.ck hW⟩
                  | exact ⟨_, _, rfl, rfl, r23.ck hW⟩
                  | exact ⟨_, _, rfl, rfl, r25.ck hW⟩
                  | exact ⟨_, _, rfl, rfl, r26.ck hW⟩
                  | exact ⟨_, _, rfl, rfl, r27.ck hW⟩
                  | exact ⟨_, _, rfl, rfl, r28.ck hW⟩
                  | exact ⟨_, _, rfl, rfl, r29.ck hW⟩
                  | exact ⟨_, _, rfl, rfl, r20.2.ck hW⟩
                  | exact ⟨_, _, rfl, rfl, r21.2.ck hW⟩
                  | exact ⟨_, _, rfl, rfl, r22.2.ck hW⟩
                  | exact ⟨_, _, rfl, rfl, r23.2.ck hW⟩
                  | exact ⟨_, _, rfl, rfl, r25.2.ck hW⟩
                  | exact ⟨_, _, rfl, rfl, r26.2.ck hW⟩
                  | exact ⟨_, _, rfl, rfl, r27.2.ck hW⟩
                  | exact ⟨_, _, rfl, rfl, r28.2.ck hW⟩
                  | exact ⟨_, _, rfl, rfl, r29.2.ck hW⟩
                  | exact ⟨_, _, rfl, rfl, r30.2.ck hW⟩
                  | exact ⟨_, _, rfl, rfl, r31.2.ck hW⟩
                  | exact ⟨_, _, rfl, rfl, r32.2.ck hW⟩
                  | exact ⟨_, _, rfl, rfl, r33.2.ck hW⟩
                  | exact ⟨_, _, rfl, rfl, r34.2.ck hW⟩
                  | exact ⟨_, _, rfl, rfl, r35.2.ck hW⟩
                  | exact ⟨_, _, rfl, rfl, r36.2.ck hW⟩
                  | exact ⟨_, _, rfl, rfl, r37.2.ck hW⟩
                  | exact ⟨_, _, rfl, rfl, r38.2.ck hW⟩
                  | exact ⟨_, _, rfl, rfl, r39.2.ck hW⟩
              · refine x_aload_n hm rfl rfl ?_
                refine x_ldcI hm rfl (v := (-1000001 : Int32)) (by decide +kernel) ?_
                refine x_cVi hm rfl rfl (t7 (by decide +kernel)) (fun v25 M25 r25 => ?_)
                refine x_iret hm rfl rfl (by first | rfl | exact bI_nar | decide) ?_
                first
                  | exact ⟨_, _, rfl, rfl, r25.ck hW⟩
                  | exact ⟨_, _, rfl, rfl, r25.2.ck hW⟩
                  | exact ⟨_, _, rfl, rfl, Ck.rf hW⟩
                  | exact ⟨_, _, rfl, rfl, r1.2.ck hW⟩
                  | exact ⟨_, _, rfl, rfl, r2.2.ck hW⟩
                  | exact ⟨_, _, rfl, rfl, r3.2.ck hW⟩
                  | exact ⟨_, _, rfl, rfl, r4.2.ck hW⟩
                  | exact ⟨_, _, rfl, rfl, r5.2.ck hW⟩
                  | exact ⟨_, _, rfl, rfl, r6.2.ck hW⟩
                  | exact ⟨_, _, rfl, rfl, r7.2.ck hW⟩
                  | exact ⟨_, _, rfl, rfl, r8.2.ck hW⟩
                  | exact ⟨_, _, rfl, rfl, r9.2.ck hW⟩
                  | exact ⟨_, _, rfl, rfl, r10.2.ck hW⟩
                  | exact ⟨_, _, rfl, rfl, r11.2.ck hW⟩
                  | exact ⟨_, _, rfl, rfl, r12.2.ck hW⟩
                  | exact ⟨_, _, rfl, rfl, r13.2.ck hW⟩
                  | exact ⟨_, _, rfl, rfl, r14.2.ck hW⟩
                  | exact ⟨_, _, rfl, rfl, r15.2.ck hW⟩
                  | exact ⟨_, _, rfl, rfl, r16.2.ck hW⟩
                  | exact ⟨_, _, rfl, rfl, r17.2.ck hW⟩
                  | exact ⟨_, _, rfl, rfl, r18.2.ck hW⟩
                  | exact ⟨_, _, rfl, rfl, r19.2.ck hW⟩
                  | exact ⟨_, _, rfl, rfl, r1.ck hW⟩
                  | exact ⟨_, _, rfl, rfl, r2.ck hW⟩
                  | exact ⟨_, _, rfl, rfl, r3.ck hW⟩
                  | exact ⟨_, _, rfl, rfl, r4.ck hW⟩
                  | exact ⟨_, _, rfl, rfl, r5.ck hW⟩
                  | exact ⟨_, _, rfl, rfl, r6.ck hW⟩
                  | exact ⟨_, _, rfl, rfl, r7.ck hW⟩
                  | exact ⟨_, _, rfl, rfl, r8.ck hW⟩
                  | exact ⟨_, _, rfl, rfl, r9.ck hW⟩
                  | exact ⟨_, _, rfl, rfl, r10.ck hW⟩
                  | exact ⟨_, _, rfl, rfl, r11.ck hW⟩
                  | exact ⟨_, _, rfl, rfl, r12.ck hW⟩
                  | exact ⟨_, _, rfl, rfl, r13.ck hW⟩
                  | exact ⟨_, _, rfl, rfl, r14.ck hW⟩
                  | exact ⟨_, _, rfl, rfl, r15.ck hW⟩
                  | exact ⟨_, _, rfl, rfl, r16.ck hW⟩
                  | exact ⟨_, _, rfl, rfl, r17.ck hW⟩
                  | exact ⟨_, _, rfl, rfl, r18.ck hW⟩
                  | exact ⟨_, _, rfl, rfl, r19.ck hW⟩
                  | exact ⟨_, _, rfl, rfl, r20.ck hW⟩
                  | exact ⟨_, _, rfl, rfl, r21.ck hW⟩
                  | exact ⟨_, _, rfl, rfl, r22.ck hW⟩
                  | exact ⟨_, _, rfl, rfl, r23.ck hW⟩
                  | exact ⟨_, _, rfl, rfl, r24.ck hW⟩
                  | exact ⟨_, _, rfl, rfl, r26.ck hW⟩
                  | exact ⟨_, _, rfl, rfl, r27.ck hW⟩
                  | exact ⟨_, _, rfl, rfl, r28.ck hW⟩
                  | exact ⟨_, _, rfl, rfl, r29.ck hW⟩
                  | exact ⟨_, _, rfl, rfl, r20.2.ck hW⟩
                  | exact ⟨_, _, rfl, rfl, r21.2.ck hW⟩
                  | exact ⟨_, _, rfl, rfl, r22.2.ck hW⟩
                  | exact ⟨_, _, rfl, rfl, r23.2.ck hW⟩
                  | exact ⟨_, _, rfl, rfl, r24.2.ck hW⟩
                  | exact ⟨_, _, rfl, rfl, r26.2.ck hW⟩
                  | exact ⟨_, _, rfl, rfl, r27.2.ck hW⟩
                  | exact ⟨_, _, rfl, rfl, r28.2.ck hW⟩
                  | exact ⟨_, _, rfl, rfl, r29.2.ck hW⟩
                  | exact ⟨_, _, rfl, rfl, r30.2.ck hW⟩
                  | exact ⟨_, _, rfl, rfl, r31.2.ck hW⟩
                  | exact ⟨_, _, rfl, rfl, r32.2.ck hW⟩
                  | exact ⟨_, _, rfl, rfl, r33.2.ck hW⟩
                  | exact ⟨_, _, rfl, rfl, r34.2.ck hW⟩
                  | exact ⟨_, _, rfl, rfl, r35.2.ck hW⟩
                  | exact ⟨_, _, rfl, rfl, r36.2.ck hW⟩
                  | exact ⟨_, _, rfl, rfl, r37.2.ck hW⟩
                  | exact ⟨_, _, rfl, rfl, r38.2.ck hW⟩
                  | exact ⟨_, _, rfl, rfl, r39.2.ck hW⟩
            · refine x_aload_n hm rfl rfl ?_
              refine x_ldcI hm rfl (v := (-1000007 : Int32)) (by decide +kernel) ?_
              refine x_cVi hm rfl rfl (t7 (by decide +kernel)) (fun v26 M26 r26 => ?_)
              refine x_iret hm rfl rfl (by first | rfl | exact bI_nar | decide) ?_
              first
                | exact ⟨_, _, rfl, rfl, r26.ck hW⟩
                | exact ⟨_, _, rfl, rfl, r26.2.ck hW⟩
                | exact ⟨_, _, rfl, rfl, Ck.rf hW⟩
                | exact ⟨_, _, rfl, rfl, r1.2.ck hW⟩
                | exact ⟨_, _, rfl, rfl, r2.2.ck hW⟩
                | exact ⟨_, _, rfl, rfl, r3.2.ck hW⟩
                | exact ⟨_, _, rfl, rfl, r4.2.ck hW⟩
                | exact ⟨_, _, rfl, rfl, r5.2.ck hW⟩
                | exact ⟨_, _, rfl, rfl, r6.2.ck hW⟩
                | exact ⟨_, _, rfl, rfl, r7.2.ck hW⟩
                | exact ⟨_, _, rfl, rfl, r8.2.ck hW⟩
                | exact ⟨_, _, rfl, rfl, r9.2.ck hW⟩
                | exact ⟨_, _, rfl, rfl, r10.2.ck hW⟩
                | exact ⟨_, _, rfl, rfl, r11.2.ck hW⟩
                | exact ⟨_, _, rfl, rfl, r12.2.ck hW⟩
                | exact ⟨_, _, rfl, rfl, r13.2.ck hW⟩
                | exact ⟨_, _, rfl, rfl, r14.2.ck hW⟩
                | exact ⟨_, _, rfl, rfl, r15.2.ck hW⟩
                | exact ⟨_, _, rfl, rfl, r16.2.ck hW⟩
                | exact ⟨_, _, rfl, rfl, r17.2.ck hW⟩
                | exact ⟨_, _, rfl, rfl, r18.2.ck hW⟩
                | exact ⟨_, _, rfl, rfl, r19.2.ck hW⟩
                | exact ⟨_, _, rfl, rfl, r1.ck hW⟩
                | exact ⟨_, _, rfl, rfl, r2.ck hW⟩
                | exact ⟨_, _, rfl, rfl, r3.ck hW⟩
                | exact ⟨_, _, rfl, rfl, r4.ck hW⟩
                | exact ⟨_, _, rfl, rfl, r5.ck hW⟩
                | exact ⟨_, _, rfl, rfl, r6.ck hW⟩
                | exact ⟨_, _, rfl, rfl, r7.ck hW⟩
                | exact ⟨_, _, rfl, rfl, r8.ck hW⟩
                | exact ⟨_, _, rfl, rfl, r9.ck hW⟩
                | exact ⟨_, _, rfl, rfl, r10.ck hW⟩
                | exact ⟨_, _, rfl, rfl, r11.ck hW⟩
                | exact ⟨_, _, rfl, rfl, r12.ck hW⟩
                | exact ⟨_, _, rfl, rfl, r13.ck hW⟩
                | exact ⟨_, _, rfl, rfl, r14.ck hW⟩
                | exact ⟨_, _, rfl, rfl, r15.ck hW⟩
                | exact ⟨_, _, rfl, rfl, r16.ck hW⟩
                | exact ⟨_, _, rfl, rfl, r17.ck hW⟩
                | exact ⟨_, _, rfl, rfl, r18.ck hW⟩
                | exact ⟨_, _, rfl, rfl, r19.ck hW⟩
                | exact ⟨_, _, rfl, rfl, r20.ck hW⟩
                | exact ⟨_, _, rfl, rfl, r21.ck hW⟩
                | exact ⟨_, _, rfl, rfl, r22.ck hW⟩
                | exact ⟨_, _, rfl, rfl, r23.ck hW⟩
                | exact ⟨_, _, rfl, rfl, r24.ck hW⟩
                | exact ⟨_, _, rfl, rfl, r25.ck hW⟩
                | exact ⟨_, _, rfl, rfl, r27.ck hW⟩
                | exact ⟨_, _, rfl, rfl, r28.ck hW⟩
                | exact ⟨_, _, rfl, rfl, r29.ck hW⟩
                | exact ⟨_, _, rfl, rfl, r20.2.ck hW⟩
                | exact ⟨_, _, rfl, rfl, r21.2.ck hW⟩
                | exact ⟨_, _, rfl, rfl, r22.2.ck hW⟩
                | exact ⟨_, _, rfl, rfl, r23.2.ck hW⟩
                | exact ⟨_, _, rfl, rfl, r24.2.ck hW⟩
                | exact ⟨_, _, rfl, rfl, r25.2.ck hW⟩
                | exact ⟨_, _, rfl, rfl, r27.2.ck hW⟩
                | exact ⟨_, _, rfl, rfl, r28.2.ck hW⟩
                | exact ⟨_, _, rfl, rfl, r29.2.ck hW⟩
                | exact ⟨_, _, rfl, rfl, r30.2.ck hW⟩
                | exact ⟨_, _, rfl, rfl, r31.2.ck hW⟩
                | exact ⟨_, _, rfl, rfl, r32.2.ck hW⟩
                | exact ⟨_, _, rfl, rfl, r33.2.ck hW⟩
                | exact ⟨_, _, rfl, rfl, r34.2.ck hW⟩
                | exact ⟨_, _, rfl, rfl, r35.2.ck hW⟩
                | exact ⟨_, _, rfl, rfl, r36.2.ck hW⟩
                | exact ⟨_, _, rfl, rfl, r37.2.ck hW⟩
                | exact ⟨_, _, rfl, rfl, r38.2.ck hW⟩
                | exact ⟨_, _, rfl, rfl, r39.2.ck hW⟩
          · refine x_aload_n hm rfl rfl ?_
            refine x_ldcI hm rfl (v := (-1000001 : Int32)) (by decide +kernel) ?_
            refine x_cVi hm rfl rfl (t7 (by decide +kernel)) (fun v27 M27 r27 => ?_)
            refine x_iret hm rfl rfl (by first | rfl | exact bI_nar | decide) ?_
            first
              | exact ⟨_, _, rfl, rfl, r27.ck hW⟩
              | exact ⟨_, _, rfl, rfl, r27.2.ck hW⟩
              | exact ⟨_, _, rfl, rfl, Ck.rf hW⟩
              | exact ⟨_, _, rfl, rfl, r1.2.ck hW⟩
              | exact ⟨_, _, rfl, rfl, r2.2.ck hW⟩
              | exact ⟨_, _, rfl, rfl, r3.2.ck hW⟩
              | exact ⟨_, _, rfl, rfl, r4.2.ck hW⟩
              | exact ⟨_, _, rfl, rfl, r5.2.ck hW⟩
              | exact ⟨_, _, rfl, rfl, r6.2.ck hW⟩
              | exact ⟨_, _, rfl, rfl, r7.2.ck hW⟩
              | exact ⟨_, _, rfl, rfl, r8.2.ck hW⟩
              | exact ⟨_, _, rfl, rfl, r9.2.ck hW⟩
              | exact ⟨_, _, rfl, rfl, r10.2.ck hW⟩
              | exact ⟨_, _, rfl, rfl, r11.2.ck hW⟩
              | exact ⟨_, _, rfl, rfl, r12.2.ck hW⟩
              | exact ⟨_, _, rfl, rfl, r13.2.ck hW⟩
              | exact ⟨_, _, rfl, rfl, r14.2.ck hW⟩
              | exact ⟨_, _, rfl, rfl, r15.2.ck hW⟩
              | exact ⟨_, _, rfl, rfl, r16.2.ck hW⟩
              | exact ⟨_, _, rfl, rfl, r17.2.ck hW⟩
              | exact ⟨_, _, rfl, rfl, r18.2.ck hW⟩
              | exact ⟨_, _, rfl, rfl, r19.2.ck hW⟩
              | exact ⟨_, _, rfl, rfl, r1.ck hW⟩
              | exact ⟨_, _, rfl, rfl, r2.ck hW⟩
              | exact ⟨_, _, rfl, rfl, r3.ck hW⟩
              | exact ⟨_, _, rfl, rfl, r4.ck hW⟩
              | exact ⟨_, _, rfl, rfl, r5.ck hW⟩
              | exact ⟨_, _, rfl, rfl, r6.ck hW⟩
              | exact ⟨_, _, rfl, rfl, r7.ck hW⟩
              | exact ⟨_, _, rfl, rfl, r8.ck hW⟩
              | exact ⟨_, _, rfl, rfl, r9.ck hW⟩
              | exact ⟨_, _, rfl, rfl, r10.ck hW⟩
              | exact ⟨_, _, rfl, rfl, r11.ck hW⟩
              | exact ⟨_, _, rfl, rfl, r12.ck hW⟩
              | exact ⟨_, _, rfl, rfl, r13.ck hW⟩
              | exact ⟨_, _, rfl, rfl, r14.ck hW⟩
              | exact ⟨_, _, rfl, rfl, r15.ck hW⟩
              | exact ⟨_, _, rfl, rfl, r16.ck hW⟩
              | exact ⟨_, _, rfl, rfl, r17.ck hW⟩
              | exact ⟨_, _, rfl, rfl, r18.ck hW⟩
              | exact ⟨_, _, rfl, rfl, r19.ck hW⟩
              | exact ⟨_, _, rfl, rfl, r20.ck hW⟩
              | exact ⟨_, _, rfl, rfl, r21.ck hW⟩
              | exact ⟨_, _, rfl, rfl, r22.ck hW⟩
              | exact ⟨_, _, rfl, rfl, r23.ck hW⟩
              | exact ⟨_, _, rfl, rfl, r24.ck hW⟩
              | exact ⟨_, _, rfl, rfl, r25.ck hW⟩
              | exact ⟨_, _, rfl, rfl, r26.ck hW⟩
              | exact ⟨_, _, rfl, rfl, r28.ck hW⟩
              | exact ⟨_, _, rfl, rfl, r29.ck hW⟩
              | exact ⟨_, _, rfl, rfl, r20.2.ck hW⟩
              | exact ⟨_, _, rfl, rfl, r21.2.ck hW⟩
              | exact ⟨_, _, rfl, rfl, r22.2.ck hW⟩
              | exact ⟨_, _, rfl, rfl, r23.2.ck hW⟩
              | exact ⟨_, _, rfl, rfl, r24.2.ck hW⟩
              | exact ⟨_, _, rfl, rfl, r25.2.ck hW⟩
              | exact ⟨_, _, rfl, rfl, r26.2.ck hW⟩
              | exact ⟨_, _, rfl, rfl, r28.2.ck hW⟩
              | exact ⟨_, _, rfl, rfl, r29.2.ck hW⟩
              | exact ⟨_, _, rfl, rfl, r30.2.ck hW⟩
              | exact ⟨_, _, rfl, rfl, r31.2.ck hW⟩
              | exact ⟨_, _, rfl, rfl, r32.2.ck hW⟩
              | exact ⟨_, _, rfl, rfl, r33.2.ck hW⟩
              | exact ⟨_, _, rfl, rfl, r34.2.ck hW⟩
              | exact ⟨_, _, rfl, rfl, r35.2.ck hW⟩
              | exact ⟨_, _, rfl, rfl, r36.2.ck hW⟩
              | exact ⟨_, _, rfl, rfl, r37.2.ck hW⟩
              | exact ⟨_, _, rfl, rfl, r38.2.ck hW⟩
              | exact ⟨_, _, rfl, rfl, r39.2.ck hW⟩
theorem t118 {a1 a2 a3 : Int32} (hW : Wf M) : ∃ v M', mT X 118 [.ref 0, .int a1, .int a2, .int a3] (con M) (some (.int v)) (con M') ∧ Ck M M' := by
  refine ti_of (row := _) rfl (Nat.le_of_ble_eq_true rfl) ?_
  have hm : mMet 118 = some _ := rfl
  refine x_aload_n hm rfl rfl ?_
  refine x_iload_n hm rfl rfl ?_
  refine x_cVe hm rfl rfl (t77) (fun v1 r1 => ?_)
  refine x_istore hm rfl rfl ?_
  refine x_iload hm rfl rfl ?_
  refine x_if_eq hm rfl (t := 19) rfl (fun h2 => ?_) (fun h2 => ?_)
  · obtain ⟨s, hs, rfl⟩ := (r1.resolve_left (fun e => FD_ne e h2)).2
    obtain ⟨z, hz, hsz⟩ := hW.len hs
    refine x_iload_n hm rfl rfl ?_
    refine x_iconst hm rfl (v := nI 0) (by decide) ?_
    refine x_aload_n hm rfl rfl ?_
    refine x_getf hm rfl (gR rfl rfl) ?_
    refine x_iload_n hm rfl rfl ?_
    refine x_aald hm rfl (by first | exact lQ 2 (Or.inl rfl) rfl (shk hs) (by omega) (by decide) | exact lQ 3 (Or.inr (Or.inl rfl)) rfl rfl (by omega) (by decide)) ?_
    refine x_getf hm rfl (by first | exact gI (sO hs) rfl) ?_
    rw [hsz]
    refine x_iconst hm rfl (v := nI 1) (by decide) ?_
    refine x_isub hm rfl ?_
    refine x_callS hm rfl rfl (t6) ?_
    refine x_if_ne hm rfl (t := 45) rfl (fun h3 => ?_) (fun h3 => ?_)
    · obtain ⟨i, hi, rfl⟩ := in_k rfl (by omega) (bI_ne0 h3)
      refine x_aload_n hm rfl rfl ?_
      refine x_getf hm rfl (gR rfl rfl) ?_
      refine x_iload_n hm rfl rfl ?_
      refine x_aald hm rfl (by first | exact lQ 2 (Or.inl rfl) rfl (shk hs) (by omega) (by decide) | exact lQ 3 (Or.inr (Or.inl rfl)) rfl rfl (by omega) (by decide)) ?_
      refine x_iload_n hm rfl rfl ?_
      refine x_iload_n hm rfl rfl ?_
      refine x_cVv hm rfl (by first | exact mCallSh hs (by decide) rfl rfl rfl rfl rfl) (t119 hs (by omega)) (fun M4 r4 => ?_)
      refine x_iconst hm rfl (v := nI 1) (by decide) ?_
      refine x_iret hm rfl rfl (by first | rfl | exact bI_nar | decide) ?_
      first
        | exact ⟨_, _, rfl, rfl, r4.2.ck hW⟩
        | exact ⟨_, _, rfl, rfl, r4.ck hW⟩
        | exact ⟨_, _, rfl, rfl, Ck.rf hW⟩
        | exact ⟨_, _, rfl, rfl, r1.2.ck hW⟩
        | exact ⟨_, _, rfl, rfl, r1.ck hW⟩
        | exact ⟨_, _, rfl, rfl, r2.2.ck hW⟩
        | exact ⟨_, _, rfl, rfl, r3.2.ck hW⟩
        | exact ⟨_, _, rfl, rfl, r5.2.ck hW⟩
        | exact ⟨_, _, rfl, rfl, r6.2.ck hW⟩
        | exact ⟨_, _, rfl, rfl, r7.2.ck hW⟩
        | exact ⟨_, _, rfl, rfl, r8.2.ck hW⟩
        | exact ⟨_, _, rfl, rfl, r9.2.ck hW⟩
        | exact ⟨_, _, rfl, rfl, r10.2.ck hW⟩
        | exact ⟨_, _, rfl, rfl, r11.2.ck hW⟩
        | exact ⟨_, _, rfl, rfl, r12.2.ck hW⟩
        | exact ⟨_, _, rfl, rfl, r13.2.ck hW⟩
        | exact ⟨_, _, rfl, rfl, r14.2.ck hW⟩
        | exact ⟨_, _, rfl, rfl, r15.2.ck hW⟩
        | exact ⟨_, _, rfl, rfl, r16.2.ck hW⟩
        | exact ⟨_, _, rfl, rfl, r17.2.ck hW⟩
        | exact ⟨_, _, rfl, rfl, r18.2.ck hW⟩
        | exact ⟨_, _, rfl, rfl, r19.2.ck hW⟩
        | exact ⟨_, _, rfl, rfl, r2.ck hW⟩
        | exact ⟨_, _, rfl, rfl, r3.ck hW⟩
        | exact ⟨_, _, rfl, rfl, r5.ck hW⟩
        | exact ⟨_, _, rfl, rfl, r6.ck hW⟩
        | exact ⟨_, _, rfl, rfl, r7.ck hW⟩
        | exact ⟨_, _, rfl, rfl, r8.ck hW⟩
        | exact ⟨_, _, rfl, rfl, r9.ck hW⟩
        | exact ⟨_, _, rfl, rfl, r10.ck hW⟩
        | exact ⟨_, _, rfl, rfl, r11.ck hW⟩
        | exact ⟨_, _, rfl, rfl, r12.ck hW⟩
        | exact ⟨_, _, rfl, rfl, r13.ck hW⟩
        | exact ⟨_, _, rfl, rfl, r14.ck hW⟩
        | exact ⟨_, _, rfl, rfl, r15.ck hW⟩
        | exact ⟨_, _, rfl, rfl, r16.ck hW⟩
        | exact ⟨_, _, rfl, rfl, r17.ck hW⟩
        | exact ⟨_, _, rfl, rfl, r18.ck hW⟩
        | exact ⟨_, _, rfl, rfl, r19.ck hW⟩
        | exact ⟨_, _, rfl, rfl, r20.ck hW⟩
        | exact ⟨_, _, rfl, rfl, r21.ck hW⟩
        | exact ⟨_, _, rfl, rfl, r22.ck hW⟩
        | exact ⟨_, _, rfl, rfl, r23.ck hW⟩
        | exact ⟨_, _, rfl, rfl, r24.ck hW⟩
        | exact ⟨_, _, rfl, rfl, r25.ck hW⟩
        | exact ⟨_, _, rfl, rfl, r26.ck hW⟩
        | exact ⟨_, _, rfl, rfl, r27.ck hW⟩
        | exact ⟨_, _, rfl, rfl, r28.ck hW⟩
        | exact ⟨_, _, rfl, rfl, r29.ck hW⟩
        | exact ⟨_, _, rfl, rfl, r20.2.ck hW⟩
        | exact ⟨_, _, rfl, rfl, r21.2.ck hW⟩
        | exact ⟨_, _, rfl, rfl, r22.2.ck hW⟩
        | exact ⟨_, _, rfl, rfl, r23.2.ck hW⟩
        | exact ⟨_, _, rfl, rfl, r24.2.ck hW⟩
        | exact ⟨_, _, rfl, rfl, r25.2.ck hW⟩
        | exact ⟨_, _, rfl, rfl, r26.2.ck hW⟩
        | exact ⟨_, _, rfl, rfl, r27.2.ck hW⟩
        | exact ⟨_, _, rfl, rfl, r28.2.ck hW⟩
        | exact ⟨_, _, rfl, rfl, r29.2.ck hW⟩
        | exact ⟨_, _, rfl, rfl, r30.2.ck hW⟩
        | exact ⟨_, _, rfl, rfl, r31.2.ck hW⟩
        | exact ⟨_, _, rfl, rfl, r32.2.ck hW⟩
        | exact ⟨_, _, rfl, rfl, r33.2.ck hW⟩
        | exact ⟨_, _, rfl, rfl, r34.2.ck hW⟩
        | exact ⟨_, _, rfl, rfl, r35.2.ck hW⟩
        | exact ⟨_, _, rfl, rfl, r36.2.ck hW⟩
        | exact ⟨_, _, rfl, rfl, r37.2.ck hW⟩
        | exact ⟨_, _, rfl, rfl, r38.2.ck hW⟩
        | exact ⟨_, _, rfl, rfl, r39.2.ck hW⟩
    · refine x_aload_n hm rfl rfl ?_
      refine x_ldcI hm rfl (v := (-1000001 : Int32)) (by decide +kernel) ?_
      refine x_cVi hm rfl rfl (t7 (by decide +kernel)) (fun v5 M5 r5 => ?_)
      refine x_iret hm rfl rfl (by first | rfl | exact bI_nar | decide) ?_
      first
        | exact ⟨_, _, rfl, rfl, r5.2.ck hW⟩
        | exact ⟨_, _, rfl, rfl, r5.ck hW⟩
        | exact ⟨_, _, rfl, rfl, Ck.rf hW⟩
        | exact ⟨_, _, rfl, rfl, r1.2.ck hW⟩
        | exact ⟨_, _, rfl, rfl, r1.ck hW⟩
        | exact ⟨_, _, rfl, rfl, r2.2.ck hW⟩
        | exact ⟨_, _, rfl, rfl, r3.2.ck hW⟩
        | exact ⟨_, _, rfl, rfl, r4.2.ck hW⟩
        | exact ⟨_, _, rfl, rfl, r6.2.ck hW⟩
        | exact ⟨_, _, rfl, rfl, r7.2.ck hW⟩
        | exact ⟨_, _, rfl, rfl, r8.2.ck hW⟩
        | exact ⟨_, _, rfl, rfl, r9.2.ck hW⟩
        | exact ⟨_, _, rfl, rfl, r10.2.ck hW⟩
        | exact ⟨_, _, rfl, rfl, r11.2.ck hW⟩
        | exact ⟨_, _, rfl, rfl, r12.2.ck hW⟩
        | exact ⟨_, _, rfl, rfl, r13.2.ck hW⟩
        | exact ⟨_, _, rfl, rfl, r14.2.ck hW⟩
        | exact ⟨_, _, rfl, rfl, r15.2.ck hW⟩
        | exact ⟨_, _, rfl, rfl, r16.2.ck hW⟩
        | exact ⟨_, _, rfl, rfl, r17.2.ck hW⟩
        | exact ⟨_, _, rfl, rfl, r18.2.ck hW⟩
        | exact ⟨_, _, rfl, rfl, r19.2.ck hW⟩
        | exact ⟨_, _, rfl, rfl, r2.ck hW⟩
        | exact ⟨_, _, rfl, rfl, r3.ck hW⟩
        | exact ⟨_, _, rfl, rfl, r4.ck hW⟩
        | exact ⟨_, _, rfl, rfl, r6.ck hW⟩
        | exact ⟨_, _, rfl, rfl, r7.ck hW⟩
        | exact ⟨_, _, rfl, rfl, r8.ck hW⟩
        | exact ⟨_, _, rfl, rfl, r9.ck hW⟩
        | exact ⟨_, _, rfl, rfl, r10.ck hW⟩
        | exact ⟨_, _, rfl, rfl, r11.ck hW⟩
        | exact ⟨_, _, rfl, rfl, r12.ck hW⟩
        | exact ⟨_, _, rfl, rfl, r13.ck hW⟩
        | exact ⟨_, _, rfl, rfl, r14.ck hW⟩
        | exact ⟨_, _, rfl, rfl, r15.ck hW⟩
        | exact ⟨_, _, rfl, rfl, r16.ck hW⟩
        | exact ⟨_, _, rfl, rfl, r17.ck hW⟩
        | exact ⟨_, _, rfl, rfl, r18.ck hW⟩
        | exact ⟨_, _, rfl, rfl, r19.ck hW⟩
        | exact ⟨_, _, rfl, rfl, r20.ck hW⟩
        | exact ⟨_, _, rfl, rfl, r21.ck hW⟩
        | exact ⟨_, _, rfl, rfl, r22.ck hW⟩
        | exact ⟨_, _, rfl, rfl, r23.ck hW⟩
        | exact ⟨_, _, rfl, rfl, r24.ck hW⟩
        | exact ⟨_, _, rfl, rfl, r25.ck hW⟩
        | exact ⟨_, _, rfl, rfl, r26.ck hW⟩
        | exact ⟨_, _, rfl, rfl, r27.ck hW⟩
        | exact ⟨_, _, rfl, rfl, r28.ck hW⟩
        | exact ⟨_, _, rfl, rfl, r29.ck hW⟩
        | exact ⟨_, _, rfl, rfl, r20.2.ck hW⟩
        | exact ⟨_, _, rfl, rfl, r21.2.ck hW⟩
        | exact ⟨_, _, rfl, rfl, r22.2.ck hW⟩
        | exact ⟨_, _, rfl, rfl, r23.2.ck hW⟩
        | exact ⟨_, _, rfl, rfl, r24.2.ck hW⟩
        | exact ⟨_, _, rfl, rfl, r25.2.ck hW⟩
        | exact ⟨_, _, rfl, rfl, r26.2.ck hW⟩
        | exact ⟨_, _, rfl, rfl, r27.2.ck hW⟩
        | exact ⟨_, _, rfl, rfl, r28.2.ck hW⟩
        | exact ⟨_, _, rfl, rfl, r29.2.ck hW⟩
        | exact ⟨_, _, rfl, rfl, r30.2.ck hW⟩
        | exact ⟨_, _, rfl, rfl, r31.2.ck hW⟩
        | exact ⟨_, _, rfl, rfl, r32.2.ck hW⟩
        | exact ⟨_, _, rfl, rfl, r33.2.ck hW⟩
        | exact ⟨_, _, rfl, rfl, r34.2.ck hW⟩
        | exact ⟨_, _, rfl, rfl, r35.2.ck hW⟩
        | exact ⟨_, _, rfl, rfl, r36.2.ck hW⟩
        | exact ⟨_, _, rfl, rfl, r37.2.ck hW⟩
        | exact ⟨_, _, rfl, rfl, r38.2.ck hW⟩
        | exact ⟨_, _, rfl, rfl, r39.2.ck hW⟩
  · refine x_aload_n hm rfl rfl ?_
    refine x_iload hm rfl rfl ?_
    refine x_cVi hm rfl rfl (t7 (r1.resolve_right (fun e => h2 e.1))) (fun v6 M6 r6 => ?_)
    refine x_iret hm rfl rfl (by first | rfl | exact bI_nar | decide) ?_
    first
      | exact ⟨_, _, rfl, rfl, r6.2.ck hW⟩
      | exact ⟨_, _, rfl, rfl, r6.ck hW⟩
      | exact ⟨_, _, rfl, rfl, Ck.rf hW⟩
      | exact ⟨_, _, rfl, rfl, r1.2.ck hW⟩
      | exact ⟨_, _, rfl, rfl, r1.ck hW⟩
      | exact ⟨_, _, rfl, rfl, r2.2.ck hW⟩
      | exact ⟨_, _, rfl, rfl, r3.2.ck hW⟩
      | exact ⟨_, _, rfl, rfl, r4.2.ck hW⟩
      | exact ⟨_, _, rfl, rfl, r5.2.ck hW⟩
      | exact ⟨_, _, rfl, rfl, r7.2.ck hW⟩
      | exact ⟨_, _, rfl, rfl, r8.2.ck hW⟩
      | exact ⟨_, _, rfl, rfl, r9.2.ck hW⟩
      | exact ⟨_, _, rfl, rfl, r10.2.ck hW⟩
      | exact ⟨_, _, rfl, rfl, r11.2.ck hW⟩
      | exact ⟨_, _, rfl, rfl, r12.2.ck hW⟩
      | exact ⟨_, _, rfl, rfl, r13.2.ck hW⟩
      | exact ⟨_, _, rfl, rfl, r14.2.ck hW⟩
      | exact ⟨_, _, rfl, rfl, r15.2.ck hW⟩
      | exact ⟨_, _, rfl, rfl, r16.2.ck hW⟩
      | exact ⟨_, _, rfl, rfl, r17.2.ck hW⟩
      | exact ⟨_, _, rfl, rfl, r18.2.ck hW⟩
      | exact ⟨_, _, rfl, rfl, r19.2.ck hW⟩
      | exact ⟨_, _, rfl, rfl, r2.ck hW⟩
      | exact ⟨_, _, rfl, rfl, r3.ck hW⟩
      | exact ⟨_, _, rfl, rfl, r4.ck hW⟩
      | exact ⟨_, _, rfl, rfl, r5.ck hW⟩
      | exact ⟨_, _, rfl, rfl, r7.ck hW⟩
      | exact ⟨_, _, rfl, rfl, r8.ck hW⟩
      | exact ⟨_, _, rfl, rfl, r9.ck hW⟩
      | exact ⟨_, _, rfl, rfl, r10.ck hW⟩
      | exact ⟨_, _, rfl, rfl, r11.ck hW⟩
      | exact ⟨_, _, rfl, rfl, r12.ck hW⟩
      | exact ⟨_, _, rfl, rfl, r13.ck hW⟩
      | exact ⟨_, _, rfl, rfl, r14.ck hW⟩
      | exact ⟨_, _, rfl, rfl, r15.ck hW⟩
      | exact ⟨_, _, rfl, rfl, r16.ck hW⟩
      | exact ⟨_, _, rfl, rfl, r17.ck hW⟩
      | exact ⟨_, _, rfl, rfl, r18.ck hW⟩
      | exact ⟨_, _, rfl, rfl, r19.ck hW⟩
      | exact ⟨_, _, rfl, rfl, r20.ck hW⟩
      | exact ⟨_, _, rfl, rfl, r21.ck hW⟩
      | exact ⟨_, _, rfl, rfl, r22.ck hW⟩
      | exact ⟨_, _, rfl, rfl, r23.ck hW⟩
      | exact ⟨_, _, rfl, rfl, r24.ck hW⟩
      | exact ⟨_, _, rfl, rfl, r25.ck hW⟩
      | exact ⟨_, _, rfl, rfl, r26.ck hW⟩
      | exact ⟨_, _, rfl, rfl, r27.ck hW⟩
      | exact ⟨_, _, rfl, rfl, r28.ck hW⟩
      | exact ⟨_, _, rfl, rfl, r29.ck hW⟩
      | exact ⟨_, _, rfl, rfl, r20.2.ck hW⟩
      | exact ⟨_, _, rfl, rfl, r21.2.ck hW⟩
      | exact ⟨_, _, rfl, rfl, r22.2.ck hW⟩
      | exact ⟨_, _, rfl, rfl, r23.2.ck hW⟩
      | exact ⟨_, _, rfl, rfl, r24.2.ck hW⟩
      | exact ⟨_, _, rfl, rfl, r25.2.ck hW⟩
      | exact ⟨_, _, rfl, rfl, r26.2.ck hW⟩
      | exact ⟨_, _, rfl, rfl, r27.2.ck hW⟩
      | exact ⟨_, _, rfl, rfl, r28.2.ck hW⟩
      | exact ⟨_, _, rfl, rfl, r29.2.ck hW⟩
      | exact ⟨_, _, rfl, rfl, r30.2.ck hW⟩
      | exact ⟨_, _, rfl, rfl, r31.2.ck hW⟩
      | exact ⟨_, _, rfl, rfl, r32.2.ck hW⟩
      | exact ⟨_, _, rfl, rfl, r33.2.ck hW⟩
      | exact ⟨_, _, rfl, rfl, r34.2.ck hW⟩
      | exact ⟨_, _, rfl, rfl, r35.2.ck hW⟩
      | exact ⟨_, _, rfl, rfl, r36.2.ck hW⟩
      | exact ⟨_, _, rfl, rfl, r37.2.ck hW⟩
      | exact ⟨_, _, rfl, rfl, r38.2.ck hW⟩
      | exact ⟨_, _, rfl, rfl, r39.2.ck hW⟩
theorem l80 {p t : Nat} {c : Int32} {M0 : mM} (hW : Wf M) (hs : s ≤ 3) (ht : t < 8) (h0 : Bq 35 M0 M) : ∀ (n k : Nat) (M1 : mM), 41 - k < n → k ≤ 41 → Tw 35 M M1 → mEv X (QI (fun v M' => (v = nI 0 ∨ v = nI 1) ∧ Bq 35 M0 M')) 80 32 [some (.ref 0), some (.ref (2 * s + 58)), some (.int (nI p)), some (.int (nI t)), some (.int c), some (.int (nI k))] [] (con M1) := by
  have hm : mMet 80 = some _ := rfl
  intro n
  induction n with
  | zero =>
    intro k M1 hkn hkb hT
    omega
  | succ n ih =>
    intro k M1 hkn hkb hT
    obtain ⟨z, hz, hsz⟩ := (hT.1 hW).len hs
    refine x_iload hm rfl rfl ?_
    refine x_aload_n hm rfl rfl ?_
    refine x_getf hm rfl (by first | exact gI (sO hs) rfl) ?_
    rw [hsz]
    refine x_icmp_ge hm rfl (t := 89) rfl (fun h1 => ?_) (fun h1 => ?_)
    · refine x_iconst hm rfl (v := nI 1) (by decide) ?_
      refine x_iret hm rfl rfl (by first | rfl | exact bI_nar | decide) ?_
      exact ⟨_, _, rfl, rfl, by first | exact Or.inl rfl | exact Or.inr rfl, h0.trans hT.bq⟩
    · have hk : k < z := Nat.lt_of_not_le fun h => h1 (nI_le h (by omega))
      refine x_aload_n hm rfl rfl ?_
      refine x_getf hm rfl (by first | exact gR (sO hs) rfl) ?_
      refine x_iload hm rfl rfl ?_
      refine x_iald hm rfl (by first | exact lI (sRow hs) (by omega) (by decide) | exact lI rfl (by omega) (by decide)) ?_
      refine x_iconst hm rfl (v := (-1 : Int32)) (by decide) ?_
      refine x_icmp_eq hm rfl (t := 75) rfl (fun h2 => ?_) (fun h2 => ?_)
      · refine x_aload_n hm rfl rfl ?_
        refine x_getf hm rfl (gR rfl rfl) ?_
        refine x_iconst hm rfl (v := nI 1) (by decide) ?_
        refine x_cVv hm rfl rfl (t30 (by decide) (by decide) (hT.1 hW)) (fun M3 r3 => ?_)
        refine x_iinc hm rfl rfl (v := nI 1) (by decide) rfl ?_
        rw [jI_add]
        refine x_goto hm rfl (t := 32) rfl ?_
        first
          | exact ih _ _ (by omega) (by omega) (hT.trans r3)
          | exact ih _ _ (by omega) (by omega) (hT.trans r2)
          | exact ih _ _ (by omega) (by omega) (hT.trans r4)
          | exact ih _ _ (by omega) (by omega) (hT.trans r5)
          | exact ih _ _ (by omega) (by omega) (hT.trans r6)
          | exact ih _ _ (by omega) (by omega) (hT.trans r7)
      · refine x_aload_n hm rfl rfl ?_
        refine x_getf hm rfl (by first | exact gR (sO hs) rfl) ?_
        refine x_iload hm rfl rfl ?_
        refine x_iald hm rfl (by first | exact lI (sRow hs) (by omega) (by decide) | exact lI rfl (by omega) (by decide)) ?_
        refine x_aload_n hm rfl rfl ?_
        refine x_getf hm rfl (gR rfl rfl) ?_
        refine x_getf hm rfl (gR rfl rfl) ?_
        refine x_iconst hm rfl (v := nI 2) (by decide) ?_
        refine x_aald hm rfl (by first | exact lQ 2 (Or.inl rfl) rfl (shk hs) (by omega) (by decide) | exact lQ 3 (Or.inr (Or.inl rfl)) rfl rfl (by omega) (by decide)) ?_
        refine x_iload_n hm rfl rfl ?_
        refine x_iald hm rfl (by first | exact lI (sRow hs) (by omega) (by decide) | exact lI rfl (by omega) (by decide)) ?_
        refine x_icmp_eq hm rfl (t := 75) rfl (fun h4 => ?_) (fun h4 => ?_)
        · refine x_aload_n hm rfl rfl ?_
          refine x_getf hm rfl (gR rfl rfl) ?_
          refine x_iconst hm rfl (v := nI 1) (by decide) ?_
          refine x_cVv hm rfl rfl (t30 (by decide) (by decide) (hT.1 hW)) (fun M5 r5 => ?_)
          refine x_iinc hm rfl rfl (v := nI 1) (by decide) rfl ?_
          rw [jI_add]
          refine x_goto hm rfl (t := 32) rfl ?_
          first
            | exact ih _ _ (by omega) (by omega) (hT.trans r5)
            | exact ih _ _ (by omega) (by omega) (hT.trans r2)
            | exact ih _ _ (by omega) (by omega) (hT.trans r3)
            | exact ih _ _ (by omega) (by omega) (hT.trans r4)
            | exact ih _ _ (by omega) (by omega) (hT.trans r6)
            | exact ih _ _ (by omega) (by omega) (hT.trans r7)
        · refine x_iconst hm rfl (v := nI 0) (by decide) ?_
          refine x_iret hm rfl rfl (by first | rfl | exact bI_nar | decide) ?_
          exact ⟨_, _, rfl, rfl, by first | exact Or.inl rfl | exact Or.inr rfl, h0.trans hT.bq⟩
theorem t80 {p t : Nat} {c : Int32} (hW : Wf M) (hs : s ≤ 3) (hp : p < 8) (ht : t < 8) : ∃ v M', mT X 80 [.ref 0, .ref (2 * s + 58), .int (nI p), .int (nI t), .int c] (con M) (some (.int v)) (con M') ∧ (v = nI 0 ∨ v = nI 1) ∧ Bq 35 M M' := by
  refine ti_of (row := _) rfl (Nat.le_of_ble_eq_true rfl) ?_
  have hm : mMet 80 = some _ := rfl
  refine x_aload_n hm rfl rfl ?_
  refine x_cVv hm rfl rfl (t42 hW) (fun M1 r1 => ?_)
  obtain ⟨w, hw, hw2⟩ := (r1.1 hW).csort (b := 35) (by decide) t
  refine x_aload_n hm rfl rfl ?_
  refine x_getf hm rfl (gR rfl rfl) ?_
  refine x_getf hm rfl (gR rfl rfl) ?_
  refine x_iconst hm rfl (v := nI 3) (by decide) ?_
  refine x_aload_n hm rfl rfl ?_
  refine x_getf hm rfl (gR rfl rfl) ?_
  refine x_getf hm rfl (gR rfl rfl) ?_
  refine x_iconst hm rfl (v := nI 0) (by decide) ?_
  refine x_aald hm rfl (by first | exact lQ 2 (Or.inl rfl) rfl (shk hs) (by omega) (by decide) | exact lQ 3 (Or.inr (Or.inl rfl)) rfl rfl (by omega) (by decide)) ?_
  refine x_iload_n hm rfl rfl ?_
  refine x_iald hm rfl (by first | exact lI (sRow hs) (by omega) (by decide) | exact lI rfl (by omega) (by decide)) ?_
  rw [show M1 37 t = nI w from hw2]
  refine x_iadd hm rfl ?_
  rw [jI_add]
  refine x_aald (v := .ref (35 + 9 + (3 + w))) hm rfl ?_ ?_
  · exact lQ 3 (Or.inr (Or.inl rfl)) (tF (b := 35) (by decide)) (tFk (by omega)) (by omega) (by decide)
  refine x_iload_n hm rfl rfl ?_
  refine x_iload hm rfl rfl ?_
  refine x_iast hm rfl (sI (tRowF (b := 35) (by decide) (by omega)) (by omega) (by decide)) ?_
  refine x_iconst hm rfl (v := nI 0) (by decide) ?_
  refine x_istore hm rfl rfl ?_
  have tw := folk_tw (M := M1) (b := 35) (f := 3 + w) (t := p) (v := c) (by decide) (by omega)
  exact l80 (tw.1 (r1.1 hW)) hs ht (r1.trans tw.bq) _ 0 _ (Nat.lt_succ_self _) (Nat.zero_le _) Tw.rf
theorem l75 {p t : Nat} {c : Int32} (hW : Wf M) (hs : s ≤ 3) (hp : p < 8) (ht : t < 8) : ∀ (n k : Nat) (g : Int32) (M1 : mM), 10 - k < n → k ≤ 10 → Bq 35 M M1 → mEv X (QI (fun _ M' => Bq 35 M M')) 75 27 [some (.ref 0), some (.int (nI s)), some (.int (nI p)), some (.int (nI t)), some (.int c), some (.int g), some (.int (nI k))] [] (con M1) := by
  have hm : mMet 75 = some _ := rfl
  intro n
  induction n with
  | zero =>
    intro k g M1 hkn hkb hT
    omega
  | succ n ih =>
    intro k g M1 hkn hkb hT
    refine x_iload hm rfl rfl ?_
    refine x_bipush hm rfl (v := nI 9) (by decide) ?_
    refine x_icmp_gt hm rfl (t := 60) rfl (fun h1 => ?_) (fun h1 => ?_)
    · refine x_iload hm rfl rfl ?_
      refine x_iret hm rfl rfl (by first | rfl | exact bI_nar | decide) ?_
      exact ⟨_, _, rfl, rfl, hT⟩
    · have hk : k ≤ 9 := Nat.le_of_not_lt fun h => h1 (nI_lt h (by omega))
      refine x_aload_n hm rfl rfl ?_
      refine x_aload_n hm rfl rfl ?_
      refine x_getf hm rfl (gR rfl rfl) ?_
      refine x_iload_n hm rfl rfl ?_
      refine x_aald hm rfl (by first | exact lQ 2 (Or.inl rfl) rfl (shk hs) (by omega) (by decide) | exact lQ 3 (Or.inr (Or.inl rfl)) rfl rfl (by omega) (by decide)) ?_
      refine x_iload_n hm rfl rfl ?_
      refine x_iload_n hm rfl rfl ?_
      refine x_iload hm rfl rfl ?_
      refine x_cVi hm rfl rfl (t80 (hT.1 hW) hs (by omega) (by omega)) (fun v2 M2 r2 => ?_)
      refine x_if_eq hm rfl (t := 54) rfl (fun h3 => ?_) (fun h3 => ?_)
      · refine x_iinc hm rfl rfl (v := nI 1) (by decide) rfl ?_
        rw [jI_add]
        refine x_goto hm rfl (t := 27) rfl ?_
        exact ih _ _ _ (by omega) (by omega) (hT.trans r2.2)
      · refine x_iinc hm rfl rfl (v := nI 1) (by decide) rfl ?_
        refine x_iinc hm rfl rfl (v := nI 1) (by decide) rfl ?_
        rw [jI_add]
        refine x_goto hm rfl (t := 27) rfl ?_
        exact ih _ _ _ (by omega) (by omega) (hT.trans r2.2)
theorem t75 {a1 a2 a3 : Int32} (hW : Wf M) : ∃ v M', mT X 75 [.ref 0, .int a1, .int a2, .int a3] (con M) (some (.int v)) (con M') ∧ Cq M M' := by
  refine ti_of (row := _) rfl (Nat.le_of_ble_eq_true rfl) ?_
  have hm : mMet 75 = some _ := rfl
  refine x_aload_n hm rfl rfl ?_
  refine x_iload_n hm rfl rfl ?_
  refine x_iload_n hm rfl rfl ?_
  refine x_iload_n hm rfl rfl ?_
  refine x_cVe hm rfl rfl (t76 hW) (fun v1 r1 => ?_)
  refine x_istore hm rfl rfl ?_
  refine x_iload hm rfl rfl ?_
  refine x_if_eq hm rfl (t := 21) rfl (fun h2 => ?_) (fun h2 => ?_)
  · obtain ⟨s, t, p, hs, ht, hp, rfl, rfl, rfl⟩ := (r1.resolve_left (fun e => FD_ne e h2)).2
    refine x_iconst hm rfl (v := nI 0) (by decide) ?_
    refine x_istore hm rfl rfl ?_
    refine x_iconst hm rfl (v := nI 0) (by decide) ?_
    refine x_istore hm rfl rfl ?_
    exact ev_cq hW (l75 hW hs hp ht _ 0 _ _ (Nat.lt_succ_self _) (Nat.zero_le _) Bq.rf)
  · refine x_aload_n hm rfl rfl ?_
    refine x_iload hm rfl rfl ?_
    refine x_cVi hm rfl rfl (t7 (r1.resolve_right (fun e => h2 e.1))) (fun v3 M3 r3 => ?_)
    refine x_iret hm rfl rfl (by first | rfl | exact bI_nar | decide) ?_
    first
      | exact ⟨_, _, rfl, rfl, r3.2.cq hW⟩
      | exact ⟨_, _, rfl, rfl, r3.cq hW⟩
      | exact ⟨_, _, rfl, rfl, Cq.rf hW⟩
      | exact ⟨_, _, rfl, rfl, r1.2.cq hW⟩
      | exact ⟨_, _, rfl, rfl, r1.cq hW⟩
      | exact ⟨_, _, rfl, rfl, r2.2.cq hW⟩
      | exact ⟨_, _, rfl, rfl, r4.2.cq hW⟩
      | exact ⟨_, _, rfl, rfl, r5.2.cq hW⟩
      | exact ⟨_, _, rfl, rfl, r6.2.cq hW⟩
      | exact ⟨_, _, rfl, rfl, r7.2.cq hW⟩
      | exact ⟨_, _, rfl, rfl, r8.2.cq hW⟩
      | exact ⟨_, _, rfl, rfl, r9.2.cq hW⟩
      | exact ⟨_, _, rfl, rfl, r10.2.cq hW⟩
      | exact ⟨_, _, rfl, rfl, r11.2.cq hW⟩
      | exact ⟨_, _, rfl, rfl, r12.2.cq hW⟩
      | exact ⟨_, _, rfl, rfl, r13.2.cq hW⟩
      | exact ⟨_, _, rfl, rfl, r14.2.cq hW⟩
      | exact ⟨_, _, rfl, rfl, r15.2.cq hW⟩
      | exact ⟨_, _, rfl, rfl, r16.2.cq hW⟩
      | exact ⟨_, _, rfl, rfl, r17.2.cq hW⟩
      | exact ⟨_, _, rfl, rfl, r18.2.cq hW⟩
      | exact ⟨_, _, rfl, rfl, r19.2.cq hW⟩
      | exact ⟨_, _, rfl, rfl, r2.cq hW⟩
      | exact ⟨_, _, rfl, rfl, r4.cq hW⟩
      | exact ⟨_, _, rfl, rfl, r5.cq hW⟩
      | exact ⟨_, _, rfl, rfl, r6.cq hW⟩
      | exact ⟨_, _, rfl, rfl, r7.cq hW⟩
      | exact ⟨_, _, rfl, rfl, r8.cq hW⟩
      | exact ⟨_, _, rfl, rfl, r9.cq hW⟩
      | exact ⟨_, _, rfl, rfl, r10.cq hW⟩
      | exact ⟨_, _, rfl, rfl, r11.cq hW⟩
theorem l81 {p t : Nat} {c : Int32} (hW : Wf M) (hs : s ≤ 3) (hp : p < 8) (ht : t < 8) : ∀ (n k : Nat) (M1 : mM), 10 - k < n → k ≤ 10 → Bq 35 M M1 → mEv X (QI (fun _ M' => Bq 35 M M')) 81 24 [some (.ref 0), some (.int (nI s)), some (.int (nI p)), some (.int (nI t)), some (.int c), some (.int (nI k))] [] (con M1) := by
  have hm : mMet 81 = some _ := rfl
  intro n
  induction n with
  | zero =>
    intro k M1 hkn hkb hT
    omega
  | succ n ih =>
    intro k M1 hkn hkb hT
    refine x_iload hm rfl rfl ?_
    refine x_bipush hm rfl (v := nI 9) (by decide) ?_
    refine x_icmp_gt hm rfl (t := 57) rfl (fun h1 => ?_) (fun h1 => ?_)
    · refine x_aload_n hm rfl rfl ?_
      refine x_ldcI hm rfl (v := (-1000004 : Int32)) (by decide +kernel) ?_
      refine x_cVi hm rfl rfl (t7 (by decide +kernel)) (fun v2 M2 r2 => ?_)
      refine x_iret hm rfl rfl (by first | rfl | exact bI_nar | decide) ?_
      first
        | exact ⟨_, _, rfl, rfl, hT.trans r2.2⟩
        | exact ⟨_, _, rfl, rfl, hT⟩
        | exact ⟨_, _, rfl, rfl, hT.trans r1.2⟩
        | exact ⟨_, _, rfl, rfl, hT.trans r3.2⟩
        | exact ⟨_, _, rfl, rfl, hT.trans r4.2⟩
        | exact ⟨_, _, rfl, rfl, hT.trans r5.2⟩
        | exact ⟨_, _, rfl, rfl, hT.trans r6.2⟩
        | exact ⟨_, _, rfl, rfl, hT.trans r7.2⟩
        | exact ⟨_, _, rfl, rfl, hT.trans r8.2⟩
    · have hk : k ≤ 9 := Nat.le_of_not_lt fun h => h1 (nI_lt h (by omega))
      refine x_aload_n hm rfl rfl ?_
      refine x_aload_n hm rfl rfl ?_
      refine x_getf hm rfl (gR rfl rfl) ?_
      refine x_iload_n hm rfl rfl ?_
      refine x_aald hm rfl (by first | exact lQ 2 (Or.inl rfl) rfl (shk hs) (by omega) (by decide) | exact lQ 3 (Or.inr (Or.inl rfl)) rfl rfl (by omega) (by decide)) ?_
      refine x_iload_n hm rfl rfl ?_
      refine x_iload_n hm rfl rfl ?_
      refine x_iload hm rfl rfl ?_
      refine x_cVi hm rfl rfl (t80 (hT.1 hW) hs (by omega) (by omega)) (fun v3 M3 r3 => ?_)
      refine x_if_eq hm rfl (t := 51) rfl (fun h4 => ?_) (fun h4 => ?_)
      · refine x_iinc hm rfl rfl (v := nI 1) (by decide) rfl ?_
        rw [jI_add]
        refine x_goto hm rfl (t := 24) rfl ?_
        first
          | exact ih _ _ (by omega) (by omega) (hT.trans r3.2)
          | exact ih _ _ (by omega) (by omega) (hT.trans r2.2)
          | exact ih _ _ (by omega) (by omega) (hT.trans r4.2)
          | exact ih _ _ (by omega) (by omega) (hT.trans r5.2)
      · refine x_iload hm rfl rfl ?_
        refine x_iret hm rfl rfl (by first | rfl | exact bI_nar | decide) ?_
        first
          | exact ⟨_, _, rfl, rfl, hT.trans r3.2⟩
          | exact ⟨_, _, rfl, rfl, hT⟩
          | exact ⟨_, _, rfl, rfl, hT.trans r1.2⟩
          | exact ⟨_, _, rfl, rfl, hT.trans r2.2⟩
          | exact ⟨_, _, rfl, rfl, hT.trans r4.2⟩
          | exact ⟨_, _, rfl, rfl, hT.trans r5.2⟩
          | exact ⟨_, _, rfl, rfl, hT.trans r6.2⟩
          | exact ⟨_, _, rfl, rfl, hT.trans r7.2⟩
          | exact ⟨_, _, rfl, rfl, hT.trans r8.2⟩
theorem t81 {a1 a2 a3 : Int32} (hW : Wf M) : ∃ v M', mT X 81 [.ref 0, .int a1, .int a2, .int a3] (con M) (some (.int v)) (con M') ∧ Cq M M' := by
  refine ti_of (row := _) rfl (Nat.le_of_ble_eq_true rfl) ?_
  have hm : mMet 81 = some _ := rfl
  refine x_aload_n hm rfl rfl ?_
  refine x_iload_n hm rfl rfl ?_
  refine x_iload_n hm rfl rfl ?_
  refine x_iload_n hm rfl rfl ?_
  refine x_cVe hm rfl rfl (t76 hW) (fun v1 r1 => ?_)
  refine x_istore hm rfl rfl ?_
  refine x_iload hm rfl rfl ?_
  refine x_if_eq hm rfl (t := 21) rfl (fun h2 => ?_) (fun h2 => ?_)
  · obtain ⟨s, t, p, hs, ht, hp, rfl, rfl, rfl⟩ := (r1.resolve_left (fun e => FD_ne e h2)).2
    refine x_iconst hm rfl (v := nI 0) (by decide) ?_
    refine x_istore hm rfl rfl ?_
    exact ev_cq hW (l81 hW hs hp ht _ 0 _ (Nat.lt_succ_self _) (Nat.zero_le _) Bq.rf)
  · refine x_aload_n hm rfl rfl ?_
    refine x_iload hm rfl rfl ?_
    refine x_cVi hm rfl rfl (t7 (r1.resolve_right (fun e => h2 e.1))) (fun v3 M3 r3 => ?_)
    refine x_iret hm rfl rfl (by first | rfl | exact bI_nar | decide) ?_
    first
      | exact ⟨_, _, rfl, rfl, r3.2.cq hW⟩
      | exact ⟨_, _, rfl, rfl, r3.cq hW⟩
      | exact ⟨_, _, rfl, rfl, Cq.rf hW⟩
      | exact ⟨_, _, rfl, rfl, r1.2.cq hW⟩
      | exact ⟨_, _, rfl, rfl, r1.cq hW⟩
      | exact ⟨_, _, rfl, rfl, r2.2.cq hW⟩
      | exact ⟨_, _, rfl, rfl, r4.2.cq hW⟩
      | exact ⟨_, _, rfl, rfl, r5.2.cq hW⟩
      | exact ⟨_, _, rfl, rfl, r6.2.cq hW⟩
      | exact ⟨_, _, rfl, rfl, r7.2.cq hW⟩
      | exact ⟨_, _, rfl, rfl, r8.2.cq hW⟩
      | exact ⟨_, _, rfl, rfl, r9.2.cq hW⟩
      | exact ⟨_, _, rfl, rfl, r10.2.cq hW⟩
      | exact ⟨_, _, rfl, rfl, r11.2.cq hW⟩
      | exact ⟨_, _, rfl, rfl, r12.2.cq hW⟩
      | exact ⟨_, _, rfl, rfl, r13.2.cq hW⟩
      | exact ⟨_, _, rfl, rfl, r14.2.cq hW⟩
      | exact ⟨_, _, rfl, rfl, r15.2.cq hW⟩
      | exact ⟨_, _, rfl, rfl, r16.2.cq hW⟩
      | exact ⟨_, _, rfl, rfl, r17.2.cq hW⟩
      | exact ⟨_, _, rfl, rfl, r18.2.cq hW⟩
      | exact ⟨_, _, rfl, rfl, r19.2.cq hW⟩
      | exact ⟨_, _, rfl, rfl, r2.cq hW⟩
      | exact ⟨_, _, rfl, rfl, r4.cq hW⟩
      | exact ⟨_, _, rfl, rfl, r5.cq hW⟩
      | exact ⟨_, _, rfl, rfl, r6.cq hW⟩
      | exact ⟨_, _, rfl, rfl, r7.cq hW⟩
      | exact ⟨_, _, rfl, rfl, r8.cq hW⟩
      | exact ⟨_, _, rfl, rfl, r9.cq hW⟩
      | exact ⟨_, _, rfl, rfl, r10.cq hW⟩
      | exact ⟨_, _, rfl, rfl, r11.cq hW⟩
theorem t124 {k z : Nat} (hW : Wf M) (hs : s ≤ 3) (hsz : M (2 * s + 58) 2 = nI z) (hz : z ≤ 40) (hk : k < z) : ∃ v, mT X 124 [.ref 0, .ref (2 * s + 58), .int (nI k)] (con M) (some (.int v)) (con M) ∧ (v = nI 0 ∨ v = nI 1) := by
  refine te_of (row := _) rfl (Nat.le_of_ble_eq_true rfl) ?_
  have hm : mMet 124 = some _ := rfl
  obtain ⟨nt, hn8, hnt⟩ := hW.ct (b := 1) (by decide)
  refine x_aload_n hm rfl rfl ?_
  refine x_getf hm rfl (by first | exact gR (sO hs) rfl) ?_
  refine x_iload_n hm rfl rfl ?_
  refine x_iald hm rfl (by first | exact lI (sRow hs) (by omega) (by decide) | exact lI rfl (by omega) (by decide)) ?_
  generalize M (2 * s + 59) (k) = c
  refine x_istore_n hm rfl rfl ?_
  refine x_aload_n hm rfl rfl ?_
  refine x_getf hm rfl (gR rfl rfl) ?_
  refine x_iload_n hm rfl rfl ?_
  refine x_callV hm rfl rfl (t10 (by decide)) ?_
  refine x_if_ne hm rfl (t := 20) rfl (fun h1 => ?_) (fun h1 => ?_)
  · obtain ⟨t, ht, rfl⟩ := in_k hnt (by omega) (bI_ne0 h1)
    refine x_iload_n hm rfl rfl ?_
    refine x_iconst hm rfl (v := nI 1) (by decide) ?_
    refine x_iadd hm rfl ?_
    rw [jI_add]
    refine x_aload_n hm rfl rfl ?_
    refine x_getf hm rfl (by first | exact gI (sO hs) rfl) ?_
    rw [hsz]
    refine x_icmp_lt hm rfl (t := 32) rfl (fun h2 => ?_) (fun h2 => ?_)
    · have hk1 : k + 1 < z := (jI_lt (by omega) (by omega)).mp h2
      refine x_aload_n hm rfl rfl ?_
      refine x_getf hm rfl (gR rfl rfl) ?_
      refine x_getf hm rfl (gR rfl rfl) ?_
      refine x_iconst hm rfl (v := nI 5) (by decide) ?_
      refine x_aald hm rfl (by first | exact lQ 2 (Or.inl rfl) rfl (shk hs) (by omega) (by decide) | exact lQ 3 (Or.inr (Or.inl rfl)) rfl rfl (by omega) (by decide)) ?_
      refine x_iload_n hm rfl rfl ?_
      refine x_iald hm rfl (by first | exact lI (sRow hs) (by omega) (by decide) | exact lI rfl (by omega) (by decide)) ?_
      refine x_istore hm rfl rfl ?_
      refine x_iload hm rfl rfl ?_
      refine x_iconst hm rfl (v := (-1 : Int32)) (by decide) ?_
      refine x_icmp_eq hm rfl (t := 68) rfl (fun h3 => ?_) (fun h3 => ?_)
      · refine x_iconst hm rfl (v := nI 0) (by decide) ?_
        refine x_iret hm rfl rfl (by first | rfl | exact bI_nar | decide) ?_
        exact ⟨_, rfl, rfl, by first | exact Or.inl rfl | exact Or.inr rfl⟩
      · refine x_iload hm rfl rfl ?_
        refine x_aload_n hm rfl rfl ?_
        refine x_getf hm rfl (by first | exact gR (sO hs) rfl) ?_
        refine x_iload_n hm rfl rfl ?_
        refine x_iconst hm rfl (v := nI 1) (by decide) ?_
        refine x_iadd hm rfl ?_
        rw [jI_add]
        refine x_iald hm rfl (by first | exact lI (sRow hs) (by omega) (by decide) | exact lI rfl (by omega) (by decide)) ?_
        refine x_icmp_ne hm rfl (t := 68) rfl (fun h4 => ?_) (fun h4 => ?_)
        · refine x_iconst hm rfl (v := nI 0) (by decide) ?_
          refine x_iret hm rfl rfl (by first | rfl | exact bI_nar | decide) ?_
          exact ⟨_, rfl, rfl, by first | exact Or.inl rfl | exact Or.inr rfl⟩
        · refine x_iconst hm rfl (v := nI 1) (by decide) ?_
          refine x_goto hm rfl (t := 69) rfl ?_
          refine x_iret hm rfl rfl (by first | rfl | exact bI_nar | decide) ?_
          exact ⟨_, rfl, rfl, by first | exact Or.inl rfl | exact Or.inr rfl⟩
    · refine x_iconst hm rfl (v := nI 1) (by decide) ?_
      refine x_iret hm rfl rfl (by first | rfl | exact bI_nar | decide) ?_
      exact ⟨_, rfl, rfl, by first | exact Or.inl rfl | exact Or.inr rfl⟩
  · refine x_iconst hm rfl (v := nI 0) (by decide) ?_
    refine x_iret hm rfl rfl (by first | rfl | exact bI_nar | decide) ?_
    exact ⟨_, rfl, rfl, by first | exact Or.inl rfl | exact Or.inr rfl⟩
theorem l123 {c : Int32} {z : Nat} (hW : Wf M) (hs : s ≤ 3) (hsz : M (2 * s + 58) 2 = nI z) (hz : z ≤ 40) : ∀ (n k : Nat), z - k < n → k ≤ z → mEv X (QI (fun _ M' => Cq M M')) 123 18 [some (.ref 0), some (.int (nI s)), some (.int c), some (.int (nI k))] [] (con M) := by
  have hm : mMet 123 = some _ := rfl
  intro n
  induction n with
  | zero =>
    intro k hkn hkb
    omega
  | succ n ih =>
    intro k hkn hkb
    refine x_iload_n hm rfl rfl ?_
    refine x_aload_n hm rfl rfl ?_
    refine x_getf hm rfl (gR rfl rfl) ?_
    refine x_iload_n hm rfl rfl ?_
    refine x_aald hm rfl (by first | exact lQ 2 (Or.inl rfl) rfl (shk hs) (by omega) (by decide) | exact lQ 3 (Or.inr (Or.inl rfl)) rfl rfl (by omega) (by decide)) ?_
    refine x_getf hm rfl (by first | exact gI (sO hs) rfl) ?_
    rw [hsz]
    refine x_icmp_ge hm rfl (t := 55) rfl (fun h1 => ?_) (fun h1 => ?_)
    · refine x_iconst hm rfl (v := nI 0) (by decide) ?_
      refine x_iret hm rfl rfl (by first | rfl | exact bI_nar | decide) ?_
      first
        | exact ⟨_, _, rfl, rfl, Cq.rf hW⟩
        | exact ⟨_, _, rfl, rfl, r1.2.cq hW⟩
        | exact ⟨_, _, rfl, rfl, r2.2.cq hW⟩
        | exact ⟨_, _, rfl, rfl, r3.2.cq hW⟩
        | exact ⟨_, _, rfl, rfl, r4.2.cq hW⟩
        | exact ⟨_, _, rfl, rfl, r5.2.cq hW⟩
        | exact ⟨_, _, rfl, rfl, r6.2.cq hW⟩
        | exact ⟨_, _, rfl, rfl, r7.2.cq hW⟩
        | exact ⟨_, _, rfl, rfl, r8.2.cq hW⟩
        | exact ⟨_, _, rfl, rfl, r9.2.cq hW⟩
        | exact ⟨_, _, rfl, rfl, r10.2.cq hW⟩
        | exact ⟨_, _, rfl, rfl, r11.2.cq hW⟩
        | exact ⟨_, _, rfl, rfl, r12.2.cq hW⟩
        | exact ⟨_, _, rfl, rfl, r13.2.cq hW⟩
        | exact ⟨_, _, rfl, rfl, r14.2.cq hW⟩
        | exact ⟨_, _, rfl, rfl, r15.2.cq hW⟩
        | exact ⟨_, _, rfl, rfl, r16.2.cq hW⟩
        | exact ⟨_, _, rfl, rfl, r17.2.cq hW⟩
        | exact ⟨_, _, rfl, rfl, r18.2.cq hW⟩
        | exact ⟨_, _, rfl, rfl, r19.2.cq hW⟩
        | exact ⟨_, _, rfl, rfl, r1.cq hW⟩
        | exact ⟨_, _, rfl, rfl, r2.cq hW⟩
        | exact ⟨_, _, rfl, rfl, r3.cq hW⟩
        | exact ⟨_, _, rfl, rfl, r4.cq hW⟩
        | exact ⟨_, _, rfl, rfl, r5.cq hW⟩
        | exact ⟨_, _, rfl, rfl, r6.cq hW⟩
        | exact ⟨_, _, rfl, rfl, r7.cq hW⟩
        | exact ⟨_, _, rfl, rfl, r8.cq hW⟩
        | exact ⟨_, _, rfl, rfl, r9.cq hW⟩
        | exact ⟨_, _, rfl, rfl, r10.cq hW⟩
        | exact ⟨_, _, rfl, rfl, r11.cq hW⟩
    · have hk : k < z := Nat.lt_of_not_le fun h => h1 (nI_le h (by omega))
      refine x_aload_n hm rfl rfl ?_
      refine x_aload_n hm rfl rfl ?_
      refine x_getf hm rfl (gR rfl rfl) ?_
      refine x_iload_n hm rfl rfl ?_
      refine x_aald hm rfl (by first | exact lQ 2 (Or.inl rfl) rfl (shk hs) (by omega) (by decide) | exact lQ 3 (Or.inr (Or.inl rfl)) rfl rfl (by omega) (by decide)) ?_
      refine x_iload_n hm rfl rfl ?_
      refine x_cVe hm rfl rfl (t124 hW hs hsz hz hk) (fun v2 r2 => ?_)
      refine x_if_ne hm rfl (t := 49) rfl (fun h3 => ?_) (fun h3 => ?_)
      · refine x_iinc hm rfl rfl (v := nI 1) (by decide) rfl ?_
        rw [jI_add]
        refine x_goto hm rfl (t := 18) rfl ?_
        exact ih _ (by omega) (by omega)
      · refine x_iconst hm rfl (v := nI 1) (by decide) ?_
        refine x_iload_n hm rfl rfl ?_
        refine x_iadd hm rfl ?_
        refine x_iret hm rfl rfl (by first | rfl | exact bI_nar | decide) ?_
        first
          | exact ⟨_, _, rfl, rfl, r2.2.cq hW⟩
          | exact ⟨_, _, rfl, rfl, r2.cq hW⟩
          | exact ⟨_, _, rfl, rfl, Cq.rf hW⟩
          | exact ⟨_, _, rfl, rfl, r1.2.cq hW⟩
          | exact ⟨_, _, rfl, rfl, r3.2.cq hW⟩
          | exact ⟨_, _, rfl, rfl, r4.2.cq hW⟩
          | exact ⟨_, _, rfl, rfl, r5.2.cq hW⟩
          | exact ⟨_, _, rfl, rfl, r6.2.cq hW⟩
          | exact ⟨_, _, rfl, rfl, r7.2.cq hW⟩
          | exact ⟨_, _, rfl, rfl, r8.2.cq hW⟩
          | exact ⟨_, _, rfl, rfl, r9.2.cq hW⟩
          | exact ⟨_, _, rfl, rfl, r10.2.cq hW⟩
          | exact ⟨_, _, rfl, rfl, r11.2.cq hW⟩
          | exact ⟨_, _, rfl, rfl, r12.2.cq hW⟩
          | exact ⟨_, _, rfl, rfl, r13.2.cq hW⟩
          | exact ⟨_, _, rfl, rfl, r14.2.cq hW⟩
          | exact ⟨_, _, rfl, rfl, r15.2.cq hW⟩
          | exact ⟨_, _, rfl, rfl, r16.2.cq hW⟩
          | exact ⟨_, _, rfl, rfl, r17.2.cq hW⟩
          | exact ⟨_, _, rfl, rfl, r18.2.cq hW⟩
          | exact ⟨_, _, rfl, rfl, r19.2.cq hW⟩
          | exact ⟨_, _, rfl, rfl, r1.cq hW⟩
          | exact ⟨_, _, rfl, rfl, r3.cq hW⟩
          | exact ⟨_, _, rfl, rfl, r4.cq hW⟩
          | exact ⟨_, _, rfl, rfl, r5.cq hW⟩
          | exact ⟨_, _, rfl, rfl, r6.cq hW⟩
          | exact ⟨_, _, rfl, rfl, r7.cq hW⟩
          | exact ⟨_, _, rfl, rfl, r8.cq hW⟩
          | exact ⟨_, _, rfl, rfl, r9.cq hW⟩
          | exact ⟨_, _, rfl, rfl, r10.cq hW⟩
          | exact ⟨_, _, rfl, rfl, r11.cq hW⟩
theorem t123 {a1 : Int32} (hW : Wf M) : ∃ v M', mT X 123 [.ref 0, .int a1] (con M) (some (.int v)) (con M') ∧ Cq M M' := by
  refine ti_of (row := _) rfl (Nat.le_of_ble_eq_true rfl) ?_
  have hm : mMet 123 = some _ := rfl
  refine x_aload_n hm rfl rfl ?_
  refine x_iload_n hm rfl rfl ?_
  refine x_cVe hm rfl rfl (t77) (fun v1 r1 => ?_)
  refine x_istore_n hm rfl rfl ?_
  refine x_iload_n hm rfl rfl ?_
  refine x_if_eq hm rfl (t := 16) rfl (fun h2 => ?_) (fun h2 => ?_)
  · obtain ⟨s, hs, rfl⟩ := (r1.resolve_left (fun e => FD_ne e h2)).2
    obtain ⟨z, hz, hsz⟩ := hW.len hs
    refine x_iconst hm rfl (v := nI 0) (by decide) ?_
    refine x_istore_n hm rfl rfl ?_
    exact l123 hW hs hsz hz _ 0 (Nat.lt_succ_self _) (Nat.zero_le _)
  · refine x_aload_n hm rfl rfl ?_
    refine x_iload_n hm rfl rfl ?_
    refine x_cVi hm rfl rfl (t7 (r1.resolve_right (fun e => h2 e.1))) (fun v3 M3 r3 => ?_)
    refine x_iret hm rfl rfl (by first | rfl | exact bI_nar | decide) ?_
    first
      | exact ⟨_, _, rfl, rfl, r3.2.cq hW⟩
      | exact ⟨_, _, rfl, rfl, r3.cq hW⟩
      | exact ⟨_, _, rfl, rfl, Cq.rf hW⟩
      | exact ⟨_, _, rfl, rfl, r1.2.cq hW⟩
      | exact ⟨_, _, rfl, rfl, r1.cq hW⟩
      | exact ⟨_, _, rfl, rfl, r2.2.cq hW⟩
      | exact ⟨_, _, rfl, rfl, r4.2.cq hW⟩
      | exact ⟨_, _, rfl, rfl, r5.2.cq hW⟩
      | exact ⟨_, _, rfl, rfl, r6.2.cq hW⟩
      | exact ⟨_, _, rfl, rfl, r7.2.cq hW⟩
      | exact ⟨_, _, rfl, rfl, r8.2.cq hW⟩
      | exact ⟨_, _, rfl, rfl, r9.2.cq hW⟩
      | exact ⟨_, _, rfl, rfl, r10.2.cq hW⟩
      | exact ⟨_, _, rfl, rfl, r11.2.cq hW⟩
      | exact ⟨_, _, rfl, rfl, r12.2.cq hW⟩
      | exact ⟨_, _, rfl, rfl, r13.2.cq hW⟩
      | exact ⟨_, _, rfl, rfl, r14.2.cq hW⟩
      | exact ⟨_, _, rfl, rfl, r15.2.cq hW⟩
      | exact ⟨_, _, rfl, rfl, r16.2.cq hW⟩
      | exact ⟨_, _, rfl, rfl, r17.2.cq hW⟩
      | exact ⟨_, _, rfl, rfl, r18.2.cq hW⟩
      | exact ⟨_, _, rfl, rfl, r19.2.cq hW⟩
      | exact ⟨_, _, rfl, rfl, r2.cq hW⟩
      | exact ⟨_, _, rfl, rfl, r4.cq hW⟩
      | exact ⟨_, _, rfl, rfl, r5.cq hW⟩
      | exact ⟨_, _, rfl, rfl, r6.cq hW⟩
      | exact ⟨_, _, rfl, rfl, r7.cq hW⟩
      | exact ⟨_, _, rfl, rfl, r8.cq hW⟩
      | exact ⟨_, _, rfl, rfl, r9.cq hW⟩
      | exact ⟨_, _, rfl, rfl, r10.cq hW⟩
      | exact ⟨_, _, rfl, rfl, r11.cq hW⟩
theorem min_k {a b : Nat} (ha : a < 1000) (hb : b < 1000) : (if nI b < nI a then nI b else nI a) = nI (min a b) := by
  by_cases h : b < a
  · rw [if_pos ((jI_lt (by omega) (by omega)).mpr h), Nat.min_eq_right (by omega)]
  · rw [if_neg (fun q => h ((jI_lt (by omega) (by omega)).mp q)), Nat.min_eq_left (by omega)]
theorem l122 {c : Int32} {m : Nat} (hW : Wf M) (hs : s ≤ 3) (hm40 : m ≤ 40) (hm8 : m ≤ 8) : ∀ (n k : Nat) (x5 : Option Value) (M1 : mM), m - k < n → k ≤ m → Tw 1 M M1 → mEv X (QI (fun _ M' => Tw 1 M M')) 122 39 [some (.ref 0), some (.int (nI s)), some (.int c), some (.int (nI m)), some (.int (nI k)), x5] [] (con M1) := by
  have hm : mMet 122 = some _ := rfl
  intro n
  induction n with
  | zero =>
    intro k x5 M1 hkn hkb hT
    omega
  | succ n ih =>
    intro k x5 M1 hkn hkb hT
    refine x_iload hm rfl rfl ?_
    refine x_iload_n hm rfl rfl ?_
    refine x_icmp_ge hm rfl (t := 94) rfl (fun h1 => ?_) (fun h1 => ?_)
    · refine x_iload_n hm rfl rfl ?_
      refine x_iret hm rfl rfl (by first | rfl | exact bI_nar | decide) ?_
      exact ⟨_, _, rfl, rfl, hT⟩
    · have hk : k < m := Nat.lt_of_not_le fun h => h1 (nI_le h (by omega))
      refine x_aload_n hm rfl rfl ?_
      refine x_getf hm rfl (gR rfl rfl) ?_
      refine x_iload_n hm rfl rfl ?_
      refine x_aald hm rfl (by first | exact lQ 2 (Or.inl rfl) rfl (shk hs) (by omega) (by decide) | exact lQ 3 (Or.inr (Or.inl rfl)) rfl rfl (by omega) (by decide)) ?_
      refine x_getf hm rfl (by first | exact gR (sO hs) rfl) ?_
      refine x_iload hm rfl rfl ?_
      refine x_iald hm rfl (by first | exact lI (sRow hs) (by omega) (by decide) | exact lI rfl (by omega) (by decide)) ?_
      refine x_istore hm rfl rfl ?_
      refine x_iload hm rfl rfl ?_
      refine x_iconst hm rfl (v := nI 0) (by decide) ?_
      refine x_sipush hm rfl (v := nI 999) (by decide) ?_
      refine x_callS hm rfl rfl (t6) ?_
      refine x_if_ne hm rfl (t := 74) rfl (fun h2 => ?_) (fun h2 => ?_)
      · refine x_aload_n hm rfl rfl ?_
        refine x_getf hm rfl (gR rfl rfl) ?_
        refine x_getf hm rfl (gR rfl rfl) ?_
        refine x_iconst hm rfl (v := nI 2) (by decide) ?_
        refine x_aald hm rfl (by first | exact lQ 2 (Or.inl rfl) rfl (shk hs) (by omega) (by decide) | exact lQ 3 (Or.inr (Or.inl rfl)) rfl rfl (by omega) (by decide)) ?_
        refine x_iload hm rfl rfl ?_
        refine x_iload hm rfl rfl ?_
        refine x_iast hm rfl (by first | exact sI (sRow hs) (by omega) (by decide) | exact sI rfl (by omega) (by decide)) ?_
        refine x_iinc hm rfl rfl (v := nI 1) (by decide) rfl ?_
        rw [jI_add]
        refine x_goto hm rfl (t := 39) rfl ?_
        exact ih _ _ _ (by omega) (by omega) (hT.trans (Tw.row (b := 1) (j := 4) (by decide) (by decide) (by decide) trivial))
      · refine x_iload hm rfl rfl ?_
        refine x_iret hm rfl rfl (by first | rfl | exact bI_nar | decide) ?_
        exact ⟨_, _, rfl, rfl, hT⟩
theorem t122 {a1 : Int32} (hW : Wf M) : ∃ v M', mT X 122 [.ref 0, .int a1] (con M) (some (.int v)) (con M') ∧ Ck M M' := by
  refine ti_of (row := _) rfl (Nat.le_of_ble_eq_true rfl) ?_
  have hm : mMet 122 = some _ := rfl
  obtain ⟨nt, hn8, hnt⟩ := hW.ct (b := 1) (by decide)
  refine x_aload_n hm rfl rfl ?_
  refine x_iload_n hm rfl rfl ?_
  refine x_cVe hm rfl rfl (t77) (fun v1 r1 => ?_)
  refine x_istore_n hm rfl rfl ?_
  refine x_iload_n hm rfl rfl ?_
  refine x_if_eq hm rfl (t := 16) rfl (fun h2 => ?_) (fun h2 => ?_)
  · obtain ⟨s, hs, rfl⟩ := (r1.resolve_left (fun e => FD_ne e h2)).2
    obtain ⟨z, hz, hsz⟩ := hW.len hs
    refine x_aload_n hm rfl rfl ?_
    refine x_getf hm rfl (gR rfl rfl) ?_
    refine x_iload_n hm rfl rfl ?_
    refine x_aald hm rfl (by first | exact lQ 2 (Or.inl rfl) rfl (shk hs) (by omega) (by decide) | exact lQ 3 (Or.inr (Or.inl rfl)) rfl rfl (by omega) (by decide)) ?_
    refine x_getf hm rfl (by first | exact gI (sO hs) rfl) ?_
    rw [hsz]
    refine x_aload_n hm rfl rfl ?_
    refine x_getf hm rfl (gR rfl rfl) ?_
    refine x_getf hm rfl (gI rfl rfl) ?_
    rw [hnt]
    refine x_lib hm rfl rfl ?_
    dsimp only
    rw [min_k (by omega) (by omega)]
    refine x_istore_n hm rfl rfl ?_
    refine x_iconst hm rfl (v := nI 0) (by decide) ?_
    refine x_istore hm rfl rfl ?_
    exact ev_ckT hW (l122 hW hs (by omega) (by omega) _ 0 _ _ (Nat.lt_succ_self _) (Nat.zero_le _) Tw.rf)
  · refine x_aload_n hm rfl rfl ?_
    refine x_iload_n hm rfl rfl ?_
    refine x_cVi hm rfl rfl (t7 (r1.resolve_right (fun e => h2 e.1))) (fun v3 M3 r3 => ?_)
    refine x_iret hm rfl rfl (by first | rfl | exact bI_nar | decide) ?_
    first
      | exact ⟨_, _, rfl, rfl, r3.2.ck hW⟩
      | exact ⟨_, _, rfl, rfl, r3.ck hW⟩
      | exact ⟨_, _, rfl, rfl, Ck.rf hW⟩
      | exact ⟨_, _, rfl, rfl, r1.2.ck hW⟩
      | exact ⟨_, _, rfl, rfl, r1.ck hW⟩
      | exact ⟨_, _, rfl, rfl, r2.2.ck hW⟩
      | exact ⟨_, _, rfl, rfl, r4.2.ck hW⟩
      | exact ⟨_, _, rfl, rfl, r5.2.ck hW⟩
      | exact ⟨_, _, rfl, rfl, r6.2.ck hW⟩
      | exact ⟨_, _, rfl, rfl, r7.2.ck hW⟩
      | exact ⟨_, _, rfl, rfl, r8.2.ck hW⟩
      | exact ⟨_, _, rfl, rfl, r9.2.ck hW⟩
      | exact ⟨_, _, rfl, rfl, r10.2.ck hW⟩
      | exact ⟨_, _, rfl, rfl, r11.2.ck hW⟩
      | exact ⟨_, _, rfl, rfl, r12.2.ck hW⟩
      | exact ⟨_, _, rfl, rfl, r13.2.ck hW⟩
      | exact ⟨_, _, rfl, rfl, r14.2.ck hW⟩
      | exact ⟨_, _, rfl, rfl, r15.2.ck hW⟩
      | exact ⟨_, _, rfl, rfl, r16.2.ck hW⟩
      | exact ⟨_, _, rfl, rfl, r17.2.ck hW⟩
      | exact ⟨_, _, rfl, rfl, r18.2.ck hW⟩
      | exact ⟨_, _, rfl, rfl, r19.2.ck hW⟩
      | exact ⟨_, _, rfl, rfl, r2.ck hW⟩
      | exact ⟨_, _, rfl, rfl, r4.ck hW⟩
      | exact ⟨_, _, rfl, rfl, r5.ck hW⟩
      | exact ⟨_, _, rfl, rfl, r6.ck hW⟩
      | exact ⟨_, _, rfl, rfl, r7.ck hW⟩
      | exact ⟨_, _, rfl, rfl, r8.ck hW⟩
      | exact ⟨_, _, rfl, rfl, r9.ck hW⟩
      | exact ⟨_, _, rfl, rfl, r10.ck hW⟩
      | exact ⟨_, _, rfl, rfl, r11.ck hW⟩
theorem sub_k {i z : Nat} (h : i ≤ z) : nI z - nI i = nI (z - i) := by
  have e : z = (z - i) + i := by omega
  rw [e, ← jI_add (z - i) i, Int32.add_sub_cancel]
  congr 1
  omega
theorem Tw.acp39 {i0 u a d c : Nat} (hu : u ≤ 3) : Tw 58 M (acp M i0 (2 * u + 59) a d c) := by
  refine ⟨fun hW x y => ?_, fun i hi => ?_, fun e he => ?_⟩
  · show okx (kd x y) (if x = 2 * u + 59 then _ else M x y)
    by_cases hx : x = 2 * u + 59
    · rw [hx, kdSr hu]
      trivial
    · rw [if_neg hx]
      exact hW x y
  · funext y
    show (if i = 2 * u + 59 then _ else M i y) = _
    rw [if_neg (by omega)]
  · constructor
    · show (if e = 2 * u + 59 then _ else M e 3) = _
      rw [if_neg (by omega)]
    · show (if e = 2 * u + 59 then _ else M e 4) = _
      rw [if_neg (by omega)]
theorem t121 {z : Nat} {a1 a2 : Int32} (hs : s ≤ 3) (hsz : M (2 * s + 58) 2 = nI z) (hz : z ≤ 40) : ∃ v, mT X 121 [.ref (2 * s + 58), .int a1, .int a2] (con M) (some (.int v)) (con M) ∧ (v = nI 0 ∨ (v = nI 1 ∧ ∃ i j, a1 = nI i ∧ a2 = nI j ∧ i + j ≤ z)) := by
  refine te_of (row := _) rfl (Nat.le_of_ble_eq_true rfl) ?_
  have hm : mMet 121 = some _ := rfl
  refine x_iload_n hm rfl rfl ?_
  refine x_if_lt hm rfl (t := 30) rfl (fun h1 => ?_) (fun h1 => ?_)
  · refine x_iconst hm rfl (v := nI 0) (by decide) ?_
    refine x_iret hm rfl rfl (by first | rfl | exact bI_nar | decide) ?_
    exact ⟨_, rfl, rfl, by first | exact Or.inl rfl | exact Or.inr ⟨rfl, i, j, rfl, rfl, by omega⟩⟩
  · obtain ⟨i, hi, rfl⟩ := jI_of h1
    refine x_iload_n hm rfl rfl ?_
    refine x_if_lt hm rfl (t := 30) rfl (fun h2 => ?_) (fun h2 => ?_)
    · refine x_iconst hm rfl (v := nI 0) (by decide) ?_
      refine x_iret hm rfl rfl (by first | rfl | exact bI_nar | decide) ?_
      exact ⟨_, rfl, rfl, by first | exact Or.inl rfl | exact Or.inr ⟨rfl, i, j, rfl, rfl, by omega⟩⟩
    · obtain ⟨j, hj, rfl⟩ := jI_of h2
      refine x_iload_n hm rfl rfl ?_
      refine x_aload_n hm rfl rfl ?_
      refine x_getf hm rfl (by first | exact gI (sO hs) rfl) ?_
      rw [hsz]
      refine x_icmp_gt hm rfl (t := 30) rfl (fun h3 => ?_) (fun h3 => ?_)
      · refine x_iconst hm rfl (v := nI 0) (by decide) ?_
        refine x_iret hm rfl rfl (by first | rfl | exact bI_nar | decide) ?_
        exact ⟨_, rfl, rfl, by first | exact Or.inl rfl | exact Or.inr ⟨rfl, i, j, rfl, rfl, by omega⟩⟩
      · have g1 : i ≤ z := Nat.le_of_not_lt fun q => h3 (nI_lt q (by omega))
        refine x_iload_n hm rfl rfl ?_
        refine x_aload_n hm rfl rfl ?_
        refine x_getf hm rfl (by first | exact gI (sO hs) rfl) ?_
        rw [hsz]
        refine x_iload_n hm rfl rfl ?_
        refine x_isub hm rfl ?_
        rw [sub_k g1]
        refine x_icmp_gt hm rfl (t := 30) rfl (fun h4 => ?_) (fun h4 => ?_)
        · refine x_iconst hm rfl (v := nI 0) (by decide) ?_
          refine x_iret hm rfl rfl (by first | rfl | exact bI_nar | decide) ?_
          exact ⟨_, rfl, rfl, by first | exact Or.inl rfl | exact Or.inr ⟨rfl, i, j, rfl, rfl, by omega⟩⟩
        · have g2 : j ≤ z - i := Nat.le_of_not_lt fun q => h4 (nI_lt q (by omega))
          refine x_iconst hm rfl (v := nI 1) (by decide) ?_
          refine x_goto hm rfl (t := 31) rfl ?_
          refine x_iret hm rfl rfl (by first | rfl | exact bI_nar | decide) ?_
          exact ⟨_, rfl, rfl, by first | exact Or.inl rfl | exact Or.inr ⟨rfl, i, j, rfl, rfl, by omega⟩⟩
theorem t120 {a1 a2 a3 a4 a5 : Int32} (hW : Wf M) : ∃ v M', mT X 120 [.ref 0, .int a1, .int a2, .int a3, .int a4, .int a5] (con M) (some (.int v)) (con M') ∧ Ck M M' := by
  refine ti_of (row := _) rfl (Nat.le_of_ble_eq_true rfl) ?_
  have hm : mMet 120 = some _ := rfl
  refine x_iload_n hm rfl rfl ?_
  refine x_callS hm rfl rfl (t78) ?_
  refine x_if_eq hm rfl (t := 14) rfl (fun h1 => ?_) (fun h1 => ?_)
  · refine x_aload_n hm rfl rfl ?_
    refine x_ldcI hm rfl (v := (-1000001 : Int32)) (by decide +kernel) ?_
    refine x_cVi hm rfl rfl (t7 (by decide +kernel)) (fun v2 M2 r2 => ?_)
    refine x_iret hm rfl rfl (by first | rfl | exact bI_nar | decide) ?_
    first
      | exact ⟨_, _, rfl, rfl, r2.2.ck hW⟩
      | exact ⟨_, _, rfl, rfl, r2.ck hW⟩
      | exact ⟨_, _, rfl, rfl, Ck.rf hW⟩
      | exact ⟨_, _, rfl, rfl, (Tw.acp39 hu).ck hW⟩
      | exact ⟨_, _, rfl, rfl, r1.2.ck hW⟩
      | exact ⟨_, _, rfl, rfl, r3.2.ck hW⟩
      | exact ⟨_, _, rfl, rfl, r4.2.ck hW⟩
      | exact ⟨_, _, rfl, rfl, r5.2.ck hW⟩
      | exact ⟨_, _, rfl, rfl, r6.2.ck hW⟩
      | exact ⟨_, _, rfl, rfl, r7.2.ck hW⟩
      | exact ⟨_, _, rfl, rfl, r8.2.ck hW⟩
      | exact ⟨_, _, rfl, rfl, r9.2.ck hW⟩
      | exact ⟨_, _, rfl, rfl, r10.2.ck hW⟩
      | exact ⟨_, _, rfl, rfl, r11.2.ck hW⟩
      | exact ⟨_, _, rfl, rfl, r12.2.ck hW⟩
      | exact ⟨_, _, rfl, rfl, r13.2.ck hW⟩
      | exact ⟨_, _, rfl, rfl, r14.2.ck hW⟩
      | exact ⟨_, _, rfl, rfl, r15.2.ck hW⟩
      | exact ⟨_, _, rfl, rfl, r16.2.ck hW⟩
      | exact ⟨_, _, rfl, rfl, r17.2.ck hW⟩
      | exact ⟨_, _, rfl, rfl, r18.2.ck hW⟩
      | exact ⟨_, _, rfl, rfl, r19.2.ck hW⟩
      | exact ⟨_, _, rfl, rfl, r1.ck hW⟩
      | exact ⟨_, _, rfl, rfl, r3.ck hW⟩
      | exact ⟨_, _, rfl, rfl, r4.ck hW⟩
      | exact ⟨_, _, rfl, rfl, r5.ck hW⟩
      | exact ⟨_, _, rfl, rfl, r6.ck hW⟩
      | exact ⟨_, _, rfl, rfl, r7.ck hW⟩
      | exact ⟨_, _, rfl, rfl, r8.ck hW⟩
      | exact ⟨_, _, rfl, rfl, r9.ck hW⟩
      | exact ⟨_, _, rfl, rfl, r10.ck hW⟩
      | exact ⟨_, _, rfl, rfl, r11.ck hW⟩
      | exact ⟨_, _, rfl, rfl, r12.ck hW⟩
      | exact ⟨_, _, rfl, rfl, r13.ck hW⟩
      | exact ⟨_, _, rfl, rfl, r14.ck hW⟩
      | exact ⟨_, _, rfl, rfl, r15.ck hW⟩
      | exact ⟨_, _, rfl, rfl, r16.ck hW⟩
      | exact ⟨_, _, rfl, rfl, r17.ck hW⟩
      | exact ⟨_, _, rfl, rfl, r18.ck hW⟩
      | exact ⟨_, _, rfl, rfl, r19.ck hW⟩
      | exact ⟨_, _, rfl, rfl, r20.ck hW⟩
      | exact ⟨_, _, rfl, rfl, r21.ck hW⟩
      | exact ⟨_, _, rfl, rfl, r22.ck hW⟩
      | exact ⟨_, _, rfl, rfl, r23.ck hW⟩
      | exact ⟨_, _, rfl, rfl, r24.ck hW⟩
      | exact ⟨_, _, rfl, rfl, r25.ck hW⟩
      | exact ⟨_, _, rfl, rfl, r26.ck hW⟩
      | exact ⟨_, _, rfl, rfl, r27.ck hW⟩
      | exact ⟨_, _, rfl, rfl, r28.ck hW⟩
      | exact ⟨_, _, rfl, rfl, r29.ck hW⟩
      | exact ⟨_, _, rfl, rfl, r20.2.ck hW⟩
      | exact ⟨_, _, rfl, rfl, r21.2.ck hW⟩
      | exact ⟨_, _, rfl, rfl, r22.2.ck hW⟩
      | exact ⟨_, _, rfl, rfl, r23.2.ck hW⟩
      | exact ⟨_, _, rfl, rfl, r24.2.ck hW⟩
      | exact ⟨_, _, rfl, rfl, r25.2.ck hW⟩
      | exact ⟨_, _, rfl, rfl, r26.2.ck hW⟩
      | exact ⟨_, _, rfl, rfl, r27.2.ck hW⟩
      | exact ⟨_, _, rfl, rfl, r28.2.ck hW⟩
      | exact ⟨_, _, rfl, rfl, r29.2.ck hW⟩
      | exact ⟨_, _, rfl, rfl, r30.2.ck hW⟩
      | exact ⟨_, _, rfl, rfl, r31.2.ck hW⟩
      | exact ⟨_, _, rfl, rfl, r32.2.ck hW⟩
      | exact ⟨_, _, rfl, rfl, r33.2.ck hW⟩
      | exact ⟨_, _, rfl, rfl, r34.2.ck hW⟩
      | exact ⟨_, _, rfl, rfl, r35.2.ck hW⟩
      | exact ⟨_, _, rfl, rfl, r36.2.ck hW⟩
      | exact ⟨_, _, rfl, rfl, r37.2.ck hW⟩
      | exact ⟨_, _, rfl, rfl, r38.2.ck hW⟩
      | exact ⟨_, _, rfl, rfl, r39.2.ck hW⟩
  · obtain ⟨s, hs, rfl⟩ := le_k (by omega) (bI_ne0 h1)
    refine x_iload_n hm rfl rfl ?_
    refine x_callS hm rfl rfl (t78) ?_
    refine x_if_ne hm rfl (t := 21) rfl (fun h3 => ?_) (fun h3 => ?_)
    · obtain ⟨u, hu, rfl⟩ := le_k (by omega) (bI_ne0 h3)
      obtain ⟨z, hz, hsz⟩ := hW.len hs
      obtain ⟨y, hy, huz⟩ := hW.len hu
      refine x_aload_n hm rfl rfl ?_
      refine x_getf hm rfl (gR rfl rfl) ?_
      refine x_iload_n hm rfl rfl ?_
      refine x_aald hm rfl (by first | exact lQ 2 (Or.inl rfl) rfl (shk hs) (by omega) (by decide) | exact lQ 2 (Or.inl rfl) rfl (shk hu) (by omega) (by decide) | exact lQ 3 (Or.inr (Or.inl rfl)) rfl rfl (by omega) (by decide)) ?_
      refine x_callV hm rfl (by first | exact mCallSh hs (by decide) rfl rfl rfl rfl rfl | exact mCallSh hu (by decide) rfl rfl rfl rfl rfl) (by first | exact t79 hs | exact t79 hu) ?_
      refine x_if_ne hm rfl (t := 45) rfl (fun h4 => ?_) (fun h4 => ?_)
      · refine x_aload_n hm rfl rfl ?_
        refine x_ldcI hm rfl (v := (-1000006 : Int32)) (by decide +kernel) ?_
        refine x_cVi hm rfl rfl (t7 (by decide +kernel)) (fun v5 M5 r5 => ?_)
        refine x_iret hm rfl rfl (by first | rfl | exact bI_nar | decide) ?_
        first
          | exact ⟨_, _, rfl, rfl, r5.2.ck hW⟩
          | exact ⟨_, _, rfl, rfl, r5.ck hW⟩
          | exact ⟨_, _, rfl, rfl, Ck.rf hW⟩
          | exact ⟨_, _, rfl, rfl, (Tw.acp39 hu).ck hW⟩
          | exact ⟨_, _, rfl, rfl, r1.2.ck hW⟩
          | exact ⟨_, _, rfl, rfl, r2.2.ck hW⟩
          | exact ⟨_, _, rfl, rfl, r3.2.ck hW⟩
          | exact ⟨_, _, rfl, rfl, r4.2.ck hW⟩
          | exact ⟨_, _, rfl, rfl, r6.2.ck hW⟩
          | exact ⟨_, _, rfl, rfl, r7.2.ck hW⟩
          | exact ⟨_, _, rfl, rfl, r8.2.ck hW⟩
          | exact ⟨_, _, rfl, rfl, r9.2.ck hW⟩
          | exact ⟨_, _, rfl, rfl, r10.2.ck hW⟩
          | exact ⟨_, _, rfl, rfl, r11.2.ck hW⟩
          | exact ⟨_, _, rfl, rfl, r12.2.ck hW⟩
          | exact ⟨_, _, rfl, rfl, r13.2.ck hW⟩
          | exact ⟨_, _, rfl, rfl, r14.2.ck hW⟩
          | exact ⟨_, _, rfl, rfl, r15.2.ck hW⟩
          | exact ⟨_, _, rfl, rfl, r16.2.ck hW⟩
          | exact ⟨_, _, rfl, rfl, r17.2.ck hW⟩
          | exact ⟨_, _, rfl, rfl, r18.2.ck hW⟩
          | exact ⟨_, _, rfl, rfl, r19.2.ck hW⟩
          | exact ⟨_, _, rfl, rfl, r1.ck hW⟩
          | exact ⟨_, _, rfl, rfl, r2.ck hW⟩
          | exact ⟨_, _, rfl, rfl, r3.ck hW⟩
          | exact ⟨_, _, rfl, rfl, r4.ck hW⟩
          | exact ⟨_, _, rfl, rfl, r6.ck hW⟩
          | exact ⟨_, _, rfl, rfl, r7.ck hW⟩
          | exact ⟨_, _, rfl, rfl, r8.ck hW⟩
          | exact ⟨_, _, rfl, rfl, r9.ck hW⟩
          | exact ⟨_, _, rfl, rfl, r10.ck hW⟩
          | exact ⟨_, _, rfl, rfl, r11.ck hW⟩
          | exact ⟨_, _, rfl, rfl, r12.ck hW⟩
          | exact ⟨_, _, rfl, rfl, r13.ck hW⟩
          | exact ⟨_, _, rfl, rfl, r14.ck hW⟩
          | exact ⟨_, _, rfl, rfl, r15.ck hW⟩
          | exact ⟨_, _, rfl, rfl, r16.ck hW⟩
          | exact ⟨_, _, rfl, rfl, r17.ck hW⟩
          | exact ⟨_, _, rfl, rfl, r18.ck hW⟩
          | exact ⟨_, _, rfl, rfl, r19.ck hW⟩
          | exact ⟨_, _, rfl, rfl, r20.ck hW⟩
          | exact ⟨_, _, rfl, rfl, r21.ck hW⟩
          | exact ⟨_, _, rfl, rfl, r22.ck hW⟩
          | exact ⟨_, _, rfl, rfl, r23.ck hW⟩
          | exact ⟨_, _, rfl, rfl, r24.ck hW⟩
          | exact ⟨_, _, rfl, rfl, r25.ck hW⟩
          | exact ⟨_, _, rfl, rfl, r26.ck hW⟩
          | exact ⟨_, _, rfl, rfl, r27.ck hW⟩
          | exact ⟨_, _, rfl, rfl, r28.ck hW⟩
          | exact ⟨_, _, rfl, rfl, r29.ck hW⟩
          | exact ⟨_, _, rfl, rfl, r20.2.ck hW⟩
          | exact ⟨_, _, rfl, rfl, r21.2.ck hW⟩
          | exact ⟨_, _, rfl, rfl, r22.2.ck hW⟩
          | exact ⟨_, _, rfl, rfl, r23.2.ck hW⟩
          | exact ⟨_, _, rfl, rfl, r24.2.ck hW⟩
          | exact ⟨_, _, rfl, rfl, r25.2.ck hW⟩
          | exact ⟨_, _, rfl, rfl, r26.2.ck hW⟩
          | exact ⟨_, _, rfl, rfl, r27.2.ck hW⟩
          | exact ⟨_, _, rfl, rfl, r28.2.ck hW⟩
          | exact ⟨_, _, rfl, rfl, r29.2.ck hW⟩
          | exact ⟨_, _, rfl, rfl, r30.2.ck hW⟩
          | exact ⟨_, _, rfl, rfl, r31.2.ck hW⟩
          | exact ⟨_, _, rfl, rfl, r32.2.ck hW⟩
          | exact ⟨_, _, rfl, rfl, r33.2.ck hW⟩
          | exact ⟨_, _, rfl, rfl, r34.2.ck hW⟩
          | exact ⟨_, _, rfl, rfl, r35.2.ck hW⟩
          | exact ⟨_, _, rfl, rfl, r36.2.ck hW⟩
          | exact ⟨_, _, rfl, rfl, r37.2.ck hW⟩
          | exact ⟨_, _, rfl, rfl, r38.2.ck hW⟩
          | exact ⟨_, _, rfl, rfl, r39.2.ck hW⟩
      · refine x_aload_n hm rfl rfl ?_
        refine x_getf hm rfl (gR rfl rfl) ?_
        refine x_iload_n hm rfl rfl ?_
        refine x_aald hm rfl (by first | exact lQ 2 (Or.inl rfl) rfl (shk hs) (by omega) (by decide) | exact lQ 2 (Or.inl rfl) rfl (shk hu) (by omega) (by decide) | exact lQ 3 (Or.inr (Or.inl rfl)) rfl rfl (by omega) (by decide)) ?_
        refine x_callV hm rfl (by first | exact mCallSh hs (by decide) rfl rfl rfl rfl rfl | exact mCallSh hu (by decide) rfl rfl rfl rfl rfl) (by first | exact t79 hs | exact t79 hu) ?_
        refine x_if_eq hm rfl (t := 52) rfl (fun h6 => ?_) (fun h6 => ?_)
        · refine x_aload_n hm rfl rfl ?_
          refine x_getf hm rfl (gR rfl rfl) ?_
          refine x_iload_n hm rfl rfl ?_
          refine x_aald hm rfl (by first | exact lQ 2 (Or.inl rfl) rfl (shk hs) (by omega) (by decide) | exact lQ 2 (Or.inl rfl) rfl (shk hu) (by omega) (by decide) | exact lQ 3 (Or.inr (Or.inl rfl)) rfl rfl (by omega) (by decide)) ?_
          refine x_getf hm rfl (by first | exact gI (sO hs) rfl | exact gI (sO hu) rfl) ?_
          refine x_aload_n hm rfl rfl ?_
          refine x_getf hm rfl (gR rfl rfl) ?_
          refine x_iload_n hm rfl rfl ?_
          refine x_aald hm rfl (by first | exact lQ 2 (Or.inl rfl) rfl (shk hs) (by omega) (by decide) | exact lQ 2 (Or.inl rfl) rfl (shk hu) (by omega) (by decide) | exact lQ 3 (Or.inr (Or.inl rfl)) rfl rfl (by omega) (by decide)) ?_
          refine x_getf hm rfl (by first | exact gI (sO hs) rfl | exact gI (sO hu) rfl) ?_
          refine x_icmp_eq hm rfl (t := 80) rfl (fun h7 => ?_) (fun h7 => ?_)
          · refine x_aload_n hm rfl rfl ?_
            refine x_getf hm rfl (gR rfl rfl) ?_
            refine x_iload_n hm rfl rfl ?_
            refine x_aald hm rfl (by first | exact lQ 2 (Or.inl rfl) rfl (shk hs) (by omega) (by decide) | exact lQ 2 (Or.inl rfl) rfl (shk hu) (by omega) (by decide) | exact lQ 3 (Or.inr (Or.inl rfl)) rfl rfl (by omega) (by decide)) ?_
            refine x_iload_n hm rfl rfl ?_
            refine x_iload hm rfl rfl ?_
            refine x_cVe hm rfl (by first | exact mCallSh hs (by decide) rfl rfl rfl rfl rfl | exact mCallSh hu (by decide) rfl rfl rfl rfl rfl) (by first | exact t121 hs hsz hz | exact t121 hu huz hy) (fun v8 r8 => ?_)
            refine x_if_eq hm rfl (t := 111) rfl (fun h9 => ?_) (fun h9 => ?_)
            · refine x_aload_n hm rfl rfl ?_
              refine x_ldcI hm rfl (v := (-1000001 : Int32)) (by decide +kernel) ?_
              refine x_cVi hm rfl rfl (t7 (by decide +kernel)) (fun v10 M10 r10 => ?_)
              refine x_iret hm rfl rfl (by first | rfl | exact bI_nar | decide) ?_
              first
                | exact ⟨_, _, rfl, rfl, r10.2.ck hW⟩
                | exact ⟨_, _, rfl, rfl, r10.ck hW⟩
                | exact ⟨_, _, rfl, rfl, Ck.rf hW⟩
                | exact ⟨_, _, rfl, rfl, (Tw.acp39 hu).ck hW⟩
                | exact ⟨_, _, rfl, rfl, r8.2.ck hW⟩
                | exact ⟨_, _, rfl, rfl, r8.ck hW⟩
                | exact ⟨_, _, rfl, rfl, r1.2.ck hW⟩
                | exact ⟨_, _, rfl, rfl, r2.2.ck hW⟩
                | exact ⟨_, _, rfl, rfl, r3.2.ck hW⟩
                | exact ⟨_, _, rfl, rfl, r4.2.ck hW⟩
                | exact ⟨_, _, rfl, rfl, r5.2.ck hW⟩
                | exact ⟨_, _, rfl, rfl, r6.2.ck hW⟩
                | exact ⟨_, _, rfl, rfl, r7.2.ck hW⟩
                | exact ⟨_, _, rfl, rfl, r9.2.ck hW⟩
                | exact ⟨_, _, rfl, rfl, r11.2.ck hW⟩
                | exact ⟨_, _, rfl, rfl, r12.2.ck hW⟩
                | exact ⟨_, _, rfl, rfl, r13.2.ck hW⟩
                | exact ⟨_, _, rfl, rfl, r14.2.ck hW⟩
                | exact ⟨_, _, rfl, rfl, r15.2.ck hW⟩
                | exact ⟨_, _, rfl, rfl, r16.2.ck hW⟩
                | exact ⟨_, _, rfl, rfl, r17.2.ck hW⟩
                | exact ⟨_, _, rfl, rfl, r18.2.ck hW⟩
                | exact ⟨_, _, rfl, rfl, r19.2.ck hW⟩
                | exact ⟨_, _, rfl, rfl, r1.ck hW⟩
                | exact ⟨_, _, rfl, rfl, r2.ck hW⟩
                | exact ⟨_, _, rfl, rfl, r3.ck hW⟩
                | exact ⟨_, _, rfl, rfl, r4.ck hW⟩
                | exact ⟨_, _, rfl, rfl, r5.ck hW⟩
                | exact ⟨_, _, rfl, rfl, r6.ck hW⟩
                | exact ⟨_, _, rfl, rfl, r7.ck hW⟩
                | exact ⟨_, _, rfl, rfl, r9.ck hW⟩
                | exact ⟨_, _, rfl, rfl, r11.ck hW⟩
                | exact ⟨_, _, rfl, rfl, r12.ck hW⟩
                | exact ⟨_, _, rfl, rfl, r13.ck hW⟩
                | exact ⟨_, _, rfl, rfl, r14.ck hW⟩
                | exact ⟨_, _, rfl, rfl, r15.ck hW⟩
                | exact ⟨_, _, rfl, rfl, r16.ck hW⟩
                | exact ⟨_, _, rfl, rfl, r17.ck hW⟩
                | exact ⟨_, _, rfl, rfl, r18.ck hW⟩
                | exact ⟨_, _, rfl, rfl, r19.ck hW⟩
                | exact ⟨_, _, rfl, rfl, r20.ck hW⟩
                | exact ⟨_, _, rfl, rfl, r21.ck hW⟩
                | exact ⟨_, _, rfl, rfl, r22.ck hW⟩
                | exact ⟨_, _, rfl, rfl, r23.ck hW⟩
                | exact ⟨_, _, rfl, rfl, r24.ck hW⟩
                | exact ⟨_, _, rfl, rfl, r25.ck hW⟩
                | exact ⟨_, _, rfl, rfl, r26.ck hW⟩
                | exact ⟨_, _, rfl, rfl, r27.ck hW⟩
                | exact ⟨_, _, rfl, rfl, r28.ck hW⟩
                | exact ⟨_, _, rfl, rfl, r29.ck hW⟩
                | exact ⟨_, _, rfl, rfl, r20.2.ck hW⟩
                | exact ⟨_, _, rfl, rfl, r21.2.ck hW⟩
                | exact ⟨_, _, rfl, rfl, r22.2.ck hW⟩
                | exact ⟨_, _, rfl, rfl, r23.2.ck hW⟩
                | exact ⟨_, _, rfl, rfl, r24.2.ck hW⟩
                | exact ⟨_, _, rfl, rfl, r25.2.ck hW⟩
                | exact ⟨_, _, rfl, rfl, r26.2.ck hW⟩
                | exact ⟨_, _, rfl, rfl, r27.2.ck hW⟩
                | exact ⟨_, _, rfl, rfl, r28.2.ck hW⟩
                | exact ⟨_, _, rfl, rfl, r29.2.ck hW⟩
                | exact ⟨_, _, rfl, rfl, r30.2.ck hW⟩
                | exact ⟨_, _, rfl, rfl, r31.2.ck hW⟩
                | exact ⟨_, _, rfl, rfl, r32.2.ck hW⟩
                | exact ⟨_, _, rfl, rfl, r33.2.ck hW⟩
                | exact ⟨_, _, rfl, rfl, r34.2.ck hW⟩
                | exact ⟨_, _, rfl, rfl, r35.2.ck hW⟩
                | exact ⟨_, _, rfl, rfl, r36.2.ck hW⟩
                | exact ⟨_, _, rfl, rfl, r37.2.ck hW⟩
                | exact ⟨_, _, rfl, rfl, r38.2.ck hW⟩
                | exact ⟨_, _, rfl, rfl, r39.2.ck hW⟩
            · first
                | obtain ⟨-, i, j, rfl, rfl, hij⟩ := r8.resolve_left (fun e => by subst e; exact h9 rfl)
                | obtain ⟨-, i, j, rfl, rfl, hij⟩ := r1.resolve_left (fun e => by subst e; exact h9 rfl)
                | obtain ⟨-, i, j, rfl, rfl, hij⟩ := r2.resolve_left (fun e => by subst e; exact h9 rfl)
                | obtain ⟨-, i, j, rfl, rfl, hij⟩ := r3.resolve_left (fun e => by subst e; exact h9 rfl)
                | obtain ⟨-, i, j, rfl, rfl, hij⟩ := r4.resolve_left (fun e => by subst e; exact h9 rfl)
                | obtain ⟨-, i, j, rfl, rfl, hij⟩ := r5.resolve_left (fun e => by subst e; exact h9 rfl)
                | obtain ⟨-, i, j, rfl, rfl, hij⟩ := r6.resolve_left (fun e => by subst e; exact h9 rfl)
                | obtain ⟨-, i, j, rfl, rfl, hij⟩ := r7.resolve_left (fun e => by subst e; exact h9 rfl)
                | obtain ⟨-, i, j, rfl, rfl, hij⟩ := r9.resolve_left (fun e => by subst e; exact h9 rfl)
                | obtain ⟨-, i, j, rfl, rfl, hij⟩ := r10.resolve_left (fun e => by subst e; exact h9 rfl)
                | obtain ⟨-, i, j, rfl, rfl, hij⟩ := r11.resolve_left (fun e => by subst e; exact h9 rfl)
                | obtain ⟨-, i, j, rfl, rfl, hij⟩ := r12.resolve_left (fun e => by subst e; exact h9 rfl)
                | obtain ⟨-, i, j, rfl, rfl, hij⟩ := r13.resolve_left (fun e => by subst e; exact h9 rfl)
                | obtain ⟨-, i, j, rfl, rfl, hij⟩ := r14.resolve_left (fun e => by subst e; exact h9 rfl)
                | obtain ⟨-, i, j, rfl, rfl, hij⟩ := r15.resolve_left (fun e => by subst e; exact h9 rfl)
              refine x_aload_n hm rfl rfl ?_
              refine x_getf hm rfl (gR rfl rfl) ?_
              refine x_iload_n hm rfl rfl ?_
              refine x_aald hm rfl (by first | exact lQ 2 (Or.inl rfl) rfl (shk hs) (by omega) (by decide) | exact lQ 2 (Or.inl rfl) rfl (shk hu) (by omega) (by decide) | exact lQ 3 (Or.inr (Or.inl rfl)) rfl rfl (by omega) (by decide)) ?_
              refine x_iload hm rfl rfl ?_
              refine x_iload hm rfl rfl ?_
              refine x_cVe hm rfl (by first | exact mCallSh hs (by decide) rfl rfl rfl rfl rfl | exact mCallSh hu (by decide) rfl rfl rfl rfl rfl) (by first | exact t121 hs hsz hz | exact t121 hu huz hy) (fun v11 r11 => ?_)
              refine x_if_ne hm rfl (t := 118) rfl (fun h12 => ?_) (fun h12 => ?_)
              · first
                  | obtain ⟨-, i2, j2, rfl, e2, hij2⟩ := r11.resolve_left (fun e => by subst e; exact h12 rfl)
                  | obtain ⟨-, i2, j2, rfl, e2, hij2⟩ := r8.resolve_left (fun e => by subst e; exact h12 rfl)
                  | obtain ⟨-, i2, j2, rfl, e2, hij2⟩ := r9.resolve_left (fun e => by subst e; exact h12 rfl)
                  | obtain ⟨-, i2, j2, rfl, e2, hij2⟩ := r10.resolve_left (fun e => by subst e; exact h12 rfl)
                  | obtain ⟨-, i2, j2, rfl, e2, hij2⟩ := r12.resolve_left (fun e => by subst e; exact h12 rfl)
                  | obtain ⟨-, i2, j2, rfl, e2, hij2⟩ := r13.resolve_left (fun e => by subst e; exact h12 rfl)
                  | obtain ⟨-, i2, j2, rfl, e2, hij2⟩ := r14.resolve_left (fun e => by subst e; exact h12 rfl)
                  | obtain ⟨-, i2, j2, rfl, e2, hij2⟩ := r15.resolve_left (fun e => by subst e; exact h12 rfl)
                  | obtain ⟨-, i2, j2, rfl, e2, hij2⟩ := r16.resolve_left (fun e => by subst e; exact h12 rfl)
                  | obtain ⟨-, i2, j2, rfl, e2, hij2⟩ := r17.resolve_left (fun e => by subst e; exact h12 rfl)
                  | obtain ⟨-, i2, j2, rfl, e2, hij2⟩ := r18.resolve_left (fun e => by subst e; exact h12 rfl)
                  | obtain ⟨-, i2, j2, rfl, e2, hij2⟩ := r19.resolve_left (fun e => by subst e; exact h12 rfl)
                  | obtain ⟨-, i2, j2, rfl, e2, hij2⟩ := r20.resolve_left (fun e => by subst e; exact h12 rfl)
                  | obtain ⟨-, i2, j2, rfl, e2, hij2⟩ := r21.resolve_left (fun e => by subst e; exact h12 rfl)
                  | obtain ⟨-, i2, j2, rfl, e2, hij2⟩ := r22.resolve_left (fun e => by subst e; exact h12 rfl)
                  | obtain ⟨-, i2, j2, rfl, e2, hij2⟩ := r23.resolve_left (fun e => by subst e; exact h12 rfl)
                refine x_aload_n hm rfl rfl ?_
                refine x_getf hm rfl (gR rfl rfl) ?_
                refine x_iload_n hm rfl rfl ?_
                refine x_aald hm rfl (by first | exact lQ 2 (Or.inl rfl) rfl (shk hs) (by omega) (by decide) | exact lQ 2 (Or.inl rfl) rfl (shk hu) (by omega) (by decide) | exact lQ 3 (Or.inr (Or.inl rfl)) rfl rfl (by omega) (by decide)) ?_
                refine x_getf hm rfl (by first | exact gR (sO hs) rfl | exact gR (sO hu) rfl) ?_
                refine x_iload_n hm rfl rfl ?_
                refine x_aload_n hm rfl rfl ?_
                refine x_getf hm rfl (gR rfl rfl) ?_
                refine x_iload_n hm rfl rfl ?_
                refine x_aald hm rfl (by first | exact lQ 2 (Or.inl rfl) rfl (shk hs) (by omega) (by decide) | exact lQ 2 (Or.inl rfl) rfl (shk hu) (by omega) (by decide) | exact lQ 3 (Or.inr (Or.inl rfl)) rfl rfl (by omega) (by decide)) ?_
                refine x_getf hm rfl (by first | exact gR (sO hs) rfl | exact gR (sO hu) rfl) ?_
                refine x_iload hm rfl rfl ?_
                refine x_iload hm rfl rfl ?_
                have e3 : j = j2 := by
                  have := jI_nat (k := j) (by omega)
                  have h9 := jI_nat (k := j2) (by omega)
                  rw [← e2] at h9
                  omega
                refine x_lib hm rfl (acp_call (sRow hs) (sRow hu) (by omega) (by omega) ⟨by decide, by decide⟩ rfl) ?_
                dsimp only
                refine x_iload hm rfl rfl ?_
                refine x_iret hm rfl rfl (by first | rfl | exact bI_nar | decide) ?_
                first
                  | exact ⟨_, _, rfl, rfl, r11.2.ck hW⟩
                  | exact ⟨_, _, rfl, rfl, r11.ck hW⟩
                  | exact ⟨_, _, rfl, rfl, Ck.rf hW⟩
                  | exact ⟨_, _, rfl, rfl, (Tw.acp39 hu).ck hW⟩
                  | exact ⟨_, _, rfl, rfl, r8.2.ck hW⟩
                  | exact ⟨_, _, rfl, rfl, r8.ck hW⟩
                  | exact ⟨_, _, rfl, rfl, r1.2.ck hW⟩
                  | exact ⟨_, _, rfl, rfl, r2.2.ck hW⟩
                  | exact ⟨_, _, rfl, rfl, r3.2.ck hW⟩
                  | exact ⟨_, _, rfl, rfl, r4.2.ck hW⟩
                  | exact ⟨_, _, rfl, rfl, r5.2.ck hW⟩
                  | exact ⟨_, _, rfl, rfl, r6.2.ck hW⟩
                  | exact ⟨_, _, rfl, rfl, r7.2.ck hW⟩
                  | exact ⟨_, _, rfl, rfl, r9.2.ck hW⟩
                  | exact ⟨_, _, rfl, rfl, r10.2.ck hW⟩
                  | exact ⟨_, _, rfl, rfl, r12.2.ck hW⟩
                  | exact ⟨_, _, rfl, rfl, r13.2.ck hW⟩
                  | exact ⟨_, _, rfl, rfl, r14.2.ck hW⟩
                  | exact ⟨_, _, rfl, rfl, r15.2.ck hW⟩
                  | exact ⟨_, _, rfl, rfl, r16.2.ck hW⟩
                  | exact ⟨_, _, rfl, rfl, r17.2.ck hW⟩
                  | exact ⟨_, _, rfl, rfl, r18.2.ck hW⟩
                  | exact ⟨_, _, rfl, rfl, r19.2.ck hW⟩
                  | exact ⟨_, _, rfl, rfl, r1.ck hW⟩
                  | exact ⟨_, _, rfl, rfl, r2.ck hW⟩
                  | exact ⟨_, _, rfl, rfl, r3.ck hW⟩
                  | exact ⟨_, _, rfl, rfl, r4.ck hW⟩
                  | exact ⟨_, _, rfl, rfl, r5.ck hW⟩
                  | exact ⟨_, _, rfl, rfl, r6.ck hW⟩
                  | exact ⟨_, _, rfl, rfl, r7.ck hW⟩
                  | exact ⟨_, _, rfl, rfl, r9.ck hW⟩
                  | exact ⟨_, _, rfl, rfl, r10.ck hW⟩
                  | exact ⟨_, _, rfl, rfl, r12.ck hW⟩
                  | exact ⟨_, _, rfl, rfl, r13.ck hW⟩
                  | exact ⟨_, _, rfl, rfl, r14.ck hW⟩
                  | exact ⟨_, _, rfl, rfl, r15.ck hW⟩
                  | exact ⟨_, _, rfl, rfl, r16.ck hW⟩
                  | exact ⟨_, _, rfl, rfl, r17.ck hW⟩
                  | exact ⟨_, _, rfl, rfl, r18.ck hW⟩
                  | exact ⟨_, _, rfl, rfl, r19.ck hW⟩
                  | exact ⟨_, _, rfl, rfl, r20.ck hW⟩
                  | exact ⟨_, _, rfl, rfl, r21.ck hW⟩
                  | exact ⟨_, _, rfl, rfl, r22.ck hW⟩
                  | exact ⟨_, _, rfl, rfl, r23.ck hW⟩
                  | exact ⟨_, _, rfl, rfl, r24.ck hW⟩
                  | exact ⟨_, _, rfl, rfl, r25.ck hW⟩
                  | exact ⟨_, _, rfl, rfl, r26.ck hW⟩
                  | exact ⟨_, _, rfl, rfl, r27.ck hW⟩
                  | exact ⟨_, _, rfl, rfl, r28.ck hW⟩
                  | exact ⟨_, _, rfl, rfl, r29.ck hW⟩
                  | exact ⟨_, _, rfl, rfl, r20.2.ck hW⟩
                  | exact ⟨_, _, rfl, rfl, r21.2.ck hW⟩
                  | exact ⟨_, _, rfl, rfl, r22.2.ck hW⟩
                  | exact ⟨_, _, rfl, rfl, r23.2.ck hW⟩
                  | exact ⟨_, _, rfl, rfl, r24.2.ck hW⟩
                  | exact ⟨_, _, rfl, rfl, r25.2.ck hW⟩
                  | exact ⟨_, _, rfl, rfl, r26.2.ck hW⟩
                  | exact ⟨_, _, rfl, rfl, r27.2.ck hW⟩
                  | exact ⟨_, _, rfl, rfl, r28.2.ck hW⟩
                  | exact ⟨_, _, rfl, rfl, r29.2.ck hW⟩
                  | exact ⟨_, _, rfl, rfl, r30.2.ck hW⟩
                  | exact ⟨_, _, rfl, rfl, r31.2.ck hW⟩
                  | exact ⟨_, _, rfl, rfl, r32.2.ck hW⟩
                  | exact ⟨_, _, rfl, rfl, r33.2.ck hW⟩
                  | exact ⟨_, _, rfl, rfl, r34.2.ck hW⟩
                  | exact ⟨_, _, rfl, rfl, r35.2.ck hW⟩
                  | exact ⟨_, _, rfl, rfl, r36.2.ck hW⟩
                  | exact ⟨_, _, rfl, rfl, r37.2.ck hW⟩
                  | exact ⟨_, _, rfl, rfl, r38.2.ck hW⟩
                  | exact ⟨_, _, rfl, rfl, r39.2.ck hW⟩
              · refine x_aload_n hm rfl rfl ?_
                refine x_ldcI hm rfl (v := (-1000001 : Int32)) (by decide +kernel) ?_
                refine x_cVi hm rfl rfl (t7 (by decide +kernel)) (fun v13 M13 r13 => ?_)
                refine x_iret hm rfl rfl (by first | rfl | exact bI_nar | decide) ?_
                first
                  | exact ⟨_, _, rfl, rfl, r13.2.ck hW⟩
                  | exact ⟨_, _, rfl, rfl, r13.ck hW⟩
                  | exact ⟨_, _, rfl, rfl, Ck.rf hW⟩
                  | exact ⟨_, _, rfl, rfl, (Tw.acp39 hu).ck hW⟩
                  | exact ⟨_, _, rfl, rfl, r8.2.ck hW⟩
                  | exact ⟨_, _, rfl, rfl, r11.2.ck hW⟩
                  | exact ⟨_, _, rfl, rfl, r8.ck hW⟩
                  | exact ⟨_, _, rfl, rfl, r11.ck hW⟩
                  | exact ⟨_, _, rfl, rfl, r1.2.ck hW⟩
                  | exact ⟨_, _, rfl, rfl, r2.2.ck hW⟩
                  | exact ⟨_, _, rfl, rfl, r3.2.ck hW⟩
                  | exact ⟨_, _, rfl, rfl, r4.2.ck hW⟩
                  | exact ⟨_, _, rfl, rfl, r5.2.ck hW⟩
                  | exact ⟨_, _, rfl, rfl, r6.2.ck hW⟩
                  | exact ⟨_, _, rfl, rfl, r7.2.ck hW⟩
                  | exact ⟨_, _, rfl, rfl, r9.2.ck hW⟩
                  | exact ⟨_, _, rfl, rfl, r10.2.ck hW⟩
                  | exact ⟨_, _, rfl, rfl, r12.2.ck hW⟩
                  | exact ⟨_, _, rfl, rfl, r14.2.ck hW⟩
                  | exact ⟨_, _, rfl, rfl, r15.2.ck hW⟩
                  | exact ⟨_, _, rfl, rfl, r16.2.ck hW⟩
                  | exact ⟨_, _, rfl, rfl, r17.2.ck hW⟩
                  | exact ⟨_, _, rfl, rfl, r18.2.ck hW⟩
                  | exact ⟨_, _, rfl, rfl, r19.2.ck hW⟩
                  | exact ⟨_, _, rfl, rfl, r1.ck hW⟩
                  | exact ⟨_, _, rfl, rfl, r2.ck hW⟩
                  | exact ⟨_, _, rfl, rfl, r3.ck hW⟩
                  | exact ⟨_, _, rfl, rfl, r4.ck hW⟩
                  | exact ⟨_, _, rfl, rfl, r5.ck hW⟩
                  | exact ⟨_, _, rfl, rfl, r6.ck hW⟩
                  | exact ⟨_, _, rfl, rfl, r7.ck hW⟩
                  | exact ⟨_, _, rfl, rfl, r9.ck hW⟩
                  | exact ⟨_, _, rfl, rfl, r10.ck hW⟩
                  | exact ⟨_, _, rfl, rfl, r12.ck hW⟩
                  | exact ⟨_, _, rfl, rfl, r14.ck hW⟩
                  | exact ⟨_, _, rfl, rfl, r15.ck hW⟩
                  | exact ⟨_, _, rfl, rfl, r16.ck hW⟩
                  | exact ⟨_, _, rfl, rfl, r17.ck hW⟩
                  | exact ⟨_, _, rfl, rfl, r18.ck hW⟩
                  | exact ⟨_, _, rfl, rfl, r19.ck hW⟩
                  | exact ⟨_, _, rfl, rfl, r20.ck hW⟩
                  | exact ⟨_, _, rfl, rfl, r21.ck hW⟩
                  | exact ⟨_, _, rfl, rfl, r22.ck hW⟩
                  | exact ⟨_, _, rfl, rfl, r23.ck hW⟩
                  | exact ⟨_, _, rfl, rfl, r24.ck hW⟩
                  | exact ⟨_, _, rfl, rfl, r25.ck hW⟩
                  | exact ⟨_, _, rfl, rfl, r26.ck hW⟩
                  | exact ⟨_, _, rfl, rfl, r27.ck hW⟩
                  | exact ⟨_, _, rfl, rfl, r28.ck hW⟩
                  | exact ⟨_, _, rfl, rfl, r29.ck hW⟩
                  | exact ⟨_, _, rfl, rfl, r20.2.ck hW⟩
                  | exact ⟨_, _, rfl, rfl, r21.2.ck hW⟩
                  | exact ⟨_, _, rfl, rfl, r22.2.ck hW⟩
                  | exact ⟨_, _, rfl, rfl, r23.2.ck hW⟩
                  | exact ⟨_, _, rfl, rfl, r24.2.ck hW⟩
                  | exact ⟨_, _, rfl, rfl, r25.2.ck hW⟩
                  | exact ⟨_, _, rfl, rfl, r26.2.ck hW⟩
                  | exact ⟨_, _, rfl, rfl, r27.2.ck hW⟩
                  | exact ⟨_, _, rfl, rfl, r28.2.ck hW⟩
                  | exact ⟨_, _, rfl, rfl, r29.2.ck hW⟩
                  | exact ⟨_, _, rfl, rfl, r30.2.ck hW⟩
                  | exact ⟨_, _, rfl, rfl, r31.2.ck hW⟩
                  | exact ⟨_, _, rfl, rfl, r32.2.ck hW⟩
                  | exact ⟨_, _, rfl, rfl, r33.2.ck hW⟩
                  | exact ⟨_, _, rfl, rfl, r34.2.ck hW⟩
                  | exact ⟨_, _, rfl, rfl, r35.2.ck hW⟩
                  | exact ⟨_, _, rfl, rfl, r36.2.ck hW⟩
                  | exact ⟨_, _, rfl, rfl, r37.2.ck hW⟩
                  | exact ⟨_, _, rfl, rfl, r38.2.ck hW⟩
                  | exact ⟨_, _, rfl, rfl, r39.2.ck hW⟩
          · refine x_aload_n hm rfl rfl ?_
            refine x_ldcI hm rfl (v := (-1000003 : Int32)) (by decide +kernel) ?_
            refine x_cVi hm rfl rfl (t7 (by decide +kernel)) (fun v14 M14 r14 => ?_)
            refine x_iret hm rfl rfl (by first | rfl | exact bI_nar | decide) ?_
            first
              | exact ⟨_, _, rfl, rfl, r14.2.ck hW⟩
              | exact ⟨_, _, rfl, rfl, r14.ck hW⟩
              | exact ⟨_, _, rfl, rfl, Ck.rf hW⟩
              | exact ⟨_, _, rfl, rfl, (Tw.acp39 hu).ck hW⟩
              | exact ⟨_, _, rfl, rfl, r1.2.ck hW⟩
              | exact ⟨_, _, rfl, rfl, r2.2.ck hW⟩
              | exact ⟨_, _, rfl, rfl, r3.2.ck hW⟩
              | exact ⟨_, _, rfl, rfl, r4.2.ck hW⟩
              | exact ⟨_, _, rfl, rfl, r5.2.ck hW⟩
              | exact ⟨_, _, rfl, rfl, r6.2.ck hW⟩
              | exact ⟨_, _, rfl, rfl, r7.2.ck hW⟩
              | exact ⟨_, _, rfl, rfl, r8.2.ck hW⟩
              | exact ⟨_, _, rfl, rfl, r9.2.ck hW⟩
              | exact ⟨_, _, rfl, rfl, r10.2.ck hW⟩
              | exact ⟨_, _, rfl, rfl, r11.2.ck hW⟩
              | exact ⟨_, _, rfl, rfl, r12.2.ck hW⟩
              | exact ⟨_, _, rfl, rfl, r13.2.ck hW⟩
              | exact ⟨_, _, rfl, rfl, r15.2.ck hW⟩
              | exact ⟨_, _, rfl, rfl, r16.2.ck hW⟩
              | exact ⟨_, _, rfl, rfl, r17.2.ck hW⟩
              | exact ⟨_, _, rfl, rfl, r18.2.ck hW⟩
              | exact ⟨_, _, rfl, rfl, r19.2.ck hW⟩
              | exact ⟨_, _, rfl, rfl, r1.ck hW⟩
              | exact ⟨_, _, rfl, rfl, r2.ck hW⟩
              | exact ⟨_, _, rfl, rfl, r3.ck hW⟩
              | exact ⟨_, _, rfl, rfl, r4.ck hW⟩
              | exact ⟨_, _, rfl, rfl, r5.ck hW⟩
              | exact ⟨_, _, rfl, rfl, r6.ck hW⟩
              | exact ⟨_, _, rfl, rfl, r7.ck hW⟩
              | exact ⟨_, _, rfl, rfl, r8.ck hW⟩
              | exact ⟨_, _, rfl, rfl, r9.ck hW⟩
              | exact ⟨_, _, rfl, rfl, r10.ck hW⟩
              | exact ⟨_, _, rfl, rfl, r11.ck hW⟩
              | exact ⟨_, _, rfl, rfl, r12.ck hW⟩
              | exact ⟨_, _, rfl, rfl, r13.ck hW⟩
              | exact ⟨_, _, rfl, rfl, r15.ck hW⟩
              | exact ⟨_, _, rfl, rfl, r16.ck hW⟩
              | exact ⟨_, _, rfl, rfl, r17.ck hW⟩
              | exact ⟨_, _, rfl, rfl, r18.ck hW⟩
              | exact ⟨_, _, rfl, rfl, r19.ck hW⟩
              | exact ⟨_, _, rfl, rfl, r20.ck hW⟩
              | exact ⟨_, _, rfl, rfl, r21.ck hW⟩
              | exact ⟨_, _, rfl, rfl, r22.ck hW⟩
              | exact ⟨_, _, rfl, rfl, r23.ck hW⟩
              | exact ⟨_, _, rfl, rfl, r24.ck hW⟩
              | exact ⟨_, _, rfl, rfl, r25.ck hW⟩
              | exact ⟨_, _, rfl, rfl, r26.ck hW⟩
              | exact ⟨_, _, rfl, rfl, r27.ck hW⟩
              | exact ⟨_, _, rfl, rfl, r28.ck hW⟩
              | exact ⟨_, _, rfl, rfl, r29.ck hW⟩
              | exact ⟨_, _, rfl, rfl, r20.2.ck hW⟩
              | exact ⟨_, _, rfl, rfl, r21.2.ck hW⟩
              | exact ⟨_, _, rfl, rfl, r22.2.ck hW⟩
              | exact ⟨_, _, rfl, rfl, r23.2.ck hW⟩
              | exact ⟨_, _, rfl, rfl, r24.2.ck hW⟩
              | exact ⟨_, _, rfl, rfl, r25.2.ck hW⟩
              | exact ⟨_, _, rfl, rfl, r26.2.ck hW⟩
              | exact ⟨_, _, rfl, rfl, r27.2.ck hW⟩
              | exact ⟨_, _, rfl, rfl, r28.2.ck hW⟩
              | exact ⟨_, _, rfl, rfl, r29.2.ck hW⟩
              | exact ⟨_, _, rfl, rfl, r30.2.ck hW⟩
              | exact ⟨_, _, rfl, rfl, r31.2.ck hW⟩
              | exact ⟨_, _, rfl, rfl, r32.2.ck hW⟩
              | exact ⟨_, _, rfl, rfl, r33.2.ck hW⟩
              | exact ⟨_, _, rfl, rfl, r34.2.ck hW⟩
              | exact ⟨_, _, rfl, rfl, r35.2.ck hW⟩
              | exact ⟨_, _, rfl, rfl, r36.2.ck hW⟩
              | exact ⟨_, _, rfl, rfl, r37.2.ck hW⟩
              | exact ⟨_, _, rfl, rfl, r38.2.ck hW⟩
              | exact ⟨_, _, rfl, rfl, r39.2.ck hW⟩
        · refine x_aload_n hm rfl rfl ?_
          refine x_ldcI hm rfl (v := (-1000006 : Int32)) (by decide +kernel) ?_
          refine x_cVi hm rfl rfl (t7 (by decide +kernel)) (fun v15 M15 r15 => ?_)
          refine x_iret hm rfl rfl (by first | rfl | exact bI_nar | decide) ?_
          first
            | exact ⟨_, _, rfl, rfl, r15.2.ck hW⟩
            | exact ⟨_, _, rfl, rfl, r15.ck hW⟩
            | exact ⟨_, _, rfl, rfl, Ck.rf hW⟩
            | exact ⟨_, _, rfl, rfl, (Tw.acp39 hu).ck hW⟩
            | exact ⟨_, _, rfl, rfl, r1.2.ck hW⟩
            | exact ⟨_, _, rfl, rfl, r2.2.ck hW⟩
            | exact ⟨_, _, rfl, rfl, r3.2.ck hW⟩
            | exact ⟨_, _, rfl, rfl, r4.2.ck hW⟩
            | exact ⟨_, _, rfl, rfl, r5.2.ck hW⟩
            | exact ⟨_, _, rfl, rfl, r6.2.ck hW⟩
            | exact ⟨_, _, rfl, rfl, r7.2.ck hW⟩
            | exact ⟨_, _, rfl, rfl, r8.2.ck hW⟩
            | exact ⟨_, _, rfl, rfl, r9.2.ck hW⟩
            | exact ⟨_, _, rfl, rfl, r10.2.ck hW⟩
            | exact ⟨_, _, rfl, rfl, r11.2.ck hW⟩
            | exact ⟨_, _, rfl, rfl, r12.2.ck hW⟩
            | exact ⟨_, _, rfl, rfl, r13.2.ck hW⟩
            | exact ⟨_, _, rfl, rfl, r14.2.ck hW⟩
            | exact ⟨_, _, rfl, rfl, r16.2.ck hW⟩
            | exact ⟨_, _, rfl, rfl, r17.2.ck hW⟩
            | exact ⟨_, _, rfl, rfl, r18.2.ck hW⟩
            | exact ⟨_, _, rfl, rfl, r19.2.ck hW⟩
            | exact ⟨_, _, rfl, rfl, r1.ck hW⟩
            | exact ⟨_, _, rfl, rfl, r2.ck hW⟩
            | exact ⟨_, _, rfl, rfl, r3.ck hW⟩
            | exact ⟨_, _, rfl, rfl, r4.ck hW⟩
            | exact ⟨_, _, rfl, rfl, r5.ck hW⟩
            | exact ⟨_, _, rfl, rfl, r6.ck hW⟩
            | exact ⟨_, _, rfl, rfl, r7.ck hW⟩
            | exact ⟨_, _, rfl, rfl, r8.ck hW⟩
            | exact ⟨_, _, rfl, rfl, r9.ck hW⟩
            | exact ⟨_, _, rfl, rfl, r10.ck hW⟩
            | exact ⟨_, _, rfl, rfl, r11.ck hW⟩
            | exact ⟨_, _, rfl, rfl, r12.ck hW⟩
            | exact ⟨_, _, rfl, rfl, r13.ck hW⟩
            | exact ⟨_, _, rfl, rfl, r14.ck hW⟩
            | exact ⟨_, _, rfl, rfl, r16.ck hW⟩
            | exact ⟨_, _, rfl, rfl, r17.ck hW⟩
            | exact ⟨_, _, rfl, rfl, r18.ck hW⟩
            | exact ⟨_, _, rfl, rfl, r19.ck hW⟩
            | exact ⟨_, _, rfl, rfl, r20.ck hW⟩
            | exact ⟨_, _, rfl, rfl, r21.ck hW⟩
            | exact ⟨_, _, rfl, rfl, r22.ck hW⟩
            | exact ⟨_, _, rfl, rfl, r23.ck hW⟩
            | exact ⟨_, _, rfl, rfl, r24.ck hW⟩
            | exact ⟨_, _, rfl, rfl, r25.ck hW⟩
            | exact ⟨_, _, rfl, rfl, r26.ck hW⟩
            | exact ⟨_, _, rfl, rfl, r27.ck hW⟩
            | exact ⟨_, _, rfl, rfl, r28.ck hW⟩
            | exact ⟨_, _, rfl, rfl, r29.ck hW⟩
            | exact ⟨_, _, rfl, rfl, r20.2.ck hW⟩
            | exact ⟨_, _, rfl, rfl, r21.2.ck hW⟩
            | exact ⟨_, _, rfl, rfl, r22.2.ck hW⟩
            | exact ⟨_, _, rfl, rfl, r23.2.ck hW⟩
            | exact ⟨_, _, rfl, rfl, r24.2.ck hW⟩
            | exact ⟨_, _, rfl, rfl, r25.2.ck hW⟩
            | exact ⟨_, _, rfl, rfl, r26.2.ck hW⟩
            | exact ⟨_, _, rfl, rfl, r27.2.ck hW⟩
            | exact ⟨_, _, rfl, rfl, r28.2.ck hW⟩
            | exact ⟨_, _, rfl, rfl, r29.2.ck hW⟩
            | exact ⟨_, _, rfl, rfl, r30.2.ck hW⟩
            | exact ⟨_, _, rfl, rfl, r31.2.ck hW⟩
            | exact ⟨_, _, rfl, rfl, r32.2.ck hW⟩
            | exact ⟨_, _, rfl, rfl, r33.2.ck hW⟩
            | exact ⟨_, _, rfl, rfl, r34.2.ck hW⟩
            | exact ⟨_, _, rfl, rfl, r35.2.ck hW⟩
            | exact ⟨_, _, rfl, rfl, r36.2.ck hW⟩
            | exact ⟨_, _, rfl, rfl, r37.2.ck hW⟩
            | exact ⟨_, _, rfl, rfl, r38.2.ck hW⟩
            | exact ⟨_, _, rfl, rfl, r39.2.ck hW⟩
    · refine x_aload_n hm rfl rfl ?_
      refine x_ldcI hm rfl (v := (-1000001 : Int32)) (by decide +kernel) ?_
      refine x_cVi hm rfl rfl (t7 (by decide +kernel)) (fun v16 M16 r16 => ?_)
      refine x_iret hm rfl rfl (by first | rfl | exact bI_nar | decide) ?_
      first
        | exact ⟨_, _, rfl, rfl, r16.2.ck hW⟩
        | exact ⟨_, _, rfl, rfl, r16.ck hW⟩
        | exact ⟨_, _, rfl, rfl, Ck.rf hW⟩
        | exact ⟨_, _, rfl, rfl, (Tw.acp39 hu).ck hW⟩
        | exact ⟨_, _, rfl, rfl, r1.2.ck hW⟩
        | exact ⟨_, _, rfl, rfl, r2.2.ck hW⟩
        | exact ⟨_, _, rfl, rfl, r3.2.ck hW⟩
        | exact ⟨_, _, rfl, rfl, r4.2.ck hW⟩
        | exact ⟨_, _, rfl, rfl, r5.2.ck hW⟩
        | exact ⟨_, _, rfl, rfl, r6.2.ck hW⟩
        | exact ⟨_, _, rfl, rfl, r7.2.ck hW⟩
        | exact ⟨_, _, rfl, rfl, r8.2.ck hW⟩
        | exact ⟨_, _, rfl, rfl, r9.2.ck hW⟩
        | exact ⟨_, _, rfl, rfl, r10.2.ck hW⟩
        | exact ⟨_, _, rfl, rfl, r11.2.ck hW⟩
        | exact ⟨_, _, rfl, rfl, r12.2.ck hW⟩
        | exact ⟨_, _, rfl, rfl, r13.2.ck hW⟩
        | exact ⟨_, _, rfl, rfl, r14.2.ck hW⟩
        | exact ⟨_, _, rfl, rfl, r15.2.ck hW⟩
        | exact ⟨_, _, rfl, rfl, r17.2.ck hW⟩
        | exact ⟨_, _, rfl, rfl, r18.2.ck hW⟩
        | exact ⟨_, _, rfl, rfl, r19.2.ck hW⟩
        | exact ⟨_, _, rfl, rfl, r1.ck hW⟩
        | exact ⟨_, _, rfl, rfl, r2.ck hW⟩
        | exact ⟨_, _, rfl, rfl, r3.ck hW⟩
        | exact ⟨_, _, rfl, rfl, r4.ck hW⟩
        | exact ⟨_, _, rfl, rfl, r5.ck hW⟩
        | exact ⟨_, _, rfl, rfl, r6.ck hW⟩
        | exact ⟨_, _, rfl, rfl, r7.ck hW⟩
        | exact ⟨_, _, rfl, rfl, r8.ck hW⟩
        | exact ⟨_, _, rfl, rfl, r9.ck hW⟩
        | exact ⟨_, _, rfl, rfl, r10.ck hW⟩
        | exact ⟨_, _, rfl, rfl, r11.ck hW⟩
        | exact ⟨_, _, rfl, rfl, r12.ck hW⟩
        | exact ⟨_, _, rfl, rfl, r13.ck hW⟩
        | exact ⟨_, _, rfl, rfl, r14.ck hW⟩
        | exact ⟨_, _, rfl, rfl, r15.ck hW⟩
        | exact ⟨_, _, rfl, rfl, r17.ck hW⟩
        | exact ⟨_, _, rfl, rfl, r18.ck hW⟩
        | exact ⟨_, _, rfl, rfl, r19.ck hW⟩
        | exact ⟨_, _, rfl, rfl, r20.ck hW⟩
        | exact ⟨_, _, rfl, rfl, r21.ck hW⟩
        | exact ⟨_, _, rfl, rfl, r22.ck hW⟩
        | exact ⟨_, _, rfl, rfl, r23.ck hW⟩
        | exact ⟨_, _, rfl, rfl, r24.ck hW⟩
        | exact ⟨_, _, rfl, rfl, r25.ck hW⟩
        | exact ⟨_, _, rfl, rfl, r26.ck hW⟩
        | exact ⟨_, _, rfl, rfl, r27.ck hW⟩
        | exact ⟨_, _, rfl, rfl, r28.ck hW⟩
        | exact ⟨_, _, rfl, rfl, r29.ck hW⟩
        | exact ⟨_, _, rfl, rfl, r20.2.ck hW⟩
        | exact ⟨_, _, rfl, rfl, r21.2.ck hW⟩
        | exact ⟨_, _, rfl, rfl, r22.2.ck hW⟩
        | exact ⟨_, _, rfl, rfl, r23.2.ck hW⟩
        | exact ⟨_, _, rfl, rfl, r24.2.ck hW⟩
        | exact ⟨_, _, rfl, rfl, r25.2.ck hW⟩
        | exact ⟨_, _, rfl, rfl, r26.2.ck hW⟩
        | exact ⟨_, _, rfl, rfl, r27.2.ck hW⟩
        | exact ⟨_, _, rfl, rfl, r28.2.ck hW⟩
        | exact ⟨_, _, rfl, rfl, r29.2.ck hW⟩
        | exact ⟨_, _, rfl, rfl, r30.2.ck hW⟩
        | exact ⟨_, _, rfl, rfl, r31.2.ck hW⟩
        | exact ⟨_, _, rfl, rfl, r32.2.ck hW⟩
        | exact ⟨_, _, rfl, rfl, r33.2.ck hW⟩
        | exact ⟨_, _, rfl, rfl, r34.2.ck hW⟩
        | exact ⟨_, _, rfl, rfl, r35.2.ck hW⟩
        | exact ⟨_, _, rfl, rfl, r36.2.ck hW⟩
        | exact ⟨_, _, rfl, rfl, r37.2.ck hW⟩
        | exact ⟨_, _, rfl, rfl, r38.2.ck hW⟩
        | exact ⟨_, _, rfl, rfl, r39.2.ck hW⟩
end CH
end
