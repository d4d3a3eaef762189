/-! ===== the class: deals, paint ===== -/
section CF
variable {X : mSc} {Q : Option Value → mHp → Prop} {M : mM} {b : Nat}
theorem t69 {a1 a2 a3 : Int32} (hW : Wf M) : ∃ v, mT X 69 [.ref 0, .int a1, .int a2, .int a3] (con M) (some (.int v)) (con M) ∧ (v = nI 0 ∨ (v = nI 1 ∧ ∃ p q s, p < 8 ∧ q < 8 ∧ s < 256 ∧ a1 = nI p ∧ a2 = nI q ∧ a3 = nI s)) := by
  refine te_of (row := _) rfl (Nat.le_of_ble_eq_true rfl) ?_
  have hm : mMet 69 = some _ := rfl
  obtain ⟨np, hp8, hnp⟩ := hW.cpn (b := 1) (by decide)
  obtain ⟨nt, hn8, hnt⟩ := hW.ct (b := 1) (by decide)
  have hpw := pow_k hn8
  refine x_aload_n hm rfl rfl ?_
  refine x_getf hm rfl (gR rfl rfl) ?_
  refine x_iload_n hm rfl rfl ?_
  refine x_callV hm rfl rfl (t19 (by decide)) ?_
  refine x_if_eq hm rfl (t := 42) rfl (fun h1 => ?_) (fun h1 => ?_)
  · refine x_iconst hm rfl (v := nI 0) (by decide) ?_
    refine x_iret hm rfl rfl (by first | rfl | exact bI_nar | decide) ?_
    exact ⟨_, rfl, rfl, by first | exact Or.inl rfl | exact Or.inr ⟨rfl, p, q, s, by omega, by omega, by omega, rfl, rfl, rfl⟩⟩
  · obtain ⟨p, hp, rfl⟩ := in_k hnp (by omega) (bI_ne0 h1)
    refine x_aload_n hm rfl rfl ?_
    refine x_getf hm rfl (gR rfl rfl) ?_
    refine x_iload_n hm rfl rfl ?_
    refine x_callV hm rfl rfl (t19 (by decide)) ?_
    refine x_if_eq hm rfl (t := 42) rfl (fun h2 => ?_) (fun h2 => ?_)
    · refine x_iconst hm rfl (v := nI 0) (by decide) ?_
      refine x_iret hm rfl rfl (by first | rfl | exact bI_nar | decide) ?_
      exact ⟨_, rfl, rfl, by first | exact Or.inl rfl | exact Or.inr ⟨rfl, p, q, s, by omega, by omega, by omega, rfl, rfl, rfl⟩⟩
    · obtain ⟨q, hq, rfl⟩ := in_k hnp (by omega) (bI_ne0 h2)
      refine x_iload_n hm rfl rfl ?_
      refine x_iload_n hm rfl rfl ?_
      refine x_icmp_eq hm rfl (t := 42) rfl (fun h3 => ?_) (fun h3 => ?_)
      · refine x_iconst hm rfl (v := nI 0) (by decide) ?_
        refine x_iret hm rfl rfl (by first | rfl | exact bI_nar | decide) ?_
        exact ⟨_, rfl, rfl, by first | exact Or.inl rfl | exact Or.inr ⟨rfl, p, q, s, by omega, by omega, by omega, rfl, rfl, rfl⟩⟩
      · refine x_aload_n hm rfl rfl ?_
        refine x_getf hm rfl (gR rfl rfl) ?_
        refine x_iload_n hm rfl rfl ?_
        refine x_callV hm rfl rfl (t66 (by decide) hnt hn8) ?_
        refine x_if_eq hm rfl (t := 42) rfl (fun h4 => ?_) (fun h4 => ?_)
        · refine x_iconst hm rfl (v := nI 0) (by decide) ?_
          refine x_iret hm rfl rfl (by first | rfl | exact bI_nar | decide) ?_
          exact ⟨_, rfl, rfl, by first | exact Or.inl rfl | exact Or.inr ⟨rfl, p, q, s, by omega, by omega, by omega, rfl, rfl, rfl⟩⟩
        · obtain ⟨s, hs, rfl⟩ := in_k rfl (by omega) (bI_ne0 h4)
          refine x_iconst hm rfl (v := nI 1) (by decide) ?_
          refine x_goto hm rfl (t := 43) rfl ?_
          refine x_iret hm rfl rfl (by first | rfl | exact bI_nar | decide) ?_
          exact ⟨_, rfl, rfl, by first | exact Or.inl rfl | exact Or.inr ⟨rfl, p, q, s, by omega, by omega, by omega, rfl, rfl, rfl⟩⟩
theorem t70 {a1 a2 : Int32} : ∃ v, mT X 70 [.int a1, .int a2] (con M) (some (.int v)) (con M) ∧ (v = nI 0 ∨ v = nI 1) := by
  refine te_of (row := _) rfl (Nat.le_of_ble_eq_true rfl) ?_
  have hm : mMet 70 = some _ := rfl
  refine x_iload_n hm rfl rfl ?_
  refine x_iload_n hm rfl rfl ?_
  refine x_iconst hm rfl (v := (-1 : Int32)) (by decide) ?_
  refine x_ixor hm rfl ?_
  refine x_iand hm rfl ?_
  refine x_if_ne hm rfl (t := 12) rfl (fun h1 => ?_) (fun h1 => ?_)
  · refine x_iconst hm rfl (v := nI 0) (by decide) ?_
    refine x_iret hm rfl rfl (by first | rfl | exact bI_nar | decide) ?_
    exact ⟨_, rfl, rfl, by first | exact Or.inl rfl | exact Or.inr rfl⟩
  · refine x_iconst hm rfl (v := nI 1) (by decide) ?_
    refine x_goto hm rfl (t := 13) rfl ?_
    refine x_iret hm rfl rfl (by first | rfl | exact bI_nar | decide) ?_
    exact ⟨_, rfl, rfl, by first | exact Or.inl rfl | exact Or.inr rfl⟩
theorem t71 {p q : Nat} {a3 a4 : Int32} (hW : Wf M) (hp : p < 8) (hq : q < 8) : ∃ v, mT X 71 [.ref 0, .int (nI p), .int (nI q), .int a3, .int a4] (con M) (some (.int v)) (con M) ∧ (v = nI 0 ∨ v = nI 1) := by
  refine te_of (row := _) rfl (Nat.le_of_ble_eq_true rfl) ?_
  have hm : mMet 71 = some _ := rfl
  refine x_aload_n hm rfl rfl ?_
  refine x_getf hm rfl (gR rfl rfl) ?_
  refine x_iload_n hm rfl rfl ?_
  refine x_iload_n hm rfl rfl ?_
  refine x_cVe hm rfl rfl (t67 (by decide) (by omega) hW) (fun v1 r1 => ?_)
  refine x_aload_n hm rfl rfl ?_
  refine x_getf hm rfl (gR rfl rfl) ?_
  refine x_iload_n hm rfl rfl ?_
  refine x_iload hm rfl rfl ?_
  refine x_cVe hm rfl rfl (t67 (by decide) (by omega) hW) (fun v2 r2 => ?_)
  refine x_icmp_lt hm rfl (t := 48) rfl (fun h3 => ?_) (fun h3 => ?_)
  · refine x_iconst hm rfl (v := nI 0) (by decide) ?_
    refine x_iret hm rfl rfl (by first | rfl | exact bI_nar | decide) ?_
    exact ⟨_, rfl, rfl, by first | exact Or.inl rfl | exact Or.inr rfl⟩
  · refine x_aload_n hm rfl rfl ?_
    refine x_getf hm rfl (gR rfl rfl) ?_
    refine x_iload_n hm rfl rfl ?_
    refine x_iload hm rfl rfl ?_
    refine x_cVe hm rfl rfl (t67 (by decide) (by omega) hW) (fun v4 r4 => ?_)
    refine x_aload_n hm rfl rfl ?_
    refine x_getf hm rfl (gR rfl rfl) ?_
    refine x_iload_n hm rfl rfl ?_
    refine x_iload_n hm rfl rfl ?_
    refine x_cVe hm rfl rfl (t67 (by decide) (by omega) hW) (fun v5 r5 => ?_)
    refine x_icmp_lt hm rfl (t := 48) rfl (fun h6 => ?_) (fun h6 => ?_)
    · refine x_iconst hm rfl (v := nI 0) (by decide) ?_
      refine x_iret hm rfl rfl (by first | rfl | exact bI_nar | decide) ?_
      exact ⟨_, rfl, rfl, by first | exact Or.inl rfl | exact Or.inr rfl⟩
    · refine x_iconst hm rfl (v := nI 1) (by decide) ?_
      refine x_goto hm rfl (t := 49) rfl ?_
      refine x_iret hm rfl rfl (by first | rfl | exact bI_nar | decide) ?_
      exact ⟨_, rfl, rfl, by first | exact Or.inl rfl | exact Or.inr rfl⟩
theorem l68 {p q s : Nat} (hW : Wf M) (hp : p < 8) (hq : q < 8) (hs : s < 256) : ∀ (n k : Nat), s + 1 - k < n → k ≤ s + 1 → mEv X (QI (fun _ M' => Cq M M')) 68 20 [some (.ref 0), some (.int (nI p)), some (.int (nI q)), some (.int (nI s)), some (.int (nI k))] [] (con M) := by
  have hm : mMet 68 = some _ := rfl
  intro n
  induction n with
  | zero =>
    intro k hkn hkb
    omega
  | succ n ih =>
    intro k hkn hkb
    refine x_iload hm rfl rfl ?_
    refine x_iload_n hm rfl rfl ?_
    refine x_icmp_gt hm rfl (t := 59) rfl (fun h1 => ?_) (fun h1 => ?_)
    · refine x_aload_n hm rfl rfl ?_
      refine x_ldcI hm rfl (v := (-1000004 : Int32)) (by decide +kernel) ?_
      refine x_cVi hm rfl rfl (t7 (by decide +kernel)) (fun v2 M2 r2 => ?_)
      refine x_iret hm rfl rfl (by first | rfl | exact bI_nar | decide) ?_
      first
        | exact ⟨_, _, rfl, rfl, r2.2.cq hW⟩
        | exact ⟨_, _, rfl, rfl, r2.cq hW⟩
        | exact ⟨_, _, rfl, rfl, Cq.rf hW⟩
        | exact ⟨_, _, rfl, rfl, r1.2.cq hW⟩
        | exact ⟨_, _, rfl, rfl, r3.2.cq hW⟩
        | exact ⟨_, _, rfl, rfl, r4.2.cq hW⟩
        | exact ⟨_, _, rfl, rfl, r5.2.cq hW⟩
        | exact ⟨_, _, rfl, rfl, r6.2.cq hW⟩
        | exact ⟨_, _, rfl, rfl, r7.2.cq hW⟩
        | exact ⟨_, _, rfl, rfl, r8.2.cq hW⟩
        | exact ⟨_, _, rfl, rfl, r9.2.cq hW⟩
        | exact ⟨_, _, rfl, rfl, r10.2.cq hW⟩
        | exact ⟨_, _, rfl, rfl, r11.2.cq hW⟩
        | exact ⟨_, _, rfl, rfl, r12.2.cq hW⟩
        | exact ⟨_, _, rfl, rfl, r13.2.cq hW⟩
        | exact ⟨_, _, rfl, rfl, r14.2.cq hW⟩
        | exact ⟨_, _, rfl, rfl, r15.2.cq hW⟩
        | exact ⟨_, _, rfl, rfl, r16.2.cq hW⟩
        | exact ⟨_, _, rfl, rfl, r17.2.cq hW⟩
        | exact ⟨_, _, rfl, rfl, r18.2.cq hW⟩
        | exact ⟨_, _, rfl, rfl, r19.2.cq hW⟩
        | exact ⟨_, _, rfl, rfl, r1.cq hW⟩
        | exact ⟨_, _, rfl, rfl, r3.cq hW⟩
        | exact ⟨_, _, rfl, rfl, r4.cq hW⟩
        | exact ⟨_, _, rfl, rfl, r5.cq hW⟩
        | exact ⟨_, _, rfl, rfl, r6.cq hW⟩
        | exact ⟨_, _, rfl, rfl, r7.cq hW⟩
        | exact ⟨_, _, rfl, rfl, r8.cq hW⟩
        | exact ⟨_, _, rfl, rfl, r9.cq hW⟩
        | exact ⟨_, _, rfl, rfl, r10.cq hW⟩
        | exact ⟨_, _, rfl, rfl, r11.cq hW⟩
    · have hk : k ≤ s := Nat.le_of_not_lt fun h => h1 (nI_lt h (by omega))
      refine x_iload hm rfl rfl ?_
      refine x_iload_n hm rfl rfl ?_
      refine x_cSe hm rfl rfl (t70) (fun v3 r3 => ?_)
      refine x_if_eq hm rfl (t := 53) rfl (fun h4 => ?_) (fun h4 => ?_)
      · refine x_iinc hm rfl rfl (v := nI 1) (by decide) rfl ?_
        rw [jI_add]
        refine x_goto hm rfl (t := 20) rfl ?_
        exact ih _ (by omega) (by omega)
      · refine x_aload_n hm rfl rfl ?_
        refine x_iload_n hm rfl rfl ?_
        refine x_iload_n hm rfl rfl ?_
        refine x_iload hm rfl rfl ?_
        refine x_iload_n hm rfl rfl ?_
        refine x_iload hm rfl rfl ?_
        refine x_isub hm rfl ?_
        refine x_cVe hm rfl rfl (t71 hW (by omega) (by omega)) (fun v5 r5 => ?_)
        refine x_if_eq hm rfl (t := 53) rfl (fun h6 => ?_) (fun h6 => ?_)
        · refine x_iinc hm rfl rfl (v := nI 1) (by decide) rfl ?_
          rw [jI_add]
          refine x_goto hm rfl (t := 20) rfl ?_
          exact ih _ (by omega) (by omega)
        · refine x_iload hm rfl rfl ?_
          refine x_iret hm rfl rfl (by first | rfl | exact bI_nar | decide) ?_
          first
            | exact ⟨_, _, rfl, rfl, r5.2.cq hW⟩
            | exact ⟨_, _, rfl, rfl, r5.cq hW⟩
            | exact ⟨_, _, rfl, rfl, Cq.rf hW⟩
            | exact ⟨_, _, rfl, rfl, r3.2.cq hW⟩
            | exact ⟨_, _, rfl, rfl, r3.cq hW⟩
            | exact ⟨_, _, rfl, rfl, r1.2.cq hW⟩
            | exact ⟨_, _, rfl, rfl, r2.2.cq hW⟩
            | exact ⟨_, _, rfl, rfl, r4.2.cq hW⟩
            | exact ⟨_, _, rfl, rfl, r6.2.cq hW⟩
            | exact ⟨_, _, rfl, rfl, r7.2.cq hW⟩
            | exact ⟨_, _, rfl, rfl, r8.2.cq hW⟩
            | exact ⟨_, _, rfl, rfl, r9.2.cq hW⟩
            | exact ⟨_, _, rfl, rfl, r10.2.cq hW⟩
            | exact ⟨_, _, rfl, rfl, r11.2.cq hW⟩
            | exact ⟨_, _, rfl, rfl, r12.2.cq hW⟩
            | exact ⟨_, _, rfl, rfl, r13.2.cq hW⟩
            | exact ⟨_, _, rfl, rfl, r14.2.cq hW⟩
            | exact ⟨_, _, rfl, rfl, r15.2.cq hW⟩
            | exact ⟨_, _, rfl, rfl, r16.2.cq hW⟩
            | exact ⟨_, _, rfl, rfl, r17.2.cq hW⟩
            | exact ⟨_, _, rfl, rfl, r18.2.cq hW⟩
            | exact ⟨_, _, rfl, rfl, r19.2.cq hW⟩
            | exact ⟨_, _, rfl, rfl, r1.cq hW⟩
            | exact ⟨_, _, rfl, rfl, r2.cq hW⟩
            | exact ⟨_, _, rfl, rfl, r4.cq hW⟩
            | exact ⟨_, _, rfl, rfl, r6.cq hW⟩
            | exact ⟨_, _, rfl, rfl, r7.cq hW⟩
            | exact ⟨_, _, rfl, rfl, r8.cq hW⟩
            | exact ⟨_, _, rfl, rfl, r9.cq hW⟩
            | exact ⟨_, _, rfl, rfl, r10.cq hW⟩
            | exact ⟨_, _, rfl, rfl, r11.cq hW⟩
theorem t68 {a1 a2 a3 : Int32} (hW : Wf M) : ∃ v M', mT X 68 [.ref 0, .int a1, .int a2, .int a3] (con M) (some (.int v)) (con M') ∧ Cq M M' := by
  refine ti_of (row := _) rfl (Nat.le_of_ble_eq_true rfl) ?_
  have hm : mMet 68 = some _ := rfl
  refine x_aload_n hm rfl rfl ?_
  refine x_iload_n hm rfl rfl ?_
  refine x_iload_n hm rfl rfl ?_
  refine x_iload_n hm rfl rfl ?_
  refine x_cVe hm rfl rfl (t69 hW) (fun v1 r1 => ?_)
  refine x_if_ne hm rfl (t := 17) rfl (fun h2 => ?_) (fun h2 => ?_)
  · obtain ⟨-, p, q, s, hp, hq, hs, rfl, rfl, rfl⟩ := r1.resolve_left (fun e => by subst e; exact h2 rfl)
    refine x_iconst hm rfl (v := nI 0) (by decide) ?_
    refine x_istore hm rfl rfl ?_
    exact l68 hW hp hq hs _ 0 (Nat.lt_succ_self _) (Nat.zero_le _)
  · refine x_aload_n hm rfl rfl ?_
    refine x_ldcI hm rfl (v := (-1000001 : Int32)) (by decide +kernel) ?_
    refine x_cVi hm rfl rfl (t7 (by decide +kernel)) (fun v3 M3 r3 => ?_)
    refine x_iret hm rfl rfl (by first | rfl | exact bI_nar | decide) ?_
    first
      | exact ⟨_, _, rfl, rfl, r3.2.cq hW⟩
      | exact ⟨_, _, rfl, rfl, r3.cq hW⟩
      | exact ⟨_, _, rfl, rfl, Cq.rf hW⟩
      | exact ⟨_, _, rfl, rfl, r1.2.cq hW⟩
      | exact ⟨_, _, rfl, rfl, r1.cq hW⟩
      | exact ⟨_, _, rfl, rfl, r2.2.cq hW⟩
      | exact ⟨_, _, rfl, rfl, r4.2.cq hW⟩
      | exact ⟨_, _, rfl, rfl, r5.2.cq hW⟩
      | exact ⟨_, _, rfl, rfl, r6.2.cq hW⟩
      | exact ⟨_, _, rfl, rfl, r7.2.cq hW⟩
      | exact ⟨_, _, rfl, rfl, r8.2.cq hW⟩
      | exact ⟨_, _, rfl, rfl, r9.2.cq hW⟩
      | exact ⟨_, _, rfl, rfl, r10.2.cq hW⟩
      | exact ⟨_, _, rfl, rfl, r11.2.cq hW⟩
      | exact ⟨_, _, rfl, rfl, r12.2.cq hW⟩
      | exact ⟨_, _, rfl, rfl, r13.2.cq hW⟩
      | exact ⟨_, _, rfl, rfl, r14.2.cq hW⟩
      | exact ⟨_, _, rfl, rfl, r15.2.cq hW⟩
      | exact ⟨_, _, rfl, rfl, r16.2.cq hW⟩
      | exact ⟨_, _, rfl, rfl, r17.2.cq hW⟩
      | exact ⟨_, _, rfl, rfl, r18.2.cq hW⟩
      | exact ⟨_, _, rfl, rfl, r19.2.cq hW⟩
      | exact ⟨_, _, rfl, rfl, r2.cq hW⟩
      | exact ⟨_, _, rfl, rfl, r4.cq hW⟩
      | exact ⟨_, _, rfl, rfl, r5.cq hW⟩
      | exact ⟨_, _, rfl, rfl, r6.cq hW⟩
      | exact ⟨_, _, rfl, rfl, r7.cq hW⟩
      | exact ⟨_, _, rfl, rfl, r8.cq hW⟩
      | exact ⟨_, _, rfl, rfl, r9.cq hW⟩
      | exact ⟨_, _, rfl, rfl, r10.cq hW⟩
      | exact ⟨_, _, rfl, rfl, r11.cq hW⟩
theorem l72 {p q s : Nat} (hW : Wf M) (hp : p < 8) (hq : q < 8) (hs : s < 256) : ∀ (n k : Nat) (g : Int32), s + 1 - k < n → k ≤ s + 1 → mEv X (QI (fun _ M' => Cq M M')) 72 23 [some (.ref 0), some (.int (nI p)), some (.int (nI q)), some (.int (nI s)), some (.int g), some (.int (nI k))] [] (con M) := by
  have hm : mMet 72 = some _ := rfl
  intro n
  induction n with
  | zero =>
    intro k g hkn hkb
    omega
  | succ n ih =>
    intro k g hkn hkb
    refine x_iload hm rfl rfl ?_
    refine x_iload_n hm rfl rfl ?_
    refine x_icmp_gt hm rfl (t := 62) rfl (fun h1 => ?_) (fun h1 => ?_)
    · refine x_iload hm rfl rfl ?_
      refine x_iret hm rfl rfl (by first | rfl | exact bI_nar | decide) ?_
      first
        | exact ⟨_, _, rfl, rfl, Cq.rf hW⟩
        | exact ⟨_, _, rfl, rfl, r1.2.cq hW⟩
        | exact ⟨_, _, rfl, rfl, r2.2.cq hW⟩
        | exact ⟨_, _, rfl, rfl, r3.2.cq hW⟩
        | exact ⟨_, _, rfl, rfl, r4.2.cq hW⟩
        | exact ⟨_, _, rfl, rfl, r5.2.cq hW⟩
        | exact ⟨_, _, rfl, rfl, r6.2.cq hW⟩
        | exact ⟨_, _, rfl, rfl, r7.2.cq hW⟩
        | exact ⟨_, _, rfl, rfl, r8.2.cq hW⟩
        | exact ⟨_, _, rfl, rfl, r9.2.cq hW⟩
        | exact ⟨_, _, rfl, rfl, r10.2.cq hW⟩
        | exact ⟨_, _, rfl, rfl, r11.2.cq hW⟩
        | exact ⟨_, _, rfl, rfl, r12.2.cq hW⟩
        | exact ⟨_, _, rfl, rfl, r13.2.cq hW⟩
        | exact ⟨_, _, rfl, rfl, r14.2.cq hW⟩
        | exact ⟨_, _, rfl, rfl, r15.2.cq hW⟩
        | exact ⟨_, _, rfl, rfl, r16.2.cq hW⟩
        | exact ⟨_, _, rfl, rfl, r17.2.cq hW⟩
        | exact ⟨_, _, rfl, rfl, r18.2.cq hW⟩
        | exact ⟨_, _, rfl, rfl, r19.2.cq hW⟩
        | exact ⟨_, _, rfl, rfl, r1.cq hW⟩
        | exact ⟨_, _, rfl, rfl, r2.cq hW⟩
        | exact ⟨_, _, rfl, rfl, r3.cq hW⟩
        | exact ⟨_, _, rfl, rfl, r4.cq hW⟩
        | exact ⟨_, _, rfl, rfl, r5.cq hW⟩
        | exact ⟨_, _, rfl, rfl, r6.cq hW⟩
        | exact ⟨_, _, rfl, rfl, r7.cq hW⟩
        | exact ⟨_, _, rfl, rfl, r8.cq hW⟩
        | exact ⟨_, _, rfl, rfl, r9.cq hW⟩
        | exact ⟨_, _, rfl, rfl, r10.cq hW⟩
        | exact ⟨_, _, rfl, rfl, r11.cq hW⟩
    · have hk : k ≤ s := Nat.le_of_not_lt fun h => h1 (nI_lt h (by omega))
      refine x_iload hm rfl rfl ?_
      refine x_iload_n hm rfl rfl ?_
      refine x_cSe hm rfl rfl (t70) (fun v2 r2 => ?_)
      refine x_if_eq hm rfl (t := 56) rfl (fun h3 => ?_) (fun h3 => ?_)
      · refine x_iinc hm rfl rfl (v := nI 1) (by decide) rfl ?_
        rw [jI_add]
        refine x_goto hm rfl (t := 23) rfl ?_
        exact ih _ _ (by omega) (by omega)
      · refine x_aload_n hm rfl rfl ?_
        refine x_iload_n hm rfl rfl ?_
        refine x_iload_n hm rfl rfl ?_
        refine x_iload hm rfl rfl ?_
        refine x_iload_n hm rfl rfl ?_
        refine x_iload hm rfl rfl ?_
        refine x_isub hm rfl ?_
        refine x_cVe hm rfl rfl (t71 hW (by omega) (by omega)) (fun v4 r4 => ?_)
        refine x_if_eq hm rfl (t := 56) rfl (fun h5 => ?_) (fun h5 => ?_)
        · refine x_iinc hm rfl rfl (v := nI 1) (by decide) rfl ?_
          rw [jI_add]
          refine x_goto hm rfl (t := 23) rfl ?_
          exact ih _ _ (by omega) (by omega)
        · refine x_iinc hm rfl rfl (v := nI 1) (by decide) rfl ?_
          refine x_iinc hm rfl rfl (v := nI 1) (by decide) rfl ?_
          rw [jI_add]
          refine x_goto hm rfl (t := 23) rfl ?_
          exact ih _ _ (by omega) (by omega)
theorem t72 {a1 a2 a3 : Int32} (hW : Wf M) : ∃ v M', mT X 72 [.ref 0, .int a1, .int a2, .int a3] (con M) (some (.int v)) (con M') ∧ Cq M M' := by
  refine ti_of (row := _) rfl (Nat.le_of_ble_eq_true rfl) ?_
  have hm : mMet 72 = some _ := rfl
  refine x_aload_n hm rfl rfl ?_
  refine x_iload_n hm rfl rfl ?_
  refine x_iload_n hm rfl rfl ?_
  refine x_iload_n hm rfl rfl ?_
  refine x_cVe hm rfl rfl (t69 hW) (fun v1 r1 => ?_)
  refine x_if_ne hm rfl (t := 17) rfl (fun h2 => ?_) (fun h2 => ?_)
  · obtain ⟨-, p, q, s, hp, hq, hs, rfl, rfl, rfl⟩ := r1.resolve_left (fun e => by subst e; exact h2 rfl)
    refine x_iconst hm rfl (v := nI 0) (by decide) ?_
    refine x_istore hm rfl rfl ?_
    refine x_iconst hm rfl (v := nI 0) (by decide) ?_
    refine x_istore hm rfl rfl ?_
    exact l72 hW hp hq hs _ 0 _ (Nat.lt_succ_self _) (Nat.zero_le _)
  · refine x_aload_n hm rfl rfl ?_
    refine x_ldcI hm rfl (v := (-1000001 : Int32)) (by decide +kernel) ?_
    refine x_cVi hm rfl rfl (t7 (by decide +kernel)) (fun v3 M3 r3 => ?_)
    refine x_iret hm rfl rfl (by first | rfl | exact bI_nar | decide) ?_
    first
      | exact ⟨_, _, rfl, rfl, r3.2.cq hW⟩
      | exact ⟨_, _, rfl, rfl, r3.cq hW⟩
      | exact ⟨_, _, rfl, rfl, Cq.rf hW⟩
      | exact ⟨_, _, rfl, rfl, r1.2.cq hW⟩
      | exact ⟨_, _, rfl, rfl, r1.cq hW⟩
      | exact ⟨_, _, rfl, rfl, r2.2.cq hW⟩
      | exact ⟨_, _, rfl, rfl, r4.2.cq hW⟩
      | exact ⟨_, _, rfl, rfl, r5.2.cq hW⟩
      | exact ⟨_, _, rfl, rfl, r6.2.cq hW⟩
      | exact ⟨_, _, rfl, rfl, r7.2.cq hW⟩
      | exact ⟨_, _, rfl, rfl, r8.2.cq hW⟩
      | exact ⟨_, _, rfl, rfl, r9.2.cq hW⟩
      | exact ⟨_, _, rfl, rfl, r10.2.cq hW⟩
      | exact ⟨_, _, rfl, rfl, r11.2.cq hW⟩
      | exact ⟨_, _, rfl, rfl, r12.2.cq hW⟩
      | exact ⟨_, _, rfl, rfl, r13.2.cq hW⟩
      | exact ⟨_, _, rfl, rfl, r14.2.cq hW⟩
      | exact ⟨_, _, rfl, rfl, r15.2.cq hW⟩
      | exact ⟨_, _, rfl, rfl, r16.2.cq hW⟩
      | exact ⟨_, _, rfl, rfl, r17.2.cq hW⟩
      | exact ⟨_, _, rfl, rfl, r18.2.cq hW⟩
      | exact ⟨_, _, rfl, rfl, r19.2.cq hW⟩
      | exact ⟨_, _, rfl, rfl, r2.cq hW⟩
      | exact ⟨_, _, rfl, rfl, r4.cq hW⟩
      | exact ⟨_, _, rfl, rfl, r5.cq hW⟩
      | exact ⟨_, _, rfl, rfl, r6.cq hW⟩
      | exact ⟨_, _, rfl, rfl, r7.cq hW⟩
      | exact ⟨_, _, rfl, rfl, r8.cq hW⟩
      | exact ⟨_, _, rfl, rfl, r9.cq hW⟩
      | exact ⟨_, _, rfl, rfl, r10.cq hW⟩
      | exact ⟨_, _, rfl, rfl, r11.cq hW⟩
theorem l73 {p q s : Nat} (hW : Wf M) (hp : p < 8) (hq : q < 8) (hs : s < 256) : ∀ (n k : Nat) (g f : Int32) (x7 : Option Value), s + 1 - k < n → k ≤ s + 1 → mEv X (QI (fun _ M' => Cq M M')) 73 26 [some (.ref 0), some (.int (nI p)), some (.int (nI q)), some (.int (nI s)), some (.int g), some (.int f), some (.int (nI k)), x7] [] (con M) := by
  have hm : mMet 73 = some _ := rfl
  intro n
  induction n with
  | zero =>
    intro k g f x7 hkn hkb
    omega
  | succ n ih =>
    intro k g f x7 hkn hkb
    refine x_iload hm rfl rfl ?_
    refine x_iload_n hm rfl rfl ?_
    refine x_icmp_gt hm rfl (t := 89) rfl (fun h1 => ?_) (fun h1 => ?_)
    · refine x_iload hm rfl rfl ?_
      refine x_iret hm rfl rfl (by first | rfl | exact bI_nar | decide) ?_
      first
        | exact ⟨_, _, rfl, rfl, Cq.rf hW⟩
        | exact ⟨_, _, rfl, rfl, r1.2.cq hW⟩
        | exact ⟨_, _, rfl, rfl, r2.2.cq hW⟩
        | exact ⟨_, _, rfl, rfl, r3.2.cq hW⟩
        | exact ⟨_, _, rfl, rfl, r4.2.cq hW⟩
        | exact ⟨_, _, rfl, rfl, r5.2.cq hW⟩
        | exact ⟨_, _, rfl, rfl, r6.2.cq hW⟩
        | exact ⟨_, _, rfl, rfl, r7.2.cq hW⟩
        | exact ⟨_, _, rfl, rfl, r8.2.cq hW⟩
        | exact ⟨_, _, rfl, rfl, r9.2.cq hW⟩
        | exact ⟨_, _, rfl, rfl, r10.2.cq hW⟩
        | exact ⟨_, _, rfl, rfl, r11.2.cq hW⟩
        | exact ⟨_, _, rfl, rfl, r12.2.cq hW⟩
        | exact ⟨_, _, rfl, rfl, r13.2.cq hW⟩
        | exact ⟨_, _, rfl, rfl, r14.2.cq hW⟩
        | exact ⟨_, _, rfl, rfl, r15.2.cq hW⟩
        | exact ⟨_, _, rfl, rfl, r16.2.cq hW⟩
        | exact ⟨_, _, rfl, rfl, r17.2.cq hW⟩
        | exact ⟨_, _, rfl, rfl, r18.2.cq hW⟩
        | exact ⟨_, _, rfl, rfl, r19.2.cq hW⟩
        | exact ⟨_, _, rfl, rfl, r1.cq hW⟩
        | exact ⟨_, _, rfl, rfl, r2.cq hW⟩
        | exact ⟨_, _, rfl, rfl, r3.cq hW⟩
        | exact ⟨_, _, rfl, rfl, r4.cq hW⟩
        | exact ⟨_, _, rfl, rfl, r5.cq hW⟩
        | exact ⟨_, _, rfl, rfl, r6.cq hW⟩
        | exact ⟨_, _, rfl, rfl, r7.cq hW⟩
        | exact ⟨_, _, rfl, rfl, r8.cq hW⟩
        | exact ⟨_, _, rfl, rfl, r9.cq hW⟩
        | exact ⟨_, _, rfl, rfl, r10.cq hW⟩
        | exact ⟨_, _, rfl, rfl, r11.cq hW⟩
    · have hk : k ≤ s := Nat.le_of_not_lt fun h => h1 (nI_lt h (by omega))
      refine x_iload hm rfl rfl ?_
      refine x_iload_n hm rfl rfl ?_
      refine x_cSe hm rfl rfl (t70) (fun v2 r2 => ?_)
      refine x_if_eq hm rfl (t := 83) rfl (fun h3 => ?_) (fun h3 => ?_)
      · refine x_iinc hm rfl rfl (v := nI 1) (by decide) rfl ?_
        rw [jI_add]
        refine x_goto hm rfl (t := 26) rfl ?_
        exact ih _ _ _ _ (by omega) (by omega)
      · refine x_aload_n hm rfl rfl ?_
        refine x_getf hm rfl (gR rfl rfl) ?_
        refine x_iload_n hm rfl rfl ?_
        refine x_iload hm rfl rfl ?_
        refine x_cVe hm rfl rfl (t67 (by decide) (by omega) hW) (fun v4 r4 => ?_)
        refine x_aload_n hm rfl rfl ?_
        refine x_getf hm rfl (gR rfl rfl) ?_
        refine x_iload_n hm rfl rfl ?_
        refine x_iload_n hm rfl rfl ?_
        refine x_iload hm rfl rfl ?_
        refine x_isub hm rfl ?_
        refine x_cVe hm rfl rfl (t67 (by decide) (by omega) hW) (fun v5 r5 => ?_)
        refine x_lib hm rfl rfl ?_
        dsimp only
        refine x_istore hm rfl rfl ?_
        refine x_iload hm rfl rfl ?_
        refine x_iload hm rfl rfl ?_
        refine x_icmp_le hm rfl (t := 83) rfl (fun h6 => ?_) (fun h6 => ?_)
        · refine x_iinc hm rfl rfl (v := nI 1) (by decide) rfl ?_
          rw [jI_add]
          refine x_goto hm rfl (t := 26) rfl ?_
          exact ih _ _ _ _ (by omega) (by omega)
        · refine x_iload hm rfl rfl ?_
          refine x_istore hm rfl rfl ?_
          refine x_iload hm rfl rfl ?_
          refine x_istore hm rfl rfl ?_
          refine x_iinc hm rfl rfl (v := nI 1) (by decide) rfl ?_
          rw [jI_add]
          refine x_goto hm rfl (t := 26) rfl ?_
          exact ih _ _ _ _ (by omega) (by omega)
theorem t73 {a1 a2 a3 : Int32} (hW : Wf M) : ∃ v M', mT X 73 [.ref 0, .int a1, .int a2, .int a3] (con M) (some (.int v)) (con M') ∧ Cq M M' := by
  refine ti_of (row := _) rfl (Nat.le_of_ble_eq_true rfl) ?_
  have hm : mMet 73 = some _ := rfl
  refine x_aload_n hm rfl rfl ?_
  refine x_iload_n hm rfl rfl ?_
  refine x_iload_n hm rfl rfl ?_
  refine x_iload_n hm rfl rfl ?_
  refine x_cVe hm rfl rfl (t69 hW) (fun v1 r1 => ?_)
  refine x_if_ne hm rfl (t := 17) rfl (fun h2 => ?_) (fun h2 => ?_)
  · obtain ⟨-, p, q, s, hp, hq, hs, rfl, rfl, rfl⟩ := r1.resolve_left (fun e => by subst e; exact h2 rfl)
    refine x_iconst hm rfl (v := nI 0) (by decide) ?_
    refine x_istore hm rfl rfl ?_
    refine x_iconst hm rfl (v := (-1 : Int32)) (by decide) ?_
    refine x_istore hm rfl rfl ?_
    refine x_iconst hm rfl (v := nI 0) (by decide) ?_
    refine x_istore hm rfl rfl ?_
    exact l73 hW hp hq hs _ 0 _ _ _ (Nat.lt_succ_self _) (Nat.zero_le _)
  · refine x_aload_n hm rfl rfl ?_
    refine x_ldcI hm rfl (v := (-1000001 : Int32)) (by decide +kernel) ?_
    refine x_cVi hm rfl rfl (t7 (by decide +kernel)) (fun v3 M3 r3 => ?_)
    refine x_iret hm rfl rfl (by first | rfl | exact bI_nar | decide) ?_
    first
      | exact ⟨_, _, rfl, rfl, r3.2.cq hW⟩
      | exact ⟨_, _, rfl, rfl, r3.cq hW⟩
      | exact ⟨_, _, rfl, rfl, Cq.rf hW⟩
      | exact ⟨_, _, rfl, rfl, r1.2.cq hW⟩
      | exact ⟨_, _, rfl, rfl, r1.cq hW⟩
      | exact ⟨_, _, rfl, rfl, r2.2.cq hW⟩
      | exact ⟨_, _, rfl, rfl, r4.2.cq hW⟩
      | exact ⟨_, _, rfl, rfl, r5.2.cq hW⟩
      | exact ⟨_, _, rfl, rfl, r6.2.cq hW⟩
      | exact ⟨_, _, rfl, rfl, r7.2.cq hW⟩
      | exact ⟨_, _, rfl, rfl, r8.2.cq hW⟩
      | exact ⟨_, _, rfl, rfl, r9.2.cq hW⟩
      | exact ⟨_, _, rfl, rfl, r10.2.cq hW⟩
      | exact ⟨_, _, rfl, rfl, r11.2.cq hW⟩
      | exact ⟨_, _, rfl, rfl, r12.2.cq hW⟩
      | exact ⟨_, _, rfl, rfl, r13.2.cq hW⟩
      | exact ⟨_, _, rfl, rfl, r14.2.cq hW⟩
      | exact ⟨_, _, rfl, rfl, r15.2.cq hW⟩
      | exact ⟨_, _, rfl, rfl, r16.2.cq hW⟩
      | exact ⟨_, _, rfl, rfl, r17.2.cq hW⟩
      | exact ⟨_, _, rfl, rfl, r18.2.cq hW⟩
      | exact ⟨_, _, rfl, rfl, r19.2.cq hW⟩
      | exact ⟨_, _, rfl, rfl, r2.cq hW⟩
      | exact ⟨_, _, rfl, rfl, r4.cq hW⟩
      | exact ⟨_, _, rfl, rfl, r5.cq hW⟩
      | exact ⟨_, _, rfl, rfl, r6.cq hW⟩
      | exact ⟨_, _, rfl, rfl, r7.cq hW⟩
      | exact ⟨_, _, rfl, rfl, r8.cq hW⟩
      | exact ⟨_, _, rfl, rfl, r9.cq hW⟩
      | exact ⟨_, _, rfl, rfl, r10.cq hW⟩
      | exact ⟨_, _, rfl, rfl, r11.cq hW⟩
theorem l74b {a nb : Nat} (hW : Wf M) (hnb : M 1 4 = nI nb) (h8 : nb ≤ 8) (ha : a < nb) (hout : ∀ (s : Int32) (x y : Option Value), mEv X (QI (fun _ M' => Cq M M')) 74 4 [some (.ref 0), some (.int s), some (.int (nI (a + 1))), x, y] [] (con M)) : ∀ (n k : Nat) (s g : Int32), nb - k < n → k ≤ nb → mEv X (QI (fun _ M' => Cq M M')) 74 35 [some (.ref 0), some (.int s), some (.int (nI a)), some (.int g), some (.int (nI k))] [] (con M) := by
  have hm : mMet 74 = some _ := rfl
  intro n
  induction n with
  | zero =>
    intro k s g hkn hkb
    omega
  | succ n ih =>
    intro k s g hkn hkb
    refine x_iload hm rfl rfl ?_
    refine x_aload_n hm rfl rfl ?_
    refine x_getf hm rfl (gR rfl rfl) ?_
    refine x_getf hm rfl (gI rfl rfl) ?_
    rw [hnb]
    refine x_icmp_ge hm rfl (t := 83) rfl (fun h1 => ?_) (fun h1 => ?_)
    · refine x_iinc hm rfl rfl (v := nI 1) (by decide) rfl ?_
      rw [jI_add]
      refine x_goto hm rfl (t := 4) rfl ?_
      exact hout _ _ _
    · have hk : k < nb := Nat.lt_of_not_le fun h => h1 (nI_le h (by omega))
      refine x_iload hm rfl rfl ?_
      refine x_iload_n hm rfl rfl ?_
      refine x_icmp_eq hm rfl (t := 77) rfl (fun h2 => ?_) (fun h2 => ?_)
      · refine x_iinc hm rfl rfl (v := nI 1) (by decide) rfl ?_
        rw [jI_add]
        refine x_goto hm rfl (t := 35) rfl ?_
        exact ih _ _ _ (by omega) (by omega)
      · refine x_aload_n hm rfl rfl ?_
        refine x_getf hm rfl (gR rfl rfl) ?_
        refine x_iload_n hm rfl rfl ?_
        refine x_aload_n hm rfl rfl ?_
        refine x_getf hm rfl (gR rfl rfl) ?_
        refine x_iload hm rfl rfl ?_
        refine x_cVe hm rfl rfl (t25 (by decide) hW) (fun v3 r3 => ?_)
        refine x_cVe hm rfl rfl (t67 (by decide) (by omega) hW) (fun v4 r4 => ?_)
        refine x_iload_n hm rfl rfl ?_
        refine x_icmp_le hm rfl (t := 77) rfl (fun h5 => ?_) (fun h5 => ?_)
        · refine x_iinc hm rfl rfl (v := nI 1) (by decide) rfl ?_
          rw [jI_add]
          refine x_goto hm rfl (t := 35) rfl ?_
          exact ih _ _ _ (by omega) (by omega)
        · refine x_iinc hm rfl rfl (v := nI 1) (by decide) rfl ?_
          refine x_iinc hm rfl rfl (v := nI 1) (by decide) rfl ?_
          rw [jI_add]
          refine x_goto hm rfl (t := 35) rfl ?_
          exact ih _ _ _ (by omega) (by omega)
theorem l74a {nb : Nat} (hW : Wf M) (hnb : M 1 4 = nI nb) (h8 : nb ≤ 8) : ∀ (n k : Nat) (s : Int32) (x y : Option Value), nb - k < n → k ≤ nb → mEv X (QI (fun _ M' => Cq M M')) 74 4 [some (.ref 0), some (.int s), some (.int (nI k)), x, y] [] (con M) := by
  have hm : mMet 74 = some _ := rfl
  intro n
  induction n with
  | zero =>
    intro k s x y hkn hkb
    omega
  | succ n ih =>
    intro k s x y hkn hkb
    refine x_iload_n hm rfl rfl ?_
    refine x_aload_n hm rfl rfl ?_
    refine x_getf hm rfl (gR rfl rfl) ?_
    refine x_getf hm rfl (gI rfl rfl) ?_
    rw [hnb]
    refine x_icmp_ge hm rfl (t := 89) rfl (fun h1 => ?_) (fun h1 => ?_)
    · refine x_iload_n hm rfl rfl ?_
      refine x_iret hm rfl rfl (by first | rfl | exact bI_nar | decide) ?_
      first
        | exact ⟨_, _, rfl, rfl, Cq.rf hW⟩
        | exact ⟨_, _, rfl, rfl, r1.2.cq hW⟩
        | exact ⟨_, _, rfl, rfl, r2.2.cq hW⟩
        | exact ⟨_, _, rfl, rfl, r3.2.cq hW⟩
        | exact ⟨_, _, rfl, rfl, r4.2.cq hW⟩
        | exact ⟨_, _, rfl, rfl, r5.2.cq hW⟩
        | exact ⟨_, _, rfl, rfl, r6.2.cq hW⟩
        | exact ⟨_, _, rfl, rfl, r7.2.cq hW⟩
        | exact ⟨_, _, rfl, rfl, r8.2.cq hW⟩
        | exact ⟨_, _, rfl, rfl, r9.2.cq hW⟩
        | exact ⟨_, _, rfl, rfl, r10.2.cq hW⟩
        | exact ⟨_, _, rfl, rfl, r11.2.cq hW⟩
        | exact ⟨_, _, rfl, rfl, r12.2.cq hW⟩
        | exact ⟨_, _, rfl, rfl, r13.2.cq hW⟩
        | exact ⟨_, _, rfl, rfl, r14.2.cq hW⟩
        | exact ⟨_, _, rfl, rfl, r15.2.cq hW⟩
        | exact ⟨_, _, rfl, rfl, r16.2.cq hW⟩
        | exact ⟨_, _, rfl, rfl, r17.2.cq hW⟩
        | exact ⟨_, _, rfl, rfl, r18.2.cq hW⟩
        | exact ⟨_, _, rfl, rfl, r19.2.cq hW⟩
        | exact ⟨_, _, rfl, rfl, r1.cq hW⟩
        | exact ⟨_, _, rfl, rfl, r2.cq hW⟩
        | exact ⟨_, _, rfl, rfl, r3.cq hW⟩
        | exact ⟨_, _, rfl, rfl, r4.cq hW⟩
        | exact ⟨_, _, rfl, rfl, r5.cq hW⟩
        | exact ⟨_, _, rfl, rfl, r6.cq hW⟩
        | exact ⟨_, _, rfl, rfl, r7.cq hW⟩
        | exact ⟨_, _, rfl, rfl, r8.cq hW⟩
        | exact ⟨_, _, rfl, rfl, r9.cq hW⟩
        | exact ⟨_, _, rfl, rfl, r10.cq hW⟩
        | exact ⟨_, _, rfl, rfl, r11.cq hW⟩
    · have hk : k < nb := Nat.lt_of_not_le fun h => h1 (nI_le h (by omega))
      refine x_aload_n hm rfl rfl ?_
      refine x_getf hm rfl (gR rfl rfl) ?_
      refine x_iload_n hm rfl rfl ?_
      refine x_aload_n hm rfl rfl ?_
      refine x_getf hm rfl (gR rfl rfl) ?_
      refine x_iload_n hm rfl rfl ?_
      refine x_cVe hm rfl rfl (t25 (by decide) hW) (fun v2 r2 => ?_)
      refine x_cVe hm rfl rfl (t67 (by decide) (by omega) hW) (fun v3 r3 => ?_)
      refine x_istore_n hm rfl rfl ?_
      refine x_iconst hm rfl (v := nI 0) (by decide) ?_
      refine x_istore hm rfl rfl ?_
      exact l74b hW hnb h8 hk (fun s x y => ih _ _ _ _ (by omega) (by omega)) _ 0 _ _ (Nat.lt_succ_self _) (Nat.zero_le _)
theorem t74  (hW : Wf M) : ∃ v M', mT X 74 [.ref 0] (con M) (some (.int v)) (con M') ∧ Cq M M' := by
  refine ti_of (row := _) rfl (Nat.le_of_ble_eq_true rfl) ?_
  have hm : mMet 74 = some _ := rfl
  obtain ⟨np, hp8, hnp⟩ := hW.cpn (b := 1) (by decide)
  refine x_iconst hm rfl (v := nI 0) (by decide) ?_
  refine x_istore_n hm rfl rfl ?_
  refine x_iconst hm rfl (v := nI 0) (by decide) ?_
  refine x_istore_n hm rfl rfl ?_
  exact l74a hW hnp hp8 _ 0 _ _ _ (Nat.lt_succ_self _) (Nat.zero_le _)
theorem Bq.wear {i c : Nat} (hi : i = 56 ∨ i = 57) {i0 : Nat} : Bq b M (acp M i0 i 0 0 c) := by
  refine ⟨fun hW x y => ?_, fun a ha => ?_, fun d hd _ => ?_⟩
  · show okx (kd x y) (if x = i then _ else M x y)
    by_cases hx : x = i
    · rw [hx]
      rcases hi with rfl | rfl
      · rw [kd56]; trivial
      · rw [kd57]; trivial
    · rw [if_neg hx]
      exact hW x y
  · funext y
    show (if a = i then _ else M a y) = _
    rw [if_neg (by omega)]
  · constructor
    · show (if d = i then _ else M d 3) = _
      rw [if_neg (by omega)]
    · show (if d = i then _ else M d 4) = _
      rw [if_neg (by omega)]
theorem wearSp {i : Nat} (hi : i = 56 ∨ i = 57) : mSp[i]? = some (0, 8, []) := by
  rcases hi with rfl | rfl <;> rfl
theorem l56 {s : Int32} {a i nb : Nat} (hW : Wf M) (ha : a ≤ 1000) (hi : i = 56 ∨ i = 57) {M0 : mM} (h0 : Bq 35 M0 M) (hnb : M 35 3 = nI nb) (h8 : nb ≤ 8) : ∀ (n k : Nat) (M1 : mM), nb - k < n → k ≤ nb → Tw 35 M M1 → mEv X (QV (fun M' => Bq 35 M0 M')) 56 7 [some (.ref 0), some (.int s), some (.int (nI a)), some (.ref i), some (.int (nI k))] [] (con M1) := by
  have hm : mMet 56 = some _ := rfl
  intro n
  induction n with
  | zero =>
    intro k M1 hkn hkb hT
    omega
  | succ n ih =>
    intro k M1 hkn hkb hT
    have hn1 : M1 35 3 = nI nb := (hT.2.2 35 (by decide)).1.trans hnb
    refine x_iload hm rfl rfl ?_
    refine x_aload_n hm rfl rfl ?_
    refine x_getf hm rfl (gR rfl rfl) ?_
    refine x_getf hm rfl (gI rfl rfl) ?_
    rw [hn1]
    refine x_icmp_ge hm rfl (t := 61) rfl (fun h1 => ?_) (fun h1 => ?_)
    · refine x_aload_n hm rfl rfl ?_
      refine x_getf hm rfl (gR rfl rfl) ?_
      refine x_iload_n hm rfl rfl ?_
      refine x_cVv hm rfl rfl (t30 (by decide) ha (hT.1 hW)) (fun M2 r2 => ?_)
      refine x_aload_n hm rfl rfl ?_
      refine x_getf hm rfl (gR rfl rfl) ?_
      refine x_getf hm rfl (gR rfl rfl) ?_
      refine x_iconst hm rfl (v := nI 2) (by decide) ?_
      refine x_aald hm rfl (lQ _ (by decide) rfl rfl (by omega) (by decide)) ?_
      refine x_iconst hm rfl (v := nI 0) (by decide) ?_
      refine x_aload_n hm rfl rfl ?_
      refine x_iconst hm rfl (v := nI 0) (by decide) ?_
      refine x_bipush hm rfl (v := nI 8) (by decide) ?_
      refine x_lib hm rfl (acp_call rfl (wearSp hi) (by decide) (by decide) ⟨by decide, by decide⟩ rfl) ?_
      dsimp only
      refine x_ret hm rfl rfl ?_
      first
        | exact ⟨_, rfl, rfl, ((h0.trans hT.bq).trans r2.bq).trans (Bq.wear hi)⟩
        | exact ⟨_, rfl, rfl, ((h0.trans hT.bq).trans r1.bq).trans (Bq.wear hi)⟩
        | exact ⟨_, rfl, rfl, ((h0.trans hT.bq).trans r3.bq).trans (Bq.wear hi)⟩
        | exact ⟨_, rfl, rfl, ((h0.trans hT.bq).trans r4.bq).trans (Bq.wear hi)⟩
        | exact ⟨_, rfl, rfl, ((h0.trans hT.bq).trans r5.bq).trans (Bq.wear hi)⟩
    · have hk : k < nb := Nat.lt_of_not_le fun h => h1 (nI_le h (by omega))
      refine x_aload_n hm rfl rfl ?_
      refine x_getf hm rfl (gR rfl rfl) ?_
      refine x_getf hm rfl (gR rfl rfl) ?_
      refine x_iconst hm rfl (v := nI 5) (by decide) ?_
      refine x_aald hm rfl (lQ _ (by decide) rfl rfl (by omega) (by decide)) ?_
      refine x_iload hm rfl rfl ?_
      refine x_iconst hm rfl (v := (-1 : Int32)) (by decide) ?_
      refine x_iast hm rfl (sI rfl (by omega) (by decide)) ?_
      have hT2 := hT.trans (Tw.row (M := M1) (b := 35) (j := 7) (x := k) (v := -1) (by decide) (by decide) (by decide) okM1)
      refine x_iload_n hm rfl rfl ?_
      refine x_iload hm rfl rfl ?_
      refine x_cSe hm rfl rfl (t21) (fun v3 r3 => ?_)
      refine x_if_eq hm rfl (t := 55) rfl (fun h4 => ?_) (fun h4 => ?_)
      · refine x_iinc hm rfl rfl (v := nI 1) (by decide) rfl ?_
        rw [jI_add]
        refine x_goto hm rfl (t := 7) rfl ?_
        first
          | exact ih _ _ (by omega) (by omega) hT2
          | exact ih _ _ (by omega) (by omega) (hT2.trans (Tw.row (b := 35) (j := 5) (by decide) (by decide) (by decide) trivial))
      · refine x_aload_n hm rfl rfl ?_
        refine x_getf hm rfl (gR rfl rfl) ?_
        refine x_getf hm rfl (gR rfl rfl) ?_
        refine x_iconst hm rfl (v := nI 3) (by decide) ?_
        refine x_aald hm rfl (lQ _ (by decide) rfl rfl (by omega) (by decide)) ?_
        refine x_iload hm rfl rfl ?_
        refine x_bipush hm rfl (v := nI 9) (by decide) ?_
        refine x_iast hm rfl (sI rfl (by omega) (by decide)) ?_
        refine x_iinc hm rfl rfl (v := nI 1) (by decide) rfl ?_
        rw [jI_add]
        refine x_goto hm rfl (t := 7) rfl ?_
        first
          | exact ih _ _ (by omega) (by omega) hT2
          | exact ih _ _ (by omega) (by omega) (hT2.trans (Tw.row (b := 35) (j := 5) (by decide) (by decide) (by decide) trivial))
theorem t56 {s : Int32} {a i : Nat} (hW : Wf M) (ha : a ≤ 1000) (hi : i = 56 ∨ i = 57) : ∃ M', mT X 56 [.ref 0, .int s, .int (nI a), .ref i] (con M) none (con M') ∧ Bq 35 M M' := by
  refine tv_of (row := _) rfl (Nat.le_of_ble_eq_true rfl) ?_
  have hm : mMet 56 = some _ := rfl
  refine x_aload_n hm rfl rfl ?_
  refine x_cVv hm rfl rfl (t42 hW) (fun M1 r1 => ?_)
  refine x_iconst hm rfl (v := nI 0) (by decide) ?_
  refine x_istore hm rfl rfl ?_
  obtain ⟨nb, h8, hnb⟩ := (r1.1 hW).ct (b := 35) (by decide)
  exact l56 (r1.1 hW) ha hi r1 hnb h8 _ 0 _ (Nat.lt_succ_self _) (Nat.zero_le _) Tw.rf
theorem l58 {s : Int32} {nb : Nat} (hW : Wf M) (hnb : M 35 3 = nI nb) (h8 : nb ≤ 8) : ∀ (n k : Nat) (M1 : mM), nb - k < n → k ≤ nb → Tw 35 M M1 → mEv X (QI (fun _ M' => Bq 35 M M')) 58 2 [some (.ref 0), some (.int s), some (.int (nI k))] [] (con M1) := by
  have hm : mMet 58 = some _ := rfl
  intro n
  induction n with
  | zero =>
    intro k M1 hkn hkb hT
    omega
  | succ n ih =>
    intro k M1 hkn hkb hT
    have hn1 : M1 35 3 = nI nb := (hT.2.2 35 (by decide)).1.trans hnb
    refine x_iload_n hm rfl rfl ?_
    refine x_aload_n hm rfl rfl ?_
    refine x_getf hm rfl (gR rfl rfl) ?_
    refine x_getf hm rfl (gI rfl rfl) ?_
    rw [hn1]
    refine x_icmp_ge hm rfl (t := 53) rfl (fun h1 => ?_) (fun h1 => ?_)
    · refine x_aload_n hm rfl rfl ?_
      refine x_getf hm rfl (gR rfl rfl) ?_
      refine x_cVv hm rfl rfl (t31 (by decide) (hT.1 hW)) (fun M2 r2 => ?_)
      refine x_aload_n hm rfl rfl ?_
      refine x_getf hm rfl (gR rfl rfl) ?_
      refine x_cVe hm rfl rfl (t38 (by decide) (r2.1 (hT.1 hW))) (fun v3 r3 => ?_)
      refine x_iret hm rfl rfl (by first | rfl | exact bI_nar | decide) ?_
      exact ⟨_, _, rfl, rfl, (hT.trans r2).bq⟩
    · have hk : k < nb := Nat.lt_of_not_le fun h => h1 (nI_le h (by omega))
      refine x_aload_n hm rfl rfl ?_
      refine x_getf hm rfl (gR rfl rfl) ?_
      refine x_getf hm rfl (gR rfl rfl) ?_
      refine x_iconst hm rfl (v := nI 2) (by decide) ?_
      refine x_aald hm rfl (lQ _ (by decide) rfl rfl (by omega) (by decide)) ?_
      refine x_iload_n hm rfl rfl ?_
      refine x_iload_n hm rfl rfl ?_
      refine x_iload_n hm rfl rfl ?_
      refine x_cSe hm rfl rfl (t21) (fun v4 r4 => ?_)
      refine x_if_eq hm rfl (t := 40) rfl (fun h5 => ?_) (fun h5 => ?_)
      · refine x_aload_n hm rfl rfl ?_
        refine x_getf hm rfl (gR rfl rfl) ?_
        refine x_iload_n hm rfl rfl ?_
        refine x_iald hm rfl (lI rfl (by omega) (by decide)) ?_
        refine x_iast hm rfl (sI rfl (by omega) (by decide)) ?_
        refine x_iinc hm rfl rfl (v := nI 1) (by decide) rfl ?_
        rw [jI_add]
        refine x_goto hm rfl (t := 2) rfl ?_
        exact ih _ _ (by omega) (by omega) (hT.trans (Tw.row (b := 35) (j := 4) (by decide) (by decide) (by decide) trivial))
      · refine x_aload_n hm rfl rfl ?_
        refine x_getf hm rfl (gR rfl rfl) ?_
        refine x_iload_n hm rfl rfl ?_
        refine x_iald hm rfl (lI rfl (by omega) (by decide)) ?_
        refine x_goto hm rfl (t := 46) rfl ?_
        refine x_iast hm rfl (sI rfl (by omega) (by decide)) ?_
        refine x_iinc hm rfl rfl (v := nI 1) (by decide) rfl ?_
        rw [jI_add]
        refine x_goto hm rfl (t := 2) rfl ?_
        exact ih _ _ (by omega) (by omega) (hT.trans (Tw.row (b := 35) (j := 4) (by decide) (by decide) (by decide) trivial))
theorem t58 {s : Int32} (hW : Wf M) : ∃ v M', mT X 58 [.ref 0, .int s] (con M) (some (.int v)) (con M') ∧ Bq 35 M M' := by
  refine ti_of (row := _) rfl (Nat.le_of_ble_eq_true rfl) ?_
  have hm : mMet 58 = some _ := rfl
  obtain ⟨nb, h8, hnb⟩ := hW.ct (b := 35) (by decide)
  refine x_iconst hm rfl (v := nI 0) (by decide) ?_
  refine x_istore_n hm rfl rfl ?_
  exact l58 hW hnb h8 _ 0 _ (Nat.lt_succ_self _) (Nat.zero_le _) Tw.rf
theorem l55 {c m : Int32} {a nt : Nat} (hW : Wf M) (hnt : M 1 3 = nI nt) (hn8 : nt ≤ 8) : ∀ (n k : Nat) (s g : Int32) (x7 : Option Value) (M1 : mM), 2 ^ nt - k < n → k ≤ 2 ^ nt → Bq 35 M M1 → mEv X (QI (fun _ M' => Bq 35 M M')) 55 78 [some (.ref 0), some (.int c), some (.int (nI a)), some (.int m), some (.int s), some (.int g), some (.int (nI k)), x7] [] (con M1) := by
  have hm : mMet 55 = some _ := rfl
  intro n
  induction n with
  | zero =>
    intro k s g x7 M1 hkn hkb hT
    omega
  | succ n ih =>
    intro k s g x7 M1 hkn hkb hT
    have hn1 : M1 1 3 = nI nt := (hT.2.2 1 (by decide) (by decide)).1.trans hnt
    have hpw := pow_k hn8
    have hp1 : 1 ≤ 2 ^ nt := Nat.pos_of_ne_zero (by simp)
    have hsub : nI (2 ^ nt) - nI 1 = nI (2 ^ nt - 1) := by
      have e : 2 ^ nt = (2 ^ nt - 1) + 1 := by omega
      rw [e, ← jI_add (2 ^ nt - 1) 1, Int32.add_sub_cancel]
      rfl
    refine x_iload hm rfl rfl ?_
    refine x_aload_n hm rfl rfl ?_
    refine x_getf hm rfl (gR rfl rfl) ?_
    refine x_callV hm rfl rfl (t57 (by decide) hn1 hn8) ?_
    rw [hsub]
    refine x_icmp_gt hm rfl (t := 128) rfl (fun h1 => ?_) (fun h1 => ?_)
    · refine x_iload hm rfl rfl ?_
      refine x_iret hm rfl rfl (by first | rfl | exact bI_nar | decide) ?_
      exact ⟨_, _, rfl, rfl, hT⟩
    · have hk : k ≤ 2 ^ nt - 1 := Nat.le_of_not_lt fun h => h1 (nI_lt h (by omega))
      refine x_iload hm rfl rfl ?_
      refine x_cSe hm rfl rfl (t36) (fun v2 r2 => ?_)
      refine x_iload_n hm rfl rfl ?_
      refine x_icmp_ne hm rfl (t := 122) rfl (fun h3 => ?_) (fun h3 => ?_)
      · refine x_iinc hm rfl rfl (v := nI 1) (by decide) rfl ?_
        rw [jI_add]
        refine x_goto hm rfl (t := 78) rfl ?_
        first
          | exact ih _ _ _ _ _ (by omega) (by omega) (hT.trans r2)
          | exact ih _ _ _ _ _ (by omega) (by omega) hT
          | exact ih _ _ _ _ _ (by omega) (by omega) (hT.trans r3)
          | exact ih _ _ _ _ _ (by omega) (by omega) (hT.trans r4)
          | exact ih _ _ _ _ _ (by omega) (by omega) (hT.trans r5)
          | exact ih _ _ _ _ _ (by omega) (by omega) (hT.trans r6)
          | exact ih _ _ _ _ _ (by omega) (by omega) (hT.trans r7)
      · refine x_aload_n hm rfl rfl ?_
        refine x_iload hm rfl rfl ?_
        refine x_cVi hm rfl rfl (t58 (hT.1 hW)) (fun v4 M4 r4 => ?_)
        refine x_istore hm rfl rfl ?_
        refine x_iload hm rfl rfl ?_
        refine x_iload hm rfl rfl ?_
        refine x_icmp_le hm rfl (t := 122) rfl (fun h5 => ?_) (fun h5 => ?_)
        · refine x_iinc hm rfl rfl (v := nI 1) (by decide) rfl ?_
          rw [jI_add]
          refine x_goto hm rfl (t := 78) rfl ?_
          first
            | exact ih _ _ _ _ _ (by omega) (by omega) (hT.trans r4)
            | exact ih _ _ _ _ _ (by omega) (by omega) hT
            | exact ih _ _ _ _ _ (by omega) (by omega) (hT.trans r2)
            | exact ih _ _ _ _ _ (by omega) (by omega) (hT.trans r3)
            | exact ih _ _ _ _ _ (by omega) (by omega) (hT.trans r5)
            | exact ih _ _ _ _ _ (by omega) (by omega) (hT.trans r6)
            | exact ih _ _ _ _ _ (by omega) (by omega) (hT.trans r7)
        · refine x_iload hm rfl rfl ?_
          refine x_istore hm rfl rfl ?_
          refine x_iload hm rfl rfl ?_
          refine x_istore hm rfl rfl ?_
          refine x_iinc hm rfl rfl (v := nI 1) (by decide) rfl ?_
          rw [jI_add]
          refine x_goto hm rfl (t := 78) rfl ?_
          first
            | exact ih _ _ _ _ _ (by omega) (by omega) (hT.trans r4)
            | exact ih _ _ _ _ _ (by omega) (by omega) hT
            | exact ih _ _ _ _ _ (by omega) (by omega) (hT.trans r2)
            | exact ih _ _ _ _ _ (by omega) (by omega) (hT.trans r3)
            | exact ih _ _ _ _ _ (by omega) (by omega) (hT.trans r5)
            | exact ih _ _ _ _ _ (by omega) (by omega) (hT.trans r6)
            | exact ih _ _ _ _ _ (by omega) (by omega) (hT.trans r7)
theorem t55 {a1 a2 : Int32} (hW : Wf M) : ∃ v M', mT X 55 [.ref 0, .int a1, .int a2] (con M) (some (.int v)) (con M') ∧ Cq M M' := by
  refine ti_of (row := _) rfl (Nat.le_of_ble_eq_true rfl) ?_
  have hm : mMet 55 = some _ := rfl
  obtain ⟨nt, hn8, hnt⟩ := hW.ct (b := 1) (by decide)
  refine x_iload_n hm rfl rfl ?_
  refine x_iconst hm rfl (v := nI 0) (by decide) ?_
  refine x_bipush hm rfl (v := nI 8) (by decide) ?_
  refine x_callS hm rfl rfl (t6) ?_
  refine x_if_eq hm rfl (t := 20) rfl (fun h1 => ?_) (fun h1 => ?_)
  · refine x_aload_n hm rfl rfl ?_
    refine x_ldcI hm rfl (v := (-1000001 : Int32)) (by decide +kernel) ?_
    refine x_cVi hm rfl rfl (t7 (by decide +kernel)) (fun v2 M2 r2 => ?_)
    refine x_iret hm rfl rfl (by first | rfl | exact bI_nar | decide) ?_
    first
      | exact ⟨_, _, rfl, rfl, r2.2.cq hW⟩
      | exact ⟨_, _, rfl, rfl, r2.cq hW⟩
      | exact ⟨_, _, rfl, rfl, Cq.rf hW⟩
      | exact ⟨_, _, rfl, rfl, r1.2.cq hW⟩
      | exact ⟨_, _, rfl, rfl, r3.2.cq hW⟩
      | exact ⟨_, _, rfl, rfl, r4.2.cq hW⟩
      | exact ⟨_, _, rfl, rfl, r5.2.cq hW⟩
      | exact ⟨_, _, rfl, rfl, r6.2.cq hW⟩
      | exact ⟨_, _, rfl, rfl, r7.2.cq hW⟩
      | exact ⟨_, _, rfl, rfl, r8.2.cq hW⟩
      | exact ⟨_, _, rfl, rfl, r9.2.cq hW⟩
      | exact ⟨_, _, rfl, rfl, r10.2.cq hW⟩
      | exact ⟨_, _, rfl, rfl, r11.2.cq hW⟩
      | exact ⟨_, _, rfl, rfl, r12.2.cq hW⟩
      | exact ⟨_, _, rfl, rfl, r13.2.cq hW⟩
      | exact ⟨_, _, rfl, rfl, r14.2.cq hW⟩
      | exact ⟨_, _, rfl, rfl, r15.2.cq hW⟩
      | exact ⟨_, _, rfl, rfl, r16.2.cq hW⟩
      | exact ⟨_, _, rfl, rfl, r17.2.cq hW⟩
      | exact ⟨_, _, rfl, rfl, r18.2.cq hW⟩
      | exact ⟨_, _, rfl, rfl, r19.2.cq hW⟩
      | exact ⟨_, _, rfl, rfl, r1.cq hW⟩
      | exact ⟨_, _, rfl, rfl, r3.cq hW⟩
      | exact ⟨_, _, rfl, rfl, r4.cq hW⟩
      | exact ⟨_, _, rfl, rfl, r5.cq hW⟩
      | exact ⟨_, _, rfl, rfl, r6.cq hW⟩
      | exact ⟨_, _, rfl, rfl, r7.cq hW⟩
      | exact ⟨_, _, rfl, rfl, r8.cq hW⟩
      | exact ⟨_, _, rfl, rfl, r9.cq hW⟩
      | exact ⟨_, _, rfl, rfl, r10.cq hW⟩
      | exact ⟨_, _, rfl, rfl, r11.cq hW⟩
  · refine x_iload_n hm rfl rfl ?_
    refine x_iconst hm rfl (v := nI 0) (by decide) ?_
    refine x_bipush hm rfl (v := nI 60) (by decide) ?_
    refine x_callS hm rfl rfl (t6) ?_
    refine x_if_ne hm rfl (t := 27) rfl (fun h3 => ?_) (fun h3 => ?_)
    · obtain ⟨a, ha, rfl⟩ := le_k (by omega) (bI_ne0 h3)
      refine x_iload_n hm rfl rfl ?_
      refine x_aload_n hm rfl rfl ?_
      refine x_getf hm rfl (gR rfl rfl) ?_
      refine x_getf hm rfl (gI rfl rfl) ?_
      refine x_lib hm rfl rfl ?_
      dsimp only
      refine x_istore_n hm rfl rfl ?_
      refine x_aload_n hm rfl rfl ?_
      refine x_iconst hm rfl (v := nI 0) (by decide) ?_
      refine x_iload_n hm rfl rfl ?_
      refine x_aload_n hm rfl rfl ?_
      refine x_getf hm rfl (gR rfl rfl) ?_
      refine x_cVv hm rfl rfl (t56 hW (by omega) (by decide)) (fun M4 r4 => ?_)
      refine x_aload_n hm rfl rfl ?_
      refine x_aload_n hm rfl rfl ?_
      refine x_getf hm rfl (gR rfl rfl) ?_
      refine x_callV hm rfl rfl (t57 (by decide) ((r4.2.2 1 (by decide) (by decide)).1.trans hnt) hn8) ?_
      refine x_iload_n hm rfl rfl ?_
      refine x_aload_n hm rfl rfl ?_
      refine x_getf hm rfl (gR rfl rfl) ?_
      refine x_cVv hm rfl rfl (t56 (r4.1 hW) (by omega) (by decide)) (fun M5 r5 => ?_)
      refine x_aload_n hm rfl rfl ?_
      refine x_cVv hm rfl rfl (t42 (r5.1 (r4.1 hW))) (fun M6 r6 => ?_)
      refine x_iconst hm rfl (v := nI 0) (by decide) ?_
      refine x_istore hm rfl rfl ?_
      refine x_iconst hm rfl (v := (-1 : Int32)) (by decide) ?_
      refine x_istore hm rfl rfl ?_
      refine x_iconst hm rfl (v := nI 0) (by decide) ?_
      refine x_istore hm rfl rfl ?_
      first
        | exact ev_cq hW (l55 hW hnt hn8 _ 0 _ _ _ _ (Nat.lt_succ_self _) (Nat.zero_le _) ((r4.trans r5).trans r6))
    · refine x_aload_n hm rfl rfl ?_
      refine x_ldcI hm rfl (v := (-1000001 : Int32)) (by decide +kernel) ?_
      refine x_cVi hm rfl rfl (t7 (by decide +kernel)) (fun v7 M7 r7 => ?_)
      refine x_iret hm rfl rfl (by first | rfl | exact bI_nar | decide) ?_
      first
        | exact ⟨_, _, rfl, rfl, r7.2.cq hW⟩
        | exact ⟨_, _, rfl, rfl, r7.cq hW⟩
        | exact ⟨_, _, rfl, rfl, Cq.rf hW⟩
        | exact ⟨_, _, rfl, rfl, r1.2.cq hW⟩
        | exact ⟨_, _, rfl, rfl, r2.2.cq hW⟩
        | exact ⟨_, _, rfl, rfl, r3.2.cq hW⟩
        | exact ⟨_, _, rfl, rfl, r4.2.cq hW⟩
        | exact ⟨_, _, rfl, rfl, r5.2.cq hW⟩
        | exact ⟨_, _, rfl, rfl, r6.2.cq hW⟩
        | exact ⟨_, _, rfl, rfl, r8.2.cq hW⟩
        | exact ⟨_, _, rfl, rfl, r9.2.cq hW⟩
        | exact ⟨_, _, rfl, rfl, r10.2.cq hW⟩
        | exact ⟨_, _, rfl, rfl, r11.2.cq hW⟩
        | exact ⟨_, _, rfl, rfl, r12.2.cq hW⟩
        | exact ⟨_, _, rfl, rfl, r13.2.cq hW⟩
        | exact ⟨_, _, rfl, rfl, r14.2.cq hW⟩
        | exact ⟨_, _, rfl, rfl, r15.2.cq hW⟩
        | exact ⟨_, _, rfl, rfl, r16.2.cq hW⟩
        | exact ⟨_, _, rfl, rfl, r17.2.cq hW⟩
        | exact ⟨_, _, rfl, rfl, r18.2.cq hW⟩
        | exact ⟨_, _, rfl, rfl, r19.2.cq hW⟩
        | exact ⟨_, _, rfl, rfl, r1.cq hW⟩
        | exact ⟨_, _, rfl, rfl, r2.cq hW⟩
        | exact ⟨_, _, rfl, rfl, r3.cq hW⟩
        | exact ⟨_, _, rfl, rfl, r4.cq hW⟩
        | exact ⟨_, _, rfl, rfl, r5.cq hW⟩
        | exact ⟨_, _, rfl, rfl, r6.cq hW⟩
        | exact ⟨_, _, rfl, rfl, r8.cq hW⟩
        | exact ⟨_, _, rfl, rfl, r9.cq hW⟩
        | exact ⟨_, _, rfl, rfl, r10.cq hW⟩
        | exact ⟨_, _, rfl, rfl, r11.cq hW⟩
end CF
