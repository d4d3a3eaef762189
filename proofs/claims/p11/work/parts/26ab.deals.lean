section RH
variable {X : mSc} {Q : Option Value → mHp → Prop} {M : mM}
theorem t203 {p q : Nat} {a3 a4 : Int32} (hI : Inv M) (hp : p < 8) (hq : q < 8) : ∃ v, mT X 203 [.ref 66, .int (nI p), .int (nI q), .int a3, .int a4] (con M) (some (.int v)) (con M) ∧ (v = nI 0 ∨ v = nI 1) := by
  refine te_of (row := _) rfl (Nat.le_of_ble_eq_true rfl) ?_
  have hm : mMet 203 = some _ := rfl
  refine x_aload_n hm rfl rfl ?_
  refine x_iload_n hm rfl rfl ?_
  refine x_iload hm rfl rfl ?_
  refine x_cVe hm rfl rfl (t200 hI.1 (by omega)) (fun v1 r1 => ?_)
  refine x_aload_n hm rfl rfl ?_
  refine x_iload_n hm rfl rfl ?_
  refine x_iload_n hm rfl rfl ?_
  refine x_cVe hm rfl rfl (t200 hI.1 (by omega)) (fun v2 r2 => ?_)
  refine x_icmp_gt hm rfl (t := 36) rfl (fun h3 => ?_) (fun h3 => ?_)
  · refine x_iconst hm rfl (v := nI 0) (by decide) ?_
    refine x_iret hm rfl rfl (by first | rfl | exact bI_nar | decide) ?_
    exact ⟨_, rfl, rfl, by first | exact Or.inl rfl | exact Or.inr rfl⟩
  · refine x_aload_n hm rfl rfl ?_
    refine x_iload_n hm rfl rfl ?_
    refine x_iload_n hm rfl rfl ?_
    refine x_cVe hm rfl rfl (t200 hI.1 (by omega)) (fun v4 r4 => ?_)
    refine x_aload_n hm rfl rfl ?_
    refine x_iload_n hm rfl rfl ?_
    refine x_iload hm rfl rfl ?_
    refine x_cVe hm rfl rfl (t200 hI.1 (by omega)) (fun v5 r5 => ?_)
    refine x_icmp_gt hm rfl (t := 36) rfl (fun h6 => ?_) (fun h6 => ?_)
    · refine x_iconst hm rfl (v := nI 0) (by decide) ?_
      refine x_iret hm rfl rfl (by first | rfl | exact bI_nar | decide) ?_
      exact ⟨_, rfl, rfl, by first | exact Or.inl rfl | exact Or.inr rfl⟩
    · refine x_iconst hm rfl (v := nI 1) (by decide) ?_
      refine x_goto hm rfl (t := 37) rfl ?_
      refine x_iret hm rfl rfl (by first | rfl | exact bI_nar | decide) ?_
      exact ⟨_, rfl, rfl, by first | exact Or.inl rfl | exact Or.inr rfl⟩
theorem l201 {p q s : Nat} (hI : Inv M) (hp : p < 8) (hq : q < 8) : ∀ (n : Nat) (x b : Int32), (x.toInt + 1).toNat < n → mEv X (QI (fun _ M' => Iq M M')) 201 23 [some (.ref 66), some (.int (nI p)), some (.int (nI q)), some (.int (nI s)), some (.int b), some (.int x)] [] (con M) := by
  have hm : mMet 201 = some _ := rfl
  intro n
  induction n with
  | zero =>
    intro x b hx
    omega
  | succ n ih =>
    intro x b hx
    refine x_iload hm rfl rfl ?_
    refine x_if_lt hm rfl (t := 69) rfl (fun h1 => ?_) (fun h1 => ?_)
    · refine x_aload_n hm rfl rfl ?_
      refine x_iload hm rfl rfl ?_
      refine x_cVi hm rfl rfl (t177) (fun v2 M2 r2 => ?_)
      refine x_iret hm rfl rfl (by first | rfl | exact bI_nar | decide) ?_
      exact ⟨_, _, rfl, rfl, by first | exact Iq.rf hI | exact (r1.2.iq hI) | exact (r2.2.iq hI) | exact (r3.2.iq hI) | exact (r4.2.iq hI) | exact (r5.2.iq hI) | exact (r6.2.iq hI) | exact (r7.2.iq hI) | exact (r8.2.iq hI) | exact (r1.iq hI) | exact (r2.iq hI) | exact (r3.iq hI) | exact (r4.iq hI) | exact (r5.iq hI) | exact (r6.iq hI) | exact (r7.iq hI) | exact (r8.iq hI)⟩
    · have hx0 : ¬ x < 0 := h1
      have hd := dec_int hx0
      have hx1 : 0 ≤ x.toInt := by
        have := Int32.not_lt.mp hx0
        simpa using Int32.le_iff_toInt_le.mp this
      refine x_iload hm rfl rfl ?_
      refine x_iload_n hm rfl rfl ?_
      refine x_iconst hm rfl (v := (-1 : Int32)) (by decide) ?_
      refine x_ixor hm rfl ?_
      refine x_iand hm rfl ?_
      refine x_if_ne hm rfl (t := 59) rfl (fun h3 => ?_) (fun h3 => ?_)
      · refine x_iload hm rfl rfl ?_
        refine x_istore hm rfl rfl ?_
        refine x_iinc hm rfl rfl (v := (-1 : Int32)) (by decide) rfl ?_
        refine x_goto hm rfl (t := 23) rfl ?_
        exact ih _ _ (by omega)
      · refine x_aload_n hm rfl rfl ?_
        refine x_iload_n hm rfl rfl ?_
        refine x_iload_n hm rfl rfl ?_
        refine x_iload hm rfl rfl ?_
        refine x_iload_n hm rfl rfl ?_
        refine x_iload hm rfl rfl ?_
        refine x_iconst hm rfl (v := (-1 : Int32)) (by decide) ?_
        refine x_ixor hm rfl ?_
        refine x_iand hm rfl ?_
        refine x_cVe hm rfl rfl (t203 hI (by omega) (by omega)) (fun v4 r4 => ?_)
        refine x_if_eq hm rfl (t := 59) rfl (fun h5 => ?_) (fun h5 => ?_)
        · refine x_iload hm rfl rfl ?_
          refine x_istore hm rfl rfl ?_
          refine x_iinc hm rfl rfl (v := (-1 : Int32)) (by decide) rfl ?_
          refine x_goto hm rfl (t := 23) rfl ?_
          exact ih _ _ (by omega)
        · refine x_iload hm rfl rfl ?_
          refine x_goto hm rfl (t := 61) rfl ?_
          refine x_istore hm rfl rfl ?_
          refine x_iinc hm rfl rfl (v := (-1 : Int32)) (by decide) rfl ?_
          refine x_goto hm rfl (t := 23) rfl ?_
          exact ih _ _ (by omega)
theorem t201 {a1 a2 a3 : Int32} (hI : Inv M) : ∃ v M', mT X 201 [.ref 66, .int a1, .int a2, .int a3] (con M) (some (.int v)) (con M') ∧ Iq M M' := by
  refine ti_of (row := _) rfl (Nat.le_of_ble_eq_true rfl) ?_
  have hm : mMet 201 = some _ := rfl
  refine x_aload_n hm rfl rfl ?_
  refine x_iload_n hm rfl rfl ?_
  refine x_iload_n hm rfl rfl ?_
  refine x_iload_n hm rfl rfl ?_
  refine x_cVe hm rfl rfl (t202 hI) (fun v1 r1 => ?_)
  refine x_if_ne hm rfl (t := 17) rfl (fun h2 => ?_) (fun h2 => ?_)
  · obtain ⟨-, p, q, s, hp, hq, hs, rfl, rfl, rfl⟩ := r1.resolve_left (fun e => by subst e; exact h2 rfl)
    refine x_iconst hm rfl (v := (-1 : Int32)) (by decide) ?_
    refine x_istore hm rfl rfl ?_
    refine x_iload_n hm rfl rfl ?_
    refine x_istore hm rfl rfl ?_
    exact l201 hI hp hq _ _ _ (Nat.lt_succ_self _)
  · refine x_aload_n hm rfl rfl ?_
    refine x_ldcI hm rfl (v := (-1000001 : Int32)) (by decide +kernel) ?_
    refine x_cVi hm rfl rfl (t135 (by decide +kernel)) (fun v3 M3 r3 => ?_)
    refine x_iret hm rfl rfl (by first | rfl | exact bI_nar | decide) ?_
    exact ⟨_, _, rfl, rfl, by first | exact Iq.rf hI | exact (r1.2.iq hI) | exact (r2.2.iq hI) | exact (r3.2.iq hI) | exact (r4.2.iq hI) | exact (r5.2.iq hI) | exact (r1.iq hI) | exact (r2.iq hI) | exact (r3.iq hI) | exact (r4.iq hI) | exact (r5.iq hI)⟩
theorem l205 {p q s : Nat} (hI : Inv M) (hp : p < 8) (hq : q < 8) (hs : s < 256) : ∀ (n k : Nat) (b : Int32), s + 1 - k < n → k ≤ s + 1 → mEv X (QI (fun _ M' => Iq M M')) 205 6 [some (.ref 66), some (.int (nI p)), some (.int (nI q)), some (.int (nI s)), some (.int b), some (.int (nI k))] [] (con M) := by
  have hm : mMet 205 = some _ := rfl
  intro n
  induction n with
  | zero =>
    intro k b hkn hkb
    omega
  | succ n ih =>
    intro k b hkn hkb
    refine x_iload hm rfl rfl ?_
    refine x_iload_n hm rfl rfl ?_
    refine x_icmp_gt hm rfl (t := 54) rfl (fun h1 => ?_) (fun h1 => ?_)
    · refine x_iload hm rfl rfl ?_
      refine x_iret hm rfl rfl (by first | rfl | exact bI_nar | decide) ?_
      exact ⟨_, _, rfl, rfl, by first | exact Iq.rf hI | exact (r1.2.iq hI) | exact (r2.2.iq hI) | exact (r3.2.iq hI) | exact (r4.2.iq hI) | exact (r5.2.iq hI) | exact (r6.2.iq hI) | exact (r7.2.iq hI) | exact (r8.2.iq hI) | exact (r1.iq hI) | exact (r2.iq hI) | exact (r3.iq hI) | exact (r4.iq hI) | exact (r5.iq hI) | exact (r6.iq hI) | exact (r7.iq hI) | exact (r8.iq hI)⟩
    · have hk : k ≤ s := Nat.le_of_not_lt fun h => h1 (nI_lt h (by omega))
      refine x_iload hm rfl rfl ?_
      refine x_iload hm rfl rfl ?_
      refine x_iload_n hm rfl rfl ?_
      refine x_iconst hm rfl (v := (-1 : Int32)) (by decide) ?_
      refine x_ixor hm rfl ?_
      refine x_iand hm rfl ?_
      refine x_if_ne hm rfl (t := 44) rfl (fun h2 => ?_) (fun h2 => ?_)
      · refine x_iconst hm rfl (v := nI 0) (by decide) ?_
        refine x_iadd hm rfl ?_
        refine x_istore hm rfl rfl ?_
        refine x_iinc hm rfl rfl (v := nI 1) (by decide) rfl ?_
        rw [jI_add]
        refine x_goto hm rfl (t := 6) rfl ?_
        exact ih _ _ (by omega) (by omega)
      · refine x_aload_n hm rfl rfl ?_
        refine x_iload_n hm rfl rfl ?_
        refine x_iload_n hm rfl rfl ?_
        refine x_iload hm rfl rfl ?_
        refine x_iload_n hm rfl rfl ?_
        refine x_iload hm rfl rfl ?_
        refine x_iconst hm rfl (v := (-1 : Int32)) (by decide) ?_
        refine x_ixor hm rfl ?_
        refine x_iand hm rfl ?_
        refine x_cVe hm rfl rfl (t203 hI (by omega) (by omega)) (fun v3 r3 => ?_)
        refine x_if_eq hm rfl (t := 44) rfl (fun h4 => ?_) (fun h4 => ?_)
        · refine x_iconst hm rfl (v := nI 0) (by decide) ?_
          refine x_iadd hm rfl ?_
          refine x_istore hm rfl rfl ?_
          refine x_iinc hm rfl rfl (v := nI 1) (by decide) rfl ?_
          rw [jI_add]
          refine x_goto hm rfl (t := 6) rfl ?_
          exact ih _ _ (by omega) (by omega)
        · refine x_iconst hm rfl (v := nI 1) (by decide) ?_
          refine x_goto hm rfl (t := 45) rfl ?_
          refine x_iadd hm rfl ?_
          refine x_istore hm rfl rfl ?_
          refine x_iinc hm rfl rfl (v := nI 1) (by decide) rfl ?_
          rw [jI_add]
          refine x_goto hm rfl (t := 6) rfl ?_
          exact ih _ _ (by omega) (by omega)
theorem t205 {p q s : Nat} (hp : p < 8) (hq : q < 8) (hs : s < 256) (hI : Inv M) : ∃ v M', mT X 205 [.ref 66, .int (nI p), .int (nI q), .int (nI s)] (con M) (some (.int v)) (con M') ∧ Iq M M' := by
  refine ti_of (row := _) rfl (Nat.le_of_ble_eq_true rfl) ?_
  have hm : mMet 205 = some _ := rfl
  refine x_iconst hm rfl (v := nI 0) (by decide) ?_
  refine x_istore hm rfl rfl ?_
  refine x_iconst hm rfl (v := nI 0) (by decide) ?_
  refine x_istore hm rfl rfl ?_
  exact l205 hI hp hq hs _ 0 _ (Nat.lt_succ_self _) (Nat.zero_le _)
theorem t204 {a1 a2 a3 : Int32} (hI : Inv M) : ∃ v M', mT X 204 [.ref 66, .int a1, .int a2, .int a3] (con M) (some (.int v)) (con M') ∧ Iq M M' := by
  refine ti_of (row := _) rfl (Nat.le_of_ble_eq_true rfl) ?_
  have hm : mMet 204 = some _ := rfl
  refine x_aload_n hm rfl rfl ?_
  refine x_iload_n hm rfl rfl ?_
  refine x_iload_n hm rfl rfl ?_
  refine x_iload_n hm rfl rfl ?_
  refine x_cVe hm rfl rfl (t202 hI) (fun v1 r1 => ?_)
  refine x_if_eq hm rfl (t := 20) rfl (fun h2 => ?_) (fun h2 => ?_)
  · refine x_aload_n hm rfl rfl ?_
    refine x_ldcI hm rfl (v := (-1000001 : Int32)) (by decide +kernel) ?_
    refine x_cVi hm rfl rfl (t135 (by decide +kernel)) (fun v3 M3 r3 => ?_)
    refine x_iret hm rfl rfl (by first | rfl | exact bI_nar | decide) ?_
    exact ⟨_, _, rfl, rfl, by first | exact r3 | exact r4 | exact (r3.2.iq hI) | exact (r4.2.iq hI) | exact (r5.2.iq hI)⟩
  · obtain ⟨-, p, q, s, hp, hq, hs, rfl, rfl, rfl⟩ := r1.resolve_left (fun e => by subst e; exact h2 rfl)
    refine x_aload_n hm rfl rfl ?_
    refine x_iload_n hm rfl rfl ?_
    refine x_iload_n hm rfl rfl ?_
    refine x_iload_n hm rfl rfl ?_
    refine x_cVi hm rfl rfl (t205 (by omega) (by omega) (by omega) hI) (fun v4 M4 r4 => ?_)
    refine x_goto hm rfl (t := 26) rfl ?_
    refine x_iret hm rfl rfl (by first | rfl | exact bI_nar | decide) ?_
    exact ⟨_, _, rfl, rfl, by first | exact r3 | exact r4 | exact (r3.2.iq hI) | exact (r4.2.iq hI) | exact (r5.2.iq hI)⟩
theorem l206 {p q s : Nat} (hI : Inv M) (hp : p < 8) (hq : q < 8) (hs : s < 256) : ∀ (n k : Nat) (b c : Int32) (x7 : Option Value), s + 1 - k < n → k ≤ s + 1 → mEv X (QI (fun _ M' => Iq M M')) 206 26 [some (.ref 66), some (.int (nI p)), some (.int (nI q)), some (.int (nI s)), some (.int b), some (.int c), some (.int (nI k)), x7] [] (con M) := by
  have hm : mMet 206 = some _ := rfl
  intro n
  induction n with
  | zero =>
    intro k b c x7 hkn hkb
    omega
  | succ n ih =>
    intro k b c x7 hkn hkb
    refine x_iload hm rfl rfl ?_
    refine x_iload_n hm rfl rfl ?_
    refine x_icmp_gt hm rfl (t := 99) rfl (fun h1 => ?_) (fun h1 => ?_)
    · refine x_iload hm rfl rfl ?_
      refine x_iret hm rfl rfl (by first | rfl | exact bI_nar | decide) ?_
      exact ⟨_, _, rfl, rfl, by first | exact Iq.rf hI | exact (r1.2.iq hI) | exact (r2.2.iq hI) | exact (r3.2.iq hI) | exact (r4.2.iq hI) | exact (r5.2.iq hI) | exact (r6.2.iq hI) | exact (r7.2.iq hI) | exact (r8.2.iq hI) | exact (r1.iq hI) | exact (r2.iq hI) | exact (r3.iq hI) | exact (r4.iq hI) | exact (r5.iq hI) | exact (r6.iq hI) | exact (r7.iq hI) | exact (r8.iq hI)⟩
    · have hk : k ≤ s := Nat.le_of_not_lt fun h => h1 (nI_lt h (by omega))
      refine x_iload hm rfl rfl ?_
      refine x_iload_n hm rfl rfl ?_
      refine x_iconst hm rfl (v := (-1 : Int32)) (by decide) ?_
      refine x_ixor hm rfl ?_
      refine x_iand hm rfl ?_
      refine x_if_ne hm rfl (t := 65) rfl (fun h2 => ?_) (fun h2 => ?_)
      · refine x_iconst hm rfl (v := (-1 : Int32)) (by decide) ?_
        refine x_istore hm rfl rfl ?_
        refine x_iload hm rfl rfl ?_
        refine x_iload hm rfl rfl ?_
        refine x_icmp_le hm rfl (t := 80) rfl (fun h3 => ?_) (fun h3 => ?_)
        · refine x_iload hm rfl rfl ?_
          refine x_istore hm rfl rfl ?_
          refine x_iload hm rfl rfl ?_
          refine x_iload hm rfl rfl ?_
          refine x_lib hm rfl rfl ?_
          dsimp only
          refine x_istore hm rfl rfl ?_
          refine x_iinc hm rfl rfl (v := nI 1) (by decide) rfl ?_
          rw [jI_add]
          refine x_goto hm rfl (t := 26) rfl ?_
          exact ih _ _ _ _ (by omega) (by omega)
        · refine x_iload hm rfl rfl ?_
          refine x_goto hm rfl (t := 82) rfl ?_
          refine x_istore hm rfl rfl ?_
          refine x_iload hm rfl rfl ?_
          refine x_iload hm rfl rfl ?_
          refine x_lib hm rfl rfl ?_
          dsimp only
          refine x_istore hm rfl rfl ?_
          refine x_iinc hm rfl rfl (v := nI 1) (by decide) rfl ?_
          rw [jI_add]
          refine x_goto hm rfl (t := 26) rfl ?_
          exact ih _ _ _ _ (by omega) (by omega)
      · refine x_aload_n hm rfl rfl ?_
        refine x_iload_n hm rfl rfl ?_
        refine x_iload hm rfl rfl ?_
        refine x_cVe hm rfl rfl (t200 hI.1 (by omega)) (fun v4 r4 => ?_)
        refine x_aload_n hm rfl rfl ?_
        refine x_iload_n hm rfl rfl ?_
        refine x_iload_n hm rfl rfl ?_
        refine x_iload hm rfl rfl ?_
        refine x_iconst hm rfl (v := (-1 : Int32)) (by decide) ?_
        refine x_ixor hm rfl ?_
        refine x_iand hm rfl ?_
        refine x_cVe hm rfl rfl (t200 hI.1 (by omega)) (fun v5 r5 => ?_)
        refine x_lib hm rfl rfl ?_
        dsimp only
        refine x_goto hm rfl (t := 66) rfl ?_
        refine x_istore hm rfl rfl ?_
        refine x_iload hm rfl rfl ?_
        refine x_iload hm rfl rfl ?_
        refine x_icmp_le hm rfl (t := 80) rfl (fun h6 => ?_) (fun h6 => ?_)
        · refine x_iload hm rfl rfl ?_
          refine x_istore hm rfl rfl ?_
          refine x_iload hm rfl rfl ?_
          refine x_iload hm rfl rfl ?_
          refine x_lib hm rfl rfl ?_
          dsimp only
          refine x_istore hm rfl rfl ?_
          refine x_iinc hm rfl rfl (v := nI 1) (by decide) rfl ?_
          rw [jI_add]
          refine x_goto hm rfl (t := 26) rfl ?_
          exact ih _ _ _ _ (by omega) (by omega)
        · refine x_iload hm rfl rfl ?_
          refine x_goto hm rfl (t := 82) rfl ?_
          refine x_istore hm rfl rfl ?_
          refine x_iload hm rfl rfl ?_
          refine x_iload hm rfl rfl ?_
          refine x_lib hm rfl rfl ?_
          dsimp only
          refine x_istore hm rfl rfl ?_
          refine x_iinc hm rfl rfl (v := nI 1) (by decide) rfl ?_
          rw [jI_add]
          refine x_goto hm rfl (t := 26) rfl ?_
          exact ih _ _ _ _ (by omega) (by omega)
theorem t206 {a1 a2 a3 : Int32} (hI : Inv M) : ∃ v M', mT X 206 [.ref 66, .int a1, .int a2, .int a3] (con M) (some (.int v)) (con M') ∧ Iq M M' := by
  refine ti_of (row := _) rfl (Nat.le_of_ble_eq_true rfl) ?_
  have hm : mMet 206 = some _ := rfl
  refine x_aload_n hm rfl rfl ?_
  refine x_iload_n hm rfl rfl ?_
  refine x_iload_n hm rfl rfl ?_
  refine x_iload_n hm rfl rfl ?_
  refine x_cVe hm rfl rfl (t202 hI) (fun v1 r1 => ?_)
  refine x_if_ne hm rfl (t := 17) rfl (fun h2 => ?_) (fun h2 => ?_)
  · obtain ⟨-, p, q, s, hp, hq, hs, rfl, rfl, rfl⟩ := r1.resolve_left (fun e => by subst e; exact h2 rfl)
    refine x_iconst hm rfl (v := nI 0) (by decide) ?_
    refine x_istore hm rfl rfl ?_
    refine x_iconst hm rfl (v := (-1 : Int32)) (by decide) ?_
    refine x_istore hm rfl rfl ?_
    refine x_iconst hm rfl (v := nI 0) (by decide) ?_
    refine x_istore hm rfl rfl ?_
    exact l206 hI hp hq hs _ 0 _ _ _ (Nat.lt_succ_self _) (Nat.zero_le _)
  · refine x_aload_n hm rfl rfl ?_
    refine x_ldcI hm rfl (v := (-1000001 : Int32)) (by decide +kernel) ?_
    refine x_cVi hm rfl rfl (t135 (by decide +kernel)) (fun v3 M3 r3 => ?_)
    refine x_iret hm rfl rfl (by first | rfl | exact bI_nar | decide) ?_
    exact ⟨_, _, rfl, rfl, by first | exact Iq.rf hI | exact (r1.2.iq hI) | exact (r2.2.iq hI) | exact (r3.2.iq hI) | exact (r4.2.iq hI) | exact (r5.2.iq hI) | exact (r1.iq hI) | exact (r2.iq hI) | exact (r3.iq hI) | exact (r4.iq hI) | exact (r5.iq hI)⟩
theorem l207b {a nb : Nat} (hI : Inv M) (hnb : M 67 2 = nI nb) (h8 : nb ≤ 8) (ha : a < nb) (hout : ∀ (s : Int32) (x : Option Value), mEv X (QI (fun _ M' => Iq M M')) 207 4 [some (.ref 66), some (.int s), some (.int (nI (a + 1))), x] [] (con M)) : ∀ (n k : Nat) (s : Int32), nb - k < n → k ≤ nb → mEv X (QI (fun _ M' => Iq M M')) 207 16 [some (.ref 66), some (.int s), some (.int (nI a)), some (.int (nI k))] [] (con M) := by
  have hm : mMet 207 = some _ := rfl
  intro n
  induction n with
  | zero =>
    intro k s hkn hkb
    omega
  | succ n ih =>
    intro k s hkn hkb
    refine x_iload_n hm rfl rfl ?_
    refine x_aload_n hm rfl rfl ?_
    refine x_getf hm rfl (gR rfl rfl) ?_
    refine x_iconst hm rfl (v := nI 2) (by decide) ?_
    refine x_iald hm rfl (lI rfl (by omega) (by decide)) ?_
    rw [hnb]
    refine x_icmp_ge hm rfl (t := 68) rfl (fun h1 => ?_) (fun h1 => ?_)
    · refine x_iinc hm rfl rfl (v := nI 1) (by decide) rfl ?_
      rw [jI_add]
      refine x_goto hm rfl (t := 4) rfl ?_
      exact hout _ _
    · have hk : k < nb := Nat.lt_of_not_le fun h => h1 (nI_le h (by omega))
      refine x_iload_n hm rfl rfl ?_
      refine x_iload_n hm rfl rfl ?_
      refine x_iload_n hm rfl rfl ?_
      refine x_icmp_eq hm rfl (t := 59) rfl (fun h2 => ?_) (fun h2 => ?_)
      · refine x_iconst hm rfl (v := nI 0) (by decide) ?_
        refine x_iadd hm rfl ?_
        refine x_istore_n hm rfl rfl ?_
        refine x_iinc hm rfl rfl (v := nI 1) (by decide) rfl ?_
        rw [jI_add]
        refine x_goto hm rfl (t := 16) rfl ?_
        exact ih _ _ (by omega) (by omega)
      · refine x_aload_n hm rfl rfl ?_
        refine x_iload_n hm rfl rfl ?_
        refine x_aload_n hm rfl rfl ?_
        refine x_iload_n hm rfl rfl ?_
        refine x_cVe hm rfl rfl (t160 hI.1) (fun v3 r3 => ?_)
        refine x_cVe hm rfl rfl (t200 hI.1 (by omega)) (fun v4 r4 => ?_)
        refine x_aload_n hm rfl rfl ?_
        refine x_iload_n hm rfl rfl ?_
        refine x_aload_n hm rfl rfl ?_
        refine x_iload_n hm rfl rfl ?_
        refine x_cVe hm rfl rfl (t160 hI.1) (fun v5 r5 => ?_)
        refine x_cVe hm rfl rfl (t200 hI.1 (by omega)) (fun v6 r6 => ?_)
        refine x_icmp_le hm rfl (t := 59) rfl (fun h7 => ?_) (fun h7 => ?_)
        · refine x_iconst hm rfl (v := nI 0) (by decide) ?_
          refine x_iadd hm rfl ?_
          refine x_istore_n hm rfl rfl ?_
          refine x_iinc hm rfl rfl (v := nI 1) (by decide) rfl ?_
          rw [jI_add]
          refine x_goto hm rfl (t := 16) rfl ?_
          exact ih _ _ (by omega) (by omega)
        · refine x_iconst hm rfl (v := nI 1) (by decide) ?_
          refine x_goto hm rfl (t := 60) rfl ?_
          refine x_iadd hm rfl ?_
          refine x_istore_n hm rfl rfl ?_
          refine x_iinc hm rfl rfl (v := nI 1) (by decide) rfl ?_
          rw [jI_add]
          refine x_goto hm rfl (t := 16) rfl ?_
          exact ih _ _ (by omega) (by omega)
theorem l207a {nb : Nat} (hI : Inv M) (hnb : M 67 2 = nI nb) (h8 : nb ≤ 8) : ∀ (n k : Nat) (s : Int32) (x : Option Value), nb - k < n → k ≤ nb → mEv X (QI (fun _ M' => Iq M M')) 207 4 [some (.ref 66), some (.int s), some (.int (nI k)), x] [] (con M) := by
  have hm : mMet 207 = some _ := rfl
  intro n
  induction n with
  | zero =>
    intro k s x hkn hkb
    omega
  | succ n ih =>
    intro k s x hkn hkb
    refine x_iload_n hm rfl rfl ?_
    refine x_aload_n hm rfl rfl ?_
    refine x_getf hm rfl (gR rfl rfl) ?_
    refine x_iconst hm rfl (v := nI 2) (by decide) ?_
    refine x_iald hm rfl (lI rfl (by omega) (by decide)) ?_
    rw [hnb]
    refine x_icmp_ge hm rfl (t := 74) rfl (fun h1 => ?_) (fun h1 => ?_)
    · refine x_iload_n hm rfl rfl ?_
      refine x_iret hm rfl rfl (by first | rfl | exact bI_nar | decide) ?_
      exact ⟨_, _, rfl, rfl, by first | exact Iq.rf hI⟩
    · have hk : k < nb := Nat.lt_of_not_le fun h => h1 (nI_le h (by omega))
      refine x_iconst hm rfl (v := nI 0) (by decide) ?_
      refine x_istore_n hm rfl rfl ?_
      exact l207b hI hnb h8 hk (fun s x => ih _ _ _ (by omega) (by omega)) _ 0 _ (Nat.lt_succ_self _) (Nat.zero_le _)
theorem t207  (hI : Inv M) : ∃ v M', mT X 207 [.ref 66] (con M) (some (.int v)) (con M') ∧ Iq M M' := by
  refine ti_of (row := _) rfl (Nat.le_of_ble_eq_true rfl) ?_
  have hm : mMet 207 = some _ := rfl
  obtain ⟨nb, h8, hnb⟩ := hI.1.np
  refine x_iconst hm rfl (v := nI 0) (by decide) ?_
  refine x_istore_n hm rfl rfl ?_
  refine x_iconst hm rfl (v := nI 0) (by decide) ?_
  refine x_istore_n hm rfl rfl ?_
  exact l207a hI hnb h8 _ 0 _ _ (Nat.lt_succ_self _) (Nat.zero_le _)
end RH
