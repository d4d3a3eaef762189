section
/-! ===== the class, exactly: days ===== -/
section PD
variable {nt np : Nat} {r q : Nat → Int32} {w : Int32}
/-- what a thing's wear asks of the row -/
def Aw (r q : Nat → Int32) (t : Nat) : Prop := (∀ f, f < 6 → q (14 + 6 * t + f) = r (14 + 6 * t + f)) ∧ ∀ j, 62 ≤ j → q j = r j
theorem Aw.env {t p : Nat} {o : Int32} (h : Aw r q t) : sEnv q w o p t = sEnv r w o p t := by
  have h0 := h.1 0 (by decide)
  have h2 := h.1 2 (by decide)
  have h3 := h.1 3 (by decide)
  have hp : sPl q p t = sPl r p t := by
    unfold sPl
    rw [h0, h3, h.2 _ (by omega)]
  have hr : sRi q o p t = sRi r o p t := by
    unfold sRi
    rw [h.2 _ (by omega), hp]
  unfold sEnv
  rw [h2, h.2 _ (by omega), hp, hr]
theorem Aw.wear {t : Nat} (h : Aw r q t) : sWear q w np t = sWear r w np t := by
  unfold sWear sWs
  rw [h.1 2 (by decide), fo_c (g := fun p s => s + (if r (62 + 7 * p + 1) = r (14 + 6 * t + 1) then sEnv r w (r (14 + 6 * t + 4)) p t else nI 0))]
  intro p s _
  rw [h.2 _ (by omega), h.1 1 (by decide), h.1 4 (by decide), h.env]
theorem sWorn_o {r0 : Nat → Int32} : ∀ (n j : Nat), (∀ t, t < n → j ≠ 14 + 6 * t + 2) → sWorn r0 w np n r j = r j := by
  intro n
  induction n with
  | zero => intro j _; rfl
  | succ n ih =>
    intro j h
    show put1 (sWorn r0 w np n r) (14 + 6 * n + 2) _ j = _
    rw [put1_o (h n (Nat.lt_succ_self n)), ih j fun t ht => h t (by omega)]
theorem sWorn_aw {k : Nat} (h8 : k < 8) : Aw r (sWorn r w np k r) k := ⟨fun f hf => sWorn_o k _ (fun t ht => by omega), fun j hj => sWorn_o k _ (fun t ht => by omega)⟩
theorem sFp1_o {n j : Nat} {z : (Nat → Int32) × Int32} (h : j ≠ 14 + 6 * n + 2) : (sFp1 n z).1 j = z.1 j := by
  unfold sFp1
  split
  · exact put1_o h
  · rfl
theorem sFp_o : ∀ (n : Nat) (z : (Nat → Int32) × Int32) (j : Nat), (∀ t, t < n → j ≠ 14 + 6 * t + 2) → (fo sFp1 n z).1 j = z.1 j := by
  intro n
  induction n with
  | zero => intro z j _; rfl
  | succ n ih =>
    intro z j h
    show (sFp1 n (fo sFp1 n z)).1 j = _
    rw [sFp1_o (h n (Nat.lt_succ_self n)), ih z j fun t ht => h t (by omega)]
theorem sFall_o {n : Nat} : ∀ (f : Nat) (r : Nat → Int32) (j : Nat), (∀ t, t < n → j ≠ 14 + 6 * t + 2) → sFall n f r j = r j := by
  intro f
  induction f with
  | zero => intro r j _; rfl
  | succ f ih =>
    intro r j h
    unfold sFall
    split
    · exact sFp_o n _ j h
    · rw [ih _ j h]
      exact sFp_o n _ j h
theorem sGo_o : ∀ (n j : Nat), (∀ p, p < n → j ≠ 62 + 7 * p + 1) → sGo n r j = r j := by
  intro n
  induction n with
  | zero => intro j _; rfl
  | succ n ih =>
    intro j h
    show put1 (sGo n r) _ _ j = _
    rw [put1_o (h n (Nat.lt_succ_self n)), ih j fun t ht => h t (by omega)]
theorem sDay_o {j : Nat} (h0 : j ≠ 0) (h1 : ∀ t, t < nt → j ≠ 14 + 6 * t + 2) (h2 : ∀ p, p < np → j ≠ 62 + 7 * p + 1) : sDay w nt np r j = r j := by
  unfold sDay sTick
  rw [put1_o h0, sGo_o np j h2, sFall_o 8 _ j h1, sWorn_o nt j h1]
theorem Vs.day (h : Vs nt np r) : Vs nt np (sDay w nt np r) := by
  have h1 := h.1
  have h2 := h.2.1
  exact h.of (fun t f ht hf => sDay_o (by omega) (fun u hu => by omega) (fun p hp => by omega)) (fun p hp => sDay_o (by omega) (fun u hu => by omega) (fun p hp => by omega))
theorem Vs.days (h : Vs nt np r) : ∀ n, Vs nt np (sDays w nt np n r) := by
  intro n
  induction n with
  | zero => exact h
  | succ n ih => exact Vs.day ih
end PD
section ED
variable {X : mSc} {Q : Option Value → mHp → Prop} {M : mM} {b nt np : Nat} {r : Nat → Int32}
theorem e34 {a1 a2 : Int32} : mT X 34 [.int a1, .int a2] (con M) (some (.int (rem16 (a1 + a2)))) (con M) := by
  refine mT.of (row := _) rfl (Nat.le_of_ble_eq_true rfl) ?_
  have hm : mMet 34 = some _ := rfl
  refine x_iload_n hm rfl rfl ?_
  refine x_iload_n hm rfl rfl ?_
  refine x_iadd hm rfl ?_
  refine x_bipush hm rfl (v := nI 16) (by decide) ?_
  refine x_irem hm rfl (by decide) ?_
  refine x_iret hm rfl rfl (by first | rfl | exact bI_nar | decide) ?_
  exact ⟨rfl, rfl⟩
theorem m31b {i : Nat} {r1 : Nat → Int32} (hb : b = 1 ∨ b = 18 ∨ b = 35) (hV : Vs nt np r) (hr1 : ∀ t, t < nt → r1 (14 + 6 * t + 5) = r (14 + 6 * t + 5)) (hout : ∀ (g : Int32) (x3 x4 : Option Value) (M1 : mM) (q : Nat → Int32), sFp nt r1 = (q, g) → Tc b nt np q M M1 → mEv X (QV (fun M' => Tc b nt np (sFall nt 8 r) M M')) 31 4 [some (.ref b), some (.int g), some (.int (nI (i + 1))), x3, x4] [] (con M1)) : ∀ (n k : Nat) (g : Int32) (x4 : Option Value) (M1 : mM) (q : Nat → Int32), nt - k < n → k ≤ nt → fo sFp1 k (r1, nI 0) = (q, g) → Tc b nt np q M M1 → mEv X (QV (fun M' => Tc b nt np (sFall nt 8 r) M M')) 31 18 [some (.ref b), some (.int g), some (.int (nI i)), some (.int (nI k)), x4] [] (con M1) := by
  have hm : mMet 31 = some _ := rfl
  intro n
  induction n with
  | zero =>
    intro k g x4 M1 q hkn hkb hf hC
    omega
  | succ n ih =>
    intro k g x4 M1 q hkn hkb hf hC
    obtain ⟨hnb, hmb, -⟩ := id hC.1
    have hR1 := hC.1
    have h8 := hV.1
    have hp8 := hV.2.1
    have hq : ∀ t, t < nt → q (14 + 6 * t + 5) = r (14 + 6 * t + 5) := fun t ht => by
      rw [← show (fo sFp1 k (r1, nI 0)).1 = q from congrArg Prod.fst hf, sFp_o k _ _ (fun u hu => by omega)]
      exact hr1 t ht
    refine x_iload_n hm rfl rfl ?_
    refine x_aload_n hm rfl rfl ?_
    refine x_getf hm rfl (gI (tO hb) rfl) ?_
    rw [hnb]
    refine x_icmp_ge hm rfl (t := 76) rfl (fun h1 => ?_) (fun h1 => ?_)
    · obtain rfl : k = nt := Nat.le_antisymm hkb ((jI_le (by omega) (by omega)).mp h1)
      refine x_iinc hm rfl rfl (v := nI 1) (by decide) rfl ?_
      rw [jI_add]
      refine x_goto hm rfl (t := 4) rfl ?_
      exact hout _ _ _ _ _ hf hC
    · have hk : k < nt := Nat.lt_of_not_le fun h => h1 (nI_le h (by omega))
      have hon := (hq k hk).symm ▸ (hV.on hk)
      refine x_aload_n hm rfl rfl ?_
      refine x_getf hm rfl (gR (tO hb) rfl) ?_
      refine x_iconst hm rfl (v := nI 5) (by decide) ?_
      refine x_aald hm rfl (by first | exact lQ 3 (Or.inr (Or.inl rfl)) (tI hb) rfl (by omega) (by decide) | exact lQ 3 (Or.inr (Or.inl rfl)) (tF hb) rfl (by omega) (by decide) | exact lQ 3 (Or.inr (Or.inl rfl)) (tI hb) (tIk (by omega)) (by omega) (by decide) | exact lQ 3 (Or.inr (Or.inl rfl)) (tF hb) (tFk (by omega)) (by omega) (by decide)) ?_
      refine x_iload_n hm rfl rfl ?_
      refine x_iald hm rfl (by first | exact lI (tRow hb (by omega)) (by omega) (by decide) | exact lI (tRowI hb (by omega)) (by omega) (by decide) | exact lI (tRowF hb (by omega)) (by omega) (by decide) | exact lI (tSp hb) (by omega) (by decide) | exact lI rfl (by omega) (by decide)) ?_
      rw [hR1.on hk]
      refine x_istore hm rfl rfl ?_
      refine x_iload hm rfl rfl ?_
      refine x_iconst hm rfl (v := (-1 : Int32)) (by decide) ?_
      refine x_icmp_eq hm rfl (t := 70) rfl (fun h2 => ?_) (fun h2 => ?_)
      · have hz := sFp_s hf (sFpF (Or.inr (Or.inl (by rw [h2]; decide))))
        refine x_iinc hm rfl rfl (v := nI 1) (by decide) rfl ?_
        rw [jI_add]
        refine x_goto hm rfl (t := 18) rfl ?_
        first
          | exact ih _ _ _ _ _ (by omega) (by omega) hz hC
          | exact ih _ _ _ _ _ (by omega) (by omega) hz (hC.pi (f := 2) h8 (by decide) hk)
      · obtain ⟨w, hw, hw2⟩ := hon.resolve_left h2
        have hneg : ¬ q (14 + 6 * k + 5) < 0 := by rw [hw2]; exact jI_nn (by omega)
        refine x_aload_n hm rfl rfl ?_
        refine x_iload hm rfl rfl ?_
        rw [hw2]
        refine x_callV hm rfl (mCallT hb (by decide) rfl rfl rfl rfl rfl) (t32 hb (by omega)) ?_
        rw [hR1.thick hw]
        refine x_if_eq hm rfl (t := 70) rfl (fun h3 => ?_) (fun h3 => ?_)
        · have hz := sFp_s hf (sFpF (Or.inr (Or.inr (by rw [hw2, jI_nat (by omega)]; exact bI_eq0.mp h3))))
          refine x_iinc hm rfl rfl (v := nI 1) (by decide) rfl ?_
          rw [jI_add]
          refine x_goto hm rfl (t := 18) rfl ?_
          first
            | exact ih _ _ _ _ _ (by omega) (by omega) hz hC
            | exact ih _ _ _ _ _ (by omega) (by omega) hz (hC.pi (f := 2) h8 (by decide) hk)
        · have hgh := bI_ne0 h3
          refine x_aload_n hm rfl rfl ?_
          refine x_iload_n hm rfl rfl ?_
          refine x_callV hm rfl (mCallT hb (by decide) rfl rfl rfl rfl rfl) (t32 hb (by omega)) ?_
          rw [hR1.thick hk]
          refine x_if_ne hm rfl (t := 70) rfl (fun h4 => ?_) (fun h4 => ?_)
          · have hz := sFp_s hf (sFpF (Or.inl (bI_ne0 h4)))
            refine x_iinc hm rfl rfl (v := nI 1) (by decide) rfl ?_
            rw [jI_add]
            refine x_goto hm rfl (t := 18) rfl ?_
            first
              | exact ih _ _ _ _ _ (by omega) (by omega) hz hC
              | exact ih _ _ _ _ _ (by omega) (by omega) hz (hC.pi (f := 2) h8 (by decide) hk)
          · have hz := sFp_s hf (sFpT (bI_eq0.mp h4) hneg (by rw [hw2, jI_nat (by omega)]; exact hgh))
            refine x_aload_n hm rfl rfl ?_
            refine x_getf hm rfl (gR (tO hb) rfl) ?_
            refine x_iconst hm rfl (v := nI 2) (by decide) ?_
            refine x_aald hm rfl (by first | exact lQ 3 (Or.inr (Or.inl rfl)) (tI hb) rfl (by omega) (by decide) | exact lQ 3 (Or.inr (Or.inl rfl)) (tF hb) rfl (by omega) (by decide) | exact lQ 3 (Or.inr (Or.inl rfl)) (tI hb) (tIk (by omega)) (by omega) (by decide) | exact lQ 3 (Or.inr (Or.inl rfl)) (tF hb) (tFk (by omega)) (by omega) (by decide)) ?_
            refine x_iload_n hm rfl rfl ?_
            refine x_iconst hm rfl (v := nI 0) (by decide) ?_
            refine x_iast hm rfl (by first | exact sI (tRow hb (by omega)) (by omega) (by decide) | exact sI (tRowI hb (by omega)) (by omega) (by decide) | exact sI (tRowF hb (by omega)) (by omega) (by decide) | exact sI (tSp hb) (by omega) (by decide) | exact sI rfl (by omega) (by decide)) ?_
            refine x_iconst hm rfl (v := nI 1) (by decide) ?_
            refine x_istore_n hm rfl rfl ?_
            refine x_iinc hm rfl rfl (v := nI 1) (by decide) rfl ?_
            rw [jI_add]
            refine x_goto hm rfl (t := 18) rfl ?_
            first
              | exact ih _ _ _ _ _ (by omega) (by omega) hz hC
              | exact ih _ _ _ _ _ (by omega) (by omega) hz (hC.pi (f := 2) h8 (by decide) hk)
theorem m31a (hb : b = 1 ∨ b = 18 ∨ b = 35) (hV : Vs nt np r) : ∀ (n i : Nat) (g : Int32) (x3 x4 : Option Value) (M1 : mM) (q : Nat → Int32), 8 - i < n → i ≤ 8 → Tc b nt np q M M1 → (∀ t, t < nt → q (14 + 6 * t + 5) = r (14 + 6 * t + 5)) → (g = 0 → q = sFall nt 8 r) → (¬ g = 0 → sFall nt (8 - i) q = sFall nt 8 r) → mEv X (QV (fun M' => Tc b nt np (sFall nt 8 r) M M')) 31 4 [some (.ref b), some (.int g), some (.int (nI i)), x3, x4] [] (con M1) := by
  have hm : mMet 31 = some _ := rfl
  intro n
  induction n with
  | zero =>
    intro i g x3 x4 M1 q hin hi hC hq hg0 hg1
    omega
  | succ n ih =>
    intro i g x3 x4 M1 q hin hi hC hq hg0 hg1
    refine x_iload_n hm rfl rfl ?_
    refine x_bipush hm rfl (v := nI 8) (by decide) ?_
    refine x_icmp_ge hm rfl (t := 82) rfl (fun h1 => ?_) (fun h1 => ?_)
    · obtain rfl : i = 8 := Nat.le_antisymm hi ((jI_le (by decide) (by omega)).mp h1)
      have hR8 : q = sFall nt 8 r := by
        by_cases e : g = 0
        · exact hg0 e
        · exact hg1 e
      refine x_ret hm rfl rfl ?_
      rw [← hR8]
      exact ⟨_, rfl, rfl, hC⟩
    · have hk : i < 8 := Nat.lt_of_not_le fun h => h1 (nI_le h (by omega))
      refine x_iload_n hm rfl rfl ?_
      refine x_if_eq hm rfl (t := 82) rfl (fun h2 => ?_) (fun h2 => ?_)
      · have hR8 := hg0 h2
        refine x_ret hm rfl rfl ?_
        rw [← hR8]
        exact ⟨_, rfl, rfl, hC⟩
      · have hR9 := hg1 h2
        refine x_iconst hm rfl (v := nI 0) (by decide) ?_
        refine x_istore_n hm rfl rfl ?_
        refine x_iconst hm rfl (v := nI 0) (by decide) ?_
        refine x_istore_n hm rfl rfl ?_
        refine m31b hb hV hq (fun g x3 x4 M2 q2 hf h => ?_) _ 0 _ _ _ _ (Nat.lt_succ_self _) (Nat.zero_le _) rfl hC
        have e8 : 8 - i = (8 - (i + 1)) + 1 := by omega
        rw [e8] at hR9
        have hR10 : (if (sFp nt q).2 = nI 0 then (sFp nt q).1 else sFall nt (8 - (i + 1)) (sFp nt q).1) = sFall nt 8 r := hR9
        rw [hf] at hR10
        refine ih _ _ _ _ _ _ (by omega) (by omega) h (fun t ht => ?_) (fun e => ?_) (fun e => ?_)
        · rw [← show (sFp nt q).1 = q2 from congrArg Prod.fst hf]
          exact (sFp_o nt _ _ (fun u hu => by omega)).trans (hq t ht)
        · rw [if_pos (show (q2, g).2 = nI 0 from e)] at hR10
          exact hR10
        · rw [if_neg (show ¬ (q2, g).2 = nI 0 from e)] at hR10
          exact hR10
theorem e31 (hb : b = 1 ∨ b = 18 ∨ b = 35) (hR : Rel b nt np M r) (hV : Vs nt np r) : ∃ M', mT X 31 [.ref b] (con M) none (con M') ∧ Tc b nt np (sFall nt 8 r) M M' := by
  refine tv_of (row := _) rfl (Nat.le_of_ble_eq_true rfl) ?_
  have hm : mMet 31 = some _ := rfl
  refine x_iconst hm rfl (v := nI 1) (by decide) ?_
  refine x_istore_n hm rfl rfl ?_
  refine x_iconst hm rfl (v := nI 0) (by decide) ?_
  refine x_istore_n hm rfl rfl ?_
  exact m31a hb hV _ 0 _ _ _ _ _ (Nat.lt_succ_self _) (Nat.zero_le _) hR.tc (fun _ _ => rfl) (fun e => absurd e (by decide)) (fun _ => rfl)
theorem m33 (hb : b = 1 ∨ b = 18 ∨ b = 35) (hV : Vs nt np r) : ∀ (n k : Nat) (M1 : mM), np - k < n → k ≤ np → Tc b nt np (sGo k r) M M1 → mEv X (QV (fun M' => Tc b nt np (sGo np r) M M')) 33 2 [some (.ref b), some (.int (nI k))] [] (con M1) := by
  have hm : mMet 33 = some _ := rfl
  intro n
  induction n with
  | zero =>
    intro k M1 hkn hkb hC
    omega
  | succ n ih =>
    intro k M1 hkn hkb hC
    obtain ⟨hnb, hmb, -⟩ := id hC.1
    have hR1 := hC.1
    have h8 := hV.1
    have hp8 := hV.2.1
    refine x_iload_n hm rfl rfl ?_
    refine x_aload_n hm rfl rfl ?_
    refine x_getf hm rfl (gI (tO hb) rfl) ?_
    rw [hmb]
    refine x_icmp_ge hm rfl (t := 43) rfl (fun h1 => ?_) (fun h1 => ?_)
    · obtain rfl : k = np := Nat.le_antisymm hkb ((jI_le (by omega) (by omega)).mp h1)
      refine x_ret hm rfl rfl ?_
      exact ⟨_, rfl, rfl, hC⟩
    · have hk : k < np := Nat.lt_of_not_le fun h => h1 (nI_le h (by omega))
      refine x_aload_n hm rfl rfl ?_
      refine x_getf hm rfl (gR (tO hb) rfl) ?_
      refine x_iconst hm rfl (v := nI 1) (by decide) ?_
      refine x_aald hm rfl (by first | exact lQ 3 (Or.inr (Or.inl rfl)) (tI hb) rfl (by omega) (by decide) | exact lQ 3 (Or.inr (Or.inl rfl)) (tF hb) rfl (by omega) (by decide) | exact lQ 3 (Or.inr (Or.inl rfl)) (tI hb) (tIk (by omega)) (by omega) (by decide) | exact lQ 3 (Or.inr (Or.inl rfl)) (tF hb) (tFk (by omega)) (by omega) (by decide)) ?_
      refine x_iload_n hm rfl rfl ?_
      refine x_aload_n hm rfl rfl ?_
      refine x_getf hm rfl (gR (tO hb) rfl) ?_
      refine x_iconst hm rfl (v := nI 1) (by decide) ?_
      refine x_aald hm rfl (by first | exact lQ 3 (Or.inr (Or.inl rfl)) (tI hb) rfl (by omega) (by decide) | exact lQ 3 (Or.inr (Or.inl rfl)) (tF hb) rfl (by omega) (by decide) | exact lQ 3 (Or.inr (Or.inl rfl)) (tI hb) (tIk (by omega)) (by omega) (by decide) | exact lQ 3 (Or.inr (Or.inl rfl)) (tF hb) (tFk (by omega)) (by omega) (by decide)) ?_
      refine x_iload_n hm rfl rfl ?_
      refine x_iald hm rfl (by first | exact lI (tRow hb (by omega)) (by omega) (by decide) | exact lI (tRowI hb (by omega)) (by omega) (by decide) | exact lI (tRowF hb (by omega)) (by omega) (by decide) | exact lI (tSp hb) (by omega) (by decide) | exact lI rfl (by omega) (by decide)) ?_
      rw [hR1.pat hk]
      refine x_aload_n hm rfl rfl ?_
      refine x_getf hm rfl (gR (tO hb) rfl) ?_
      refine x_iconst hm rfl (v := nI 2) (by decide) ?_
      refine x_aald hm rfl (by first | exact lQ 3 (Or.inr (Or.inl rfl)) (tI hb) rfl (by omega) (by decide) | exact lQ 3 (Or.inr (Or.inl rfl)) (tF hb) rfl (by omega) (by decide) | exact lQ 3 (Or.inr (Or.inl rfl)) (tI hb) (tIk (by omega)) (by omega) (by decide) | exact lQ 3 (Or.inr (Or.inl rfl)) (tF hb) (tFk (by omega)) (by omega) (by decide)) ?_
      refine x_iload_n hm rfl rfl ?_
      refine x_iald hm rfl (by first | exact lI (tRow hb (by omega)) (by omega) (by decide) | exact lI (tRowI hb (by omega)) (by omega) (by decide) | exact lI (tRowF hb (by omega)) (by omega) (by decide) | exact lI (tSp hb) (by omega) (by decide) | exact lI rfl (by omega) (by decide)) ?_
      rw [hR1.walk hk]
      refine x_callS hm rfl rfl (e34) ?_
      refine x_iast hm rfl (by first | exact sI (tRow hb (by omega)) (by omega) (by decide) | exact sI (tRowI hb (by omega)) (by omega) (by decide) | exact sI (tRowF hb (by omega)) (by omega) (by decide) | exact sI (tSp hb) (by omega) (by decide) | exact sI rfl (by omega) (by decide)) ?_
      refine x_iinc hm rfl rfl (v := nI 1) (by decide) rfl ?_
      rw [jI_add]
      refine x_goto hm rfl (t := 2) rfl ?_
      exact ih (k + 1) _ (by omega) (by omega) (hC.pf (f := 1) h8 (by decide) hk)
theorem e33 (hb : b = 1 ∨ b = 18 ∨ b = 35) (hR : Rel b nt np M r) (hV : Vs nt np r) : ∃ M', mT X 33 [.ref b] (con M) none (con M') ∧ Tc b nt np (sGo np r) M M' := by
  refine tv_of (row := _) rfl (Nat.le_of_ble_eq_true rfl) ?_
  have hm : mMet 33 = some _ := rfl
  refine x_iconst hm rfl (v := nI 0) (by decide) ?_
  refine x_istore_n hm rfl rfl ?_
  exact m33 hb hV _ 0 _ (Nat.lt_succ_self _) (Nat.zero_le _) hR.tc
theorem m30b {a i : Nat} (hb : b = 1 ∨ b = 18 ∨ b = 35) (hV : Vs nt np r) (hout : ∀ (x3 : Option Value) (M1 : mM), Tc b nt np (sDays (M b 7) nt np (i + 1) r) M M1 → mEv X (QV (fun M' => Tc b nt np (sDays (M b 7) nt np a r) M M')) 30 2 [some (.ref b), some (.int (nI a)), some (.int (nI (i + 1))), x3] [] (con M1)) : ∀ (n k : Nat) (M1 : mM), nt - k < n → k ≤ nt → Tc b nt np (sWorn (sDays (M b 7) nt np i r) (M b 7) np k (sDays (M b 7) nt np i r)) M M1 → mEv X (QV (fun M' => Tc b nt np (sDays (M b 7) nt np a r) M M')) 30 9 [some (.ref b), some (.int (nI a)), some (.int (nI i)), some (.int (nI k))] [] (con M1) := by
  have hm : mMet 30 = some _ := rfl
  intro n
  induction n with
  | zero =>
    intro k M1 hkn hkb hC
    omega
  | succ n ih =>
    intro k M1 hkn hkb hC
    obtain ⟨hnb, hmb, -⟩ := id hC.1
    have hR1 := hC.1
    have h8 := hV.1
    have hp8 := hV.2.1
    have hV0 := hV.days (w := M b 7) i
    have hV1 : Vs nt np (sWorn (sDays (M b 7) nt np i r) (M b 7) np k (sDays (M b 7) nt np i r)) := hV0.of (fun t f ht hf => sWorn_o k _ (fun u hu => by omega)) (fun p hp => sWorn_o k _ (fun u hu => by omega))
    refine x_iload_n hm rfl rfl ?_
    refine x_aload_n hm rfl rfl ?_
    refine x_getf hm rfl (gI (tO hb) rfl) ?_
    rw [hnb]
    refine x_icmp_ge hm rfl (t := 39) rfl (fun h1 => ?_) (fun h1 => ?_)
    · have hkn : k = nt := Nat.le_antisymm hkb ((jI_le (by omega) (by omega)).mp h1)
      have hV2 : Vs nt np (sFall nt 8 (sWorn (sDays (M b 7) nt np i r) (M b 7) np k (sDays (M b 7) nt np i r))) := hV1.of (fun t f ht hf => sFall_o 8 _ _ (fun u hu => by omega)) (fun p hp => sFall_o 8 _ _ (fun u hu => by omega))
      refine x_aload_n hm rfl rfl ?_
      refine x_cVv hm rfl (mCallT hb (by decide) rfl rfl rfl rfl rfl) (e31 hb hC.1 hV1) (fun M2 r2 => ?_)
      refine x_aload_n hm rfl rfl ?_
      refine x_cVv hm rfl (mCallT hb (by decide) rfl rfl rfl rfl rfl) (e33 hb r2.1 hV2) (fun M3 r3 => ?_)
      refine x_aload_n hm rfl rfl ?_
      refine x_dup hm rfl rfl ?_
      refine x_getf hm rfl (gI (tO hb) rfl) ?_
      first
        | rw [r3.1.2.2.1]
        | rw [r5.1.2.2.1]
        | rw [r4.1.2.2.1]
      refine x_iconst hm rfl (v := nI 1) (by decide) ?_
      refine x_iadd hm rfl ?_
      refine x_putf hm rfl (pI (tO hb) rfl (by decide) (by first | exact mFit_int | rfl | decide) rfl) ?_
      refine x_iinc hm rfl rfl (v := nI 1) (by decide) rfl ?_
      rw [jI_add]
      refine x_goto hm rfl (t := 2) rfl ?_
      obtain rfl := hkn
      first
        | exact hout _ _ ((hC.to (r2.to r5)).pd)
        | exact hout _ _ ((hC.to (r2.to r4)).pd)
        | exact hout _ _ ((hC.to (r2.to r3)).pd)
    · have hk : k < nt := Nat.lt_of_not_le fun h => h1 (nI_le h (by omega))
      refine x_aload_n hm rfl rfl ?_
      refine x_getf hm rfl (gR (tO hb) rfl) ?_
      refine x_iconst hm rfl (v := nI 2) (by decide) ?_
      refine x_aald hm rfl (by first | exact lQ 3 (Or.inr (Or.inl rfl)) (tI hb) rfl (by omega) (by decide) | exact lQ 3 (Or.inr (Or.inl rfl)) (tF hb) rfl (by omega) (by decide) | exact lQ 3 (Or.inr (Or.inl rfl)) (tI hb) (tIk (by omega)) (by omega) (by decide) | exact lQ 3 (Or.inr (Or.inl rfl)) (tF hb) (tFk (by omega)) (by omega) (by decide)) ?_
      refine x_iload_n hm rfl rfl ?_
      refine x_dup2 hm rfl rfl rfl ?_
      refine x_iald hm rfl (by first | exact lI (tRow hb (by omega)) (by omega) (by decide) | exact lI (tRowI hb (by omega)) (by omega) (by decide) | exact lI (tRowF hb (by omega)) (by omega) (by decide) | exact lI (tSp hb) (by omega) (by decide) | exact lI rfl (by omega) (by decide)) ?_
      rw [hR1.thick hk]
      refine x_aload_n hm rfl rfl ?_
      refine x_iload_n hm rfl rfl ?_
      refine x_callV hm rfl (mCallT hb (by decide) rfl rfl rfl rfl rfl) (e11 hb hR1 hV1 hk) ?_
      rw [hC.2.1, (sWorn_aw (by omega)).wear]
      refine x_isub hm rfl ?_
      refine x_iast hm rfl (by first | exact sI (tRow hb (by omega)) (by omega) (by decide) | exact sI (tRowI hb (by omega)) (by omega) (by decide) | exact sI (tRowF hb (by omega)) (by omega) (by decide) | exact sI (tSp hb) (by omega) (by decide) | exact sI rfl (by omega) (by decide)) ?_
      refine x_iinc hm rfl rfl (v := nI 1) (by decide) rfl ?_
      rw [jI_add]
      refine x_goto hm rfl (t := 9) rfl ?_
      exact ih (k + 1) _ (by omega) (by omega) (hC.pi (f := 2) h8 (by decide) hk)
theorem m30a {a : Nat} (hb : b = 1 ∨ b = 18 ∨ b = 35) (hV : Vs nt np r) (ha : a ≤ 1000) : ∀ (n i : Nat) (x3 : Option Value) (M1 : mM), a - i < n → i ≤ a → Tc b nt np (sDays (M b 7) nt np i r) M M1 → mEv X (QV (fun M' => Tc b nt np (sDays (M b 7) nt np a r) M M')) 30 2 [some (.ref b), some (.int (nI a)), some (.int (nI i)), x3] [] (con M1) := by
  have hm : mMet 30 = some _ := rfl
  intro n
  induction n with
  | zero =>
    intro i x3 M1 hin hi hC
    omega
  | succ n ih =>
    intro i x3 M1 hin hi hC
    refine x_iload_n hm rfl rfl ?_
    refine x_iload_n hm rfl rfl ?_
    refine x_icmp_ge hm rfl (t := 63) rfl (fun h1 => ?_) (fun h1 => ?_)
    · obtain rfl : i = a := Nat.le_antisymm hi ((jI_le (by omega) (by omega)).mp h1)
      refine x_ret hm rfl rfl ?_
      exact ⟨_, rfl, rfl, hC⟩
    · have hk : i < a := Nat.lt_of_not_le fun h => h1 (nI_le h (by omega))
      refine x_iconst hm rfl (v := nI 0) (by decide) ?_
      refine x_istore_n hm rfl rfl ?_
      exact m30b hb hV (fun x3 M2 h => ih (i + 1) _ _ (by omega) (by omega) h) _ 0 _ (Nat.lt_succ_self _) (Nat.zero_le _) hC
theorem e30 {a : Nat} (hb : b = 1 ∨ b = 18 ∨ b = 35) (hR : Rel b nt np M r) (hV : Vs nt np r) (ha : a ≤ 1000) : ∃ M', mT X 30 [.ref b, .int (nI a)] (con M) none (con M') ∧ Tc b nt np (sDays (M b 7) nt np a r) M M' := by
  refine tv_of (row := _) rfl (Nat.le_of_ble_eq_true rfl) ?_
  have hm : mMet 30 = some _ := rfl
  refine x_iconst hm rfl (v := nI 0) (by decide) ?_
  refine x_istore_n hm rfl rfl ?_
  exact m30a hb hV ha _ 0 _ _ (Nat.lt_succ_self _) (Nat.zero_le _) hR.tc
end ED
end
section
/-! ===== the reference, exactly: trials ===== -/
section EF
variable {X : mSc} {Q : Option Value → mHp → Prop} {M : mM}
/-- a finding counted -/
def fndR (M : mM) (v : Int32) : mM := mput (mput M 70 ((-1000001 : Int32) - v + nI 1).toNatClampNeg (M 70 ((-1000001 : Int32) - v + nI 1).toNatClampNeg + nI 1)) 70 0 (mput M 70 ((-1000001 : Int32) - v + nI 1).toNatClampNeg (M 70 ((-1000001 : Int32) - v + nI 1).toNatClampNeg + nI 1) 70 0 + nI 1)
/-- what asking leaves of the reference -/
def Kq (M M' : mM) : Prop := (Wf M → Wf M') ∧ (∀ a, a ≠ 66 → a ≠ 69 → a ≠ 70 → a ≠ 71 → a ≠ 72 → M' a = M a) ∧ M' 66 3 = M 66 3 ∧ M' 66 6 = M 66 6 ∧ M' 66 9 = M 66 9
def Fq (q : Int32 × Bool) (M M' : mM) : Prop := M' 70 = if q.2 = true then fndR M q.1 70 else M 70
theorem Kq.rf : Kq M M := ⟨fun h => h, fun _ _ _ _ _ _ => rfl, rfl, rfl, rfl⟩
theorem Kq.to {M1 M2 : mM} (h : Kq M M1) (g : Kq M1 M2) : Kq M M2 := ⟨fun w => g.1 (h.1 w), fun a h1 h2 h3 h4 h5 => (g.2.1 a h1 h2 h3 h4 h5).trans (h.2.1 a h1 h2 h3 h4 h5), g.2.2.1.trans h.2.2.1, g.2.2.2.1.trans h.2.2.2.1, g.2.2.2.2.trans h.2.2.2.2⟩
theorem fndR_kq {v : Int32} : Kq M (fndR M v) := ⟨fun h => (h.put0 (kd70 _)).put0 (kd70 _), fun a _ _ h3 _ _ => (mpo h3).trans (mpo h3), congrFun ((mpo (by decide)).trans (mpo (by decide))) 3, congrFun ((mpo (by decide)).trans (mpo (by decide))) 6, congrFun ((mpo (by decide)).trans (mpo (by decide))) 9⟩
theorem fndR_fq {v : Int32} : Fq (v, true) M (fndR M v) := rfl
theorem fndR_70 {M1 : mM} {v : Int32} (e : M1 70 = M 70) : fndR M1 v 70 = fndR M v 70 := by
  funext j
  unfold fndR mput
  simp only [e]
theorem Fq.of {q : Int32 × Bool} {M1 M2 : mM} (h : Fq q M1 M2) (e : M1 70 = M 70) : Fq q M M2 := by
  unfold Fq at h ⊢
  rw [h, e, fndR_70 e]
/-- days in a trial, put back -/
def Kr (M M' : mM) : Prop := (Wf M → Wf M') ∧ ∀ a, a ≠ 69 → a ≠ 71 → M' a = M a
theorem Kr.rf : Kr M M := ⟨fun h => h, fun _ _ _ => rfl⟩
theorem Kr.to {M1 M2 : mM} (h : Kr M M1) (g : Kr M1 M2) : Kr M M2 := ⟨fun w => g.1 (h.1 w), fun a h1 h2 => (g.2 a h1 h2).trans (h.2 a h1 h2)⟩
theorem Kr.kq {M1 : mM} (h : Kr M M1) : Kq M M1 := ⟨h.1, fun a _ h2 _ h4 _ => h.2 a h2 h4, by rw [h.2 66 (by decide) (by decide)], by rw [h.2 66 (by decide) (by decide)], by rw [h.2 66 (by decide) (by decide)]⟩
theorem Kr.fq {M1 : mM} {v : Int32} (h : Kr M M1) : Fq (v, false) M M1 := h.2 70 (by decide) (by decide)
theorem sWorn_118 {r0 r : Nat → Int32} {w : Int32} {np n j : Nat} (h8 : n ≤ 8) (hj : 118 ≤ j) : sWorn r0 w np n r j = r j := sWorn_o n j (fun t ht => by omega)
theorem sDays_118 {r : Nat → Int32} {w : Int32} {nt np j : Nat} (h8 : nt ≤ 8) (hp : np ≤ 8) (hj : 118 ≤ j) : ∀ n, sDays w nt np n r j = r j := by
  intro n
  induction n with
  | zero => rfl
  | succ n ih => exact (sDay_o (by omega) (fun t ht => by omega) (fun p hp => by omega)).trans ih
theorem Kr.back {M2 : mM} {q : Nat → Int32} (h : Dy (cp M 67 69 118) M2) (g : Dd q (cp M 67 69 118) M2) (hq : ∀ j, 118 ≤ j → q j = M 67 j) : Kr M (cp M2 69 67 118) := by
  refine ⟨(Sf.trial h).1, fun a h1 h2 => ?_⟩
  by_cases e : a = 67
  · subst e
    funext j
    by_cases hj : j < 118
    · rw [cp_b hj, h.2, cp_b hj]
    · show (if 67 = 67 ∧ j < 118 then M2 69 j else M2 67 j) = _
      rw [if_neg (fun z => hj z.2), g.1, hq j (by omega)]
  · rw [cp_o e, g.2 a e h2, cp_o h1]
theorem e135 {v : Int32} (hv : FD v) : mT X 135 [.ref 66, .int v] (con M) (some (.int v)) (con (fndR M v)) := by
  refine mT.of (row := _) rfl (Nat.le_of_ble_eq_true rfl) ?_
  have hm : mMet 135 = some _ := rfl
  obtain ⟨k, hk, he⟩ := FD_k hv
  have hn : ((-1000001 : Int32) - v + nI 1).toNatClampNeg = k := by rw [he, jI_nat (by omega)]
  unfold fndR
  rw [hn]
  refine x_aload_n hm rfl rfl ?_
  refine x_getf hm rfl (gR rfl rfl) ?_
  refine x_ldcI hm rfl (v := (-1000001 : Int32)) (by decide +kernel) ?_
  refine x_iload_n hm rfl rfl ?_
  refine x_isub hm rfl ?_
  refine x_iconst hm rfl (v := nI 1) (by decide) ?_
  refine x_iadd hm rfl ?_
  rw [he]
  refine x_dup2 hm rfl rfl rfl ?_
  refine x_iald hm rfl (lI rfl (by omega) (by decide)) ?_
  refine x_iconst hm rfl (v := nI 1) (by decide) ?_
  refine x_iadd hm rfl ?_
  refine x_iast hm rfl (sI rfl (by omega) (by decide)) ?_
  refine x_aload_n hm rfl rfl ?_
  refine x_getf hm rfl (gR rfl rfl) ?_
  refine x_iconst hm rfl (v := nI 0) (by decide) ?_
  refine x_dup2 hm rfl rfl rfl ?_
  refine x_iald hm rfl (lI rfl (by omega) (by decide)) ?_
  refine x_iconst hm rfl (v := nI 1) (by decide) ?_
  refine x_iadd hm rfl ?_
  refine x_iast hm rfl (sI rfl (by omega) (by decide)) ?_
  refine x_iload_n hm rfl rfl ?_
  refine x_iret hm rfl rfl (by first | rfl | exact bI_nar | decide) ?_
  exact ⟨rfl, rfl⟩
theorem f164 {a : Nat} {nt np : Nat} (hW : Wf M) (hnt : M 67 1 = nI nt) (hn8 : nt ≤ 8) (hnp : M 67 2 = nI np) (hp8 : np ≤ 8) (ha : a ≤ 1000) : ∃ M', mT X 164 [.ref 66, .int (nI a)] (con (cp M 67 69 118)) none (con M') ∧ Dy (cp M 67 69 118) M' ∧ Dd (sDays (M 66 6) nt np a (M 67)) (cp M 67 69 118) M' := by
  have h := e164 (X := X) (M := cp M 67 69 118) (a := a) hW.aside (by rw [cp_o (by decide)]; exact hnt) hn8 (by rw [cp_o (by decide)]; exact hnp) hp8 ha
  rw [cp_o (by decide), cp_o (by decide)] at h
  exact h
theorem e173 {t a : Nat} {nt np : Nat} (hW : Wf M) (hnt : M 67 1 = nI nt) (hn8 : nt ≤ 8) (hnp : M 67 2 = nI np) (hp8 : np ≤ 8) (ht : t < 8) (ha : a ≤ 1000) : ∃ v M', mT X 173 [.ref 66, .int (nI t), .int (nI a)] (con M) (some (.int v)) (con M') ∧ v = sDays (M 66 6) nt np a (M 67) (14 + 6 * t + 2) ∧ Kr M M' := by
  refine ti_of (row := _) rfl (Nat.le_of_ble_eq_true rfl) ?_
  have hm : mMet 173 = some _ := rfl
  refine x_aload_n hm rfl rfl ?_
  refine x_getf hm rfl (gR rfl rfl) ?_
  refine x_aload_n hm rfl rfl ?_
  refine x_getf hm rfl (gR rfl rfl) ?_
  refine x_callS hm rfl rfl (t174 rfl rfl (by decide)) ?_
  refine x_aload_n hm rfl rfl ?_
  refine x_iload_n hm rfl rfl ?_
  refine x_cVv hm rfl rfl (f164 hW hnt hn8 hnp hp8 (by omega)) (fun M1 r1 => ?_)
  refine x_aload_n hm rfl rfl ?_
  refine x_aload_n hm rfl rfl ?_
  refine x_iload_n hm rfl rfl ?_
  refine x_iconst hm rfl (v := nI 2) (by decide) ?_
  refine x_callV hm rfl rfl (t143 (by omega) (by omega)) ?_
  refine x_callV hm rfl rfl (t175) ?_
  refine x_iret hm rfl rfl (by first | rfl | exact bI_nar | decide) ?_
  exact ⟨_, _, rfl, rfl, congrFun r1.2.1 _, Kr.back r1.1 r1.2 (fun j hj => sDays_118 hn8 hp8 hj _)⟩
theorem e180 {a : Nat} {nt np : Nat} (hW : Wf M) (hnt : M 67 1 = nI nt) (hn8 : nt ≤ 8) (hnp : M 67 2 = nI np) (hp8 : np ≤ 8) (ha : a ≤ 1000) : ∃ v M', mT X 180 [.ref 66, .int (nI a)] (con M) (some (.int v)) (con M') ∧ v = sThick (M 67) nt - sThick (sDays (M 66 6) nt np a (M 67)) nt ∧ Kr M M' := by
  refine ti_of (row := _) rfl (Nat.le_of_ble_eq_true rfl) ?_
  have hm : mMet 180 = some _ := rfl
  refine x_aload_n hm rfl rfl ?_
  refine x_callV hm rfl rfl (e170 hnt hn8) ?_
  refine x_istore_n hm rfl rfl ?_
  refine x_aload_n hm rfl rfl ?_
  refine x_getf hm rfl (gR rfl rfl) ?_
  refine x_aload_n hm rfl rfl ?_
  refine x_getf hm rfl (gR rfl rfl) ?_
  refine x_callS hm rfl rfl (t174 rfl rfl (by decide)) ?_
  refine x_aload_n hm rfl rfl ?_
  refine x_iload_n hm rfl rfl ?_
  refine x_cVv hm rfl rfl (f164 hW hnt hn8 hnp hp8 (by omega)) (fun M1 r1 => ?_)
  refine x_aload_n hm rfl rfl ?_
  refine x_iload_n hm rfl rfl ?_
  refine x_aload_n hm rfl rfl ?_
  refine x_callV hm rfl rfl (e170 (r1.1.1.2.1.trans ((congrFun (cp_o (by decide)) 1).trans hnt)) hn8) ?_
  refine x_isub hm rfl ?_
  refine x_callV hm rfl rfl (t175) ?_
  refine x_iret hm rfl rfl (by first | rfl | exact bI_nar | decide) ?_
  exact ⟨_, _, rfl, rfl, by rw [r1.2.1], Kr.back r1.1 r1.2 (fun j hj => sDays_118 hn8 hp8 hj _)⟩
def orN (v : Int32) : Int32 × Bool := if 0 ≤ v then (v, false) else (-1000004, true)
theorem e177 {v : Int32} : ∃ v' M', mT X 177 [.ref 66, .int v] (con M) (some (.int v')) (con M') ∧ v' = (orN v).1 ∧ Kq M M' ∧ Fq (orN v) M M' := by
  refine ti_of (row := _) rfl (Nat.le_of_ble_eq_true rfl) ?_
  have hm : mMet 177 = some _ := rfl
  refine x_iload_n hm rfl rfl ?_
  refine x_if_ge hm rfl (t := 13) rfl (fun h1 => ?_) (fun h1 => ?_)
  · refine x_iload_n hm rfl rfl ?_
    refine x_iret hm rfl rfl (by first | rfl | exact bI_nar | decide) ?_
    first
      | exact ⟨_, _, rfl, rfl, by unfold orN; rw [if_pos (by assumption)], Kq.rf, by unfold orN; rw [if_pos (by assumption)]; exact rfl⟩
      | exact ⟨_, _, rfl, rfl, by unfold orN; rw [if_neg (by assumption)], fndR_kq, by unfold orN; rw [if_neg (by assumption)]; exact fndR_fq⟩
  · refine x_aload_n hm rfl rfl ?_
    refine x_ldcI hm rfl (v := (-1000004 : Int32)) (by decide +kernel) ?_
    refine x_callV hm rfl rfl (e135 (by decide +kernel)) ?_
    refine x_goto hm rfl (t := 14) rfl ?_
    refine x_iret hm rfl rfl (by first | rfl | exact bI_nar | decide) ?_
    first
      | exact ⟨_, _, rfl, rfl, by unfold orN; rw [if_pos (by assumption)], Kq.rf, by unfold orN; rw [if_pos (by assumption)]; exact rfl⟩
      | exact ⟨_, _, rfl, rfl, by unfold orN; rw [if_neg (by assumption)], fndR_kq, by unfold orN; rw [if_neg (by assumption)]; exact fndR_fq⟩
def sLl (r : Nat → Int32) (w : Int32) (nt np n pl k : Nat) (z : Int32 × Int32) : Int32 × Int32 :=
  (if sThick (put1 r pl (nI k)) nt - sThick (sDays w nt np n (put1 r pl (nI k))) nt < z.2 then nI k else z.1, mn2 z.2 (sThick (put1 r pl (nI k)) nt - sThick (sDays w nt np n (put1 r pl (nI k))) nt))
def sTk (r : Nat → Int32) (w : Int32) (nt np n t pl k : Nat) (z : Int32 × Int32) : Int32 × Int32 :=
  (if z.2 < sDays w nt np n (put1 r pl (nI k)) (14 + 6 * t + 2) then nI k else z.1, if z.2 < sDays w nt np n (put1 r pl (nI k)) (14 + 6 * t + 2) then sDays w nt np n (put1 r pl (nI k)) (14 + 6 * t + 2) else z.2)
/-- one number of the row tried -/
def Ky (pl : Nat) (M M1 : mM) : Prop := Sf M M1 ∧ (∀ v, put1 (M1 67) pl v = put1 (M 67) pl v) ∧ ∀ a, a ≠ 67 → a ≠ 69 → a ≠ 71 → M1 a = M a
theorem put1_2 {r : Nat → Int32} {i : Nat} {v w : Int32} : put1 (put1 r i v) i w = put1 r i w := by
  funext j
  unfold put1
  split <;> rfl
theorem put1_e {r : Nat → Int32} {i : Nat} : put1 r i (r i) = r := by
  funext j
  unfold put1
  split
  · rename_i h; rw [h]
  · rfl
theorem Ky.rf {pl : Nat} : Ky pl M M := ⟨Sf.rf, fun _ => rfl, fun _ _ _ _ => rfl⟩
theorem Ky.put {pl : Nat} {v : Int32} {M1 : mM} (h : Ky pl M M1) (hs : Sf M1 (mput M1 67 pl v)) : Ky pl M (mput M1 67 pl v) ∧ mput M1 67 pl v 67 = put1 (M 67) pl v := by
  refine ⟨⟨h.1.trans hs, fun w => ?_, fun a h1 h2 h3 => (mpo h1).trans (h.2.2 a h1 h2 h3)⟩, ?_⟩
  · rw [mput67, put1_2, h.2.1]
  · rw [mput67, h.2.1]
theorem Kr.sf {M1 : mM} (h : Kr M M1) : Sf M M1 := ⟨h.1, by rw [h.2 67 (by decide) (by decide)], by rw [h.2 67 (by decide) (by decide)], fun t _ => by rw [h.2 67 (by decide) (by decide)], h.2 68 (by decide) (by decide)⟩
theorem Ky.kr {pl : Nat} {M1 M2 : mM} (h : Ky pl M M1) (g : Kr M1 M2) : Ky pl M M2 := ⟨h.1.trans g.sf, fun v => by rw [g.2 67 (by decide) (by decide)]; exact h.2.1 v, fun a h1 h2 h3 => (g.2 a h2 h3).trans (h.2.2 a h1 h2 h3)⟩
theorem Ky.fin {pl : Nat} {M1 : mM} (h : Ky pl M M1) (hs : Sf M1 (mput M1 67 pl (M 67 pl))) : Kr M (mput M1 67 pl (M 67 pl)) := by
  refine ⟨fun w => hs.1 (h.1.1 w), fun a h1 h2 => ?_⟩
  by_cases e : a = 67
  · subst e
    rw [mput67, h.2.1, put1_e]
  · rw [mpo e, h.2.2 a e h1 h2]
theorem m183 {pl many a : Nat} {nt np : Nat} (hW : Wf M) (hnt : M 67 1 = nI nt) (hn8 : nt ≤ 8) (hnp : M 67 2 = nI np) (hp8 : np ≤ 8) (ha : a ≤ 1000) (hmb : many ≤ 1000) (hpl : ∀ (M1 : mM) (v : Int32), (v = M 67 pl ∨ ∃ k, k < many ∧ v = nI k) → Sf M1 (mput M1 67 pl v)) (hpb : pl < 118) : ∀ (n k : Nat) (b l : Int32) (x8 : Option Value) (M1 : mM), many - k < n → k ≤ many → Ky pl M M1 → (b, l) = fo (sLl (M 67) (M 66 6) nt np a pl) k (nI 0, 2147483647) → mEv X (QI (fun v M' => v = (fo (sLl (M 67) (M 66 6) nt np a pl) many (nI 0, 2147483647)).1 ∧ Kr M M')) 183 18 [some (.ref 66), some (.int (nI pl)), some (.int (nI many)), some (.int (nI a)), some (.int (M 67 pl)), some (.int b), some (.int l), some (.int (nI k)), x8] [] (con M1) := by
  have hm : mMet 183 = some _ := rfl
  intro n
  induction n with
  | zero =>
    intro k b l x8 M1 hkn hkb hS hz
    omega
  | succ n ih =>
    intro k b l x8 M1 hkn hkb hS hz
    refine x_iload hm rfl rfl ?_
    refine x_iload_n hm rfl rfl ?_
    refine x_icmp_ge hm rfl (t := 70) rfl (fun h1 => ?_) (fun h1 => ?_)
    · obtain rfl : k = many := Nat.le_antisymm hkb ((jI_le (by omega) (by omega)).mp h1)
      refine x_aload_n hm rfl rfl ?_
      refine x_getf hm rfl (gR rfl rfl) ?_
      refine x_iload_n hm rfl rfl ?_
      refine x_iload hm rfl rfl ?_
      refine x_iast hm rfl (sI rfl (by omega) (by decide)) ?_
      refine x_iload hm rfl rfl ?_
      refine x_iret hm rfl rfl (by first | rfl | exact bI_nar | decide) ?_
      exact ⟨_, _, rfl, rfl, congrArg Prod.fst hz, hS.fin (hpl _ _ (Or.inl rfl))⟩
    · have hk : k < many := Nat.lt_of_not_le fun h => h1 (nI_le h (by omega))
      refine x_aload_n hm rfl rfl ?_
      refine x_getf hm rfl (gR rfl rfl) ?_
      refine x_iload_n hm rfl rfl ?_
      refine x_iload hm rfl rfl ?_
      refine x_iast hm rfl (sI rfl (by omega) (by decide)) ?_
      obtain ⟨hS2, hrow⟩ := hS.put (v := nI k) (hpl M1 (nI k) (Or.inr ⟨k, hk, rfl⟩))
      have hw2 := hS2.1.1 hW
      have hn2 : mput M1 67 pl (nI k) 67 1 = nI nt := hS2.1.2.1.trans hnt
      have hp2 : mput M1 67 pl (nI k) 67 2 = nI np := hS2.1.2.2.1.trans hnp
      have h66 : mput M1 67 pl (nI k) 66 6 = M 66 6 := by rw [hS2.2.2 66 (by decide) (by decide) (by decide)]
      refine x_aload_n hm rfl rfl ?_
      refine x_iload_n hm rfl rfl ?_
      refine x_cVi hm rfl rfl (e180 hw2 hn2 hn8 hp2 hp8 ha) (fun v2 M2 r2 => ?_)
      have hv := r2.1
      rw [hrow, h66] at hv
      subst hv
      refine x_istore hm rfl rfl ?_
      refine x_iload hm rfl rfl ?_
      refine x_iload hm rfl rfl ?_
      refine x_icmp_ge hm rfl (t := 51) rfl (fun h3 => ?_) (fun h3 => ?_)
      · refine x_iload hm rfl rfl ?_
        refine x_istore hm rfl rfl ?_
        refine x_iload hm rfl rfl ?_
        refine x_iload hm rfl rfl ?_
        refine x_lib hm rfl rfl ?_
        dsimp only
        refine x_istore hm rfl rfl ?_
        refine x_iinc hm rfl rfl (v := nI 1) (by decide) rfl ?_
        rw [jI_add]
        refine x_goto hm rfl (t := 18) rfl ?_
        first
          | exact ih _ _ _ _ _ (by omega) (by omega) (hS2.kr r2.2) (by show _ = sLl (M 67) (M 66 6) nt np a pl k _; rw [← hz]; unfold sLl mn2; dsimp only; rw [if_pos (by first | assumption | exact Int32.not_le.mp (by assumption)), if_pos (by first | assumption | exact Int32.not_le.mp (by assumption))])
          | exact ih _ _ _ _ _ (by omega) (by omega) (hS2.kr r2.2) (by show _ = sLl (M 67) (M 66 6) nt np a pl k _; rw [← hz]; unfold sLl mn2; dsimp only; rw [if_neg (by first | assumption | exact Int32.not_lt.mpr (by assumption)), if_neg (by first | assumption | exact Int32.not_lt.mpr (by assumption))])
      · refine x_iload hm rfl rfl ?_
        refine x_goto hm rfl (t := 53) rfl ?_
        refine x_istore hm rfl rfl ?_
        refine x_iload hm rfl rfl ?_
        refine x_iload hm rfl rfl ?_
        refine x_lib hm rfl rfl ?_
        dsimp only
        refine x_istore hm rfl rfl ?_
        refine x_iinc hm rfl rfl (v := nI 1) (by decide) rfl ?_
        rw [jI_add]
        refine x_goto hm rfl (t := 18) rfl ?_
        first
          | exact ih _ _ _ _ _ (by omega) (by omega) (hS2.kr r2.2) (by show _ = sLl (M 67) (M 66 6) nt np a pl k _; rw [← hz]; unfold sLl mn2; dsimp only; rw [if_pos (by first | assumption | exact Int32.not_le.mp (by assumption)), if_pos (by first | assumption | exact Int32.not_le.mp (by assumption))])
          | exact ih _ _ _ _ _ (by omega) (by omega) (hS2.kr r2.2) (by show _ = sLl (M 67) (M 66 6) nt np a pl k _; rw [← hz]; unfold sLl mn2; dsimp only; rw [if_neg (by first | assumption | exact Int32.not_lt.mpr (by assumption)), if_neg (by first | assumption | exact Int32.not_lt.mpr (by assumption))])
theorem e183 {pl many a : Nat} {nt np : Nat} (hW : Wf M) (hnt : M 67 1 = nI nt) (hn8 : nt ≤ 8) (hnp : M 67 2 = nI np) (hp8 : np ≤ 8) (ha : a ≤ 1000) (hmb : many ≤ 1000) (hpl : ∀ (M1 : mM) (v : Int32), (v = M 67 pl ∨ ∃ k, k < many ∧ v = nI k) → Sf M1 (mput M1 67 pl v)) (hpb : pl < 118) : ∃ v M', mT X 183 [.ref 66, .int (nI pl), .int (nI many), .int (nI a)] (con M) (some (.int v)) (con M') ∧ v = (fo (sLl (M 67) (M 66 6) nt np a pl) many (nI 0, 2147483647)).1 ∧ Kr M M' := by
  refine ti_of (row := _) rfl (Nat.le_of_ble_eq_true rfl) ?_
  have hm : mMet 183 = some _ := rfl
  refine x_aload_n hm rfl rfl ?_
  refine x_getf hm rfl (gR rfl rfl) ?_
  refine x_iload_n hm rfl rfl ?_
  refine x_iald hm rfl (lI rfl (by omega) (by decide)) ?_
  refine x_istore hm rfl rfl ?_
  refine x_iconst hm rfl (v := nI 0) (by decide) ?_
  refine x_istore hm rfl rfl ?_
  refine x_ldcI hm rfl (v := nI 2147483647) (by decide +kernel) ?_
  refine x_istore hm rfl rfl ?_
  refine x_iconst hm rfl (v := nI 0) (by decide) ?_
  refine x_istore hm rfl rfl ?_
  exact m183 hW hnt hn8 hnp hp8 ha hmb hpl hpb _ 0 _ _ _ _ (Nat.lt_succ_self _) (Nat.zero_le _) Ky.rf rfl
theorem m186 {t pl many a : Nat} {nt np : Nat} (hW : Wf M) (hnt : M 67 1 = nI nt) (hn8 : nt ≤ 8) (hnp : M 67 2 = nI np) (hp8 : np ≤ 8) (ht : t < 8) (ha : a ≤ 1000) (hmb : many ≤ 1000) (hpl : ∀ (M1 : mM) (v : Int32), (v = M 67 pl ∨ ∃ k, k < many ∧ v = nI k) → Sf M1 (mput M1 67 pl v)) (hpb : pl < 118) : ∀ (n k : Nat) (b l : Int32) (x9 : Option Value) (M1 : mM), many - k < n → k ≤ many → Ky pl M M1 → (b, l) = fo (sTk (M 67) (M 66 6) nt np a t pl) k (-1, -1) → mEv X (QI (fun v M' => v = (fo (sTk (M 67) (M 66 6) nt np a t pl) many (-1, -1)).1 ∧ Kr M M')) 186 17 [some (.ref 66), some (.int (nI t)), some (.int (nI pl)), some (.int (nI many)), some (.int (nI a)), some (.int (M 67 pl)), some (.int b), some (.int l), some (.int (nI k)), x9] [] (con M1) := by
  have hm : mMet 186 = some _ := rfl
  intro n
  induction n with
  | zero =>
    intro k b l x9 M1 hkn hkb hS hz
    omega
  | succ n ih =>
    intro k b l x9 M1 hkn hkb hS hz
    refine x_iload hm rfl rfl ?_
    refine x_iload_n hm rfl rfl ?_
    refine x_icmp_ge hm rfl (t := 71) rfl (fun h1 => ?_) (fun h1 => ?_)
    · obtain rfl : k = many := Nat.le_antisymm hkb ((jI_le (by omega) (by omega)).mp h1)
      refine x_aload_n hm rfl rfl ?_
      refine x_getf hm rfl (gR rfl rfl) ?_
      refine x_iload_n hm rfl rfl ?_
      refine x_iload hm rfl rfl ?_
      refine x_iast hm rfl (sI rfl (by omega) (by decide)) ?_
      refine x_iload hm rfl rfl ?_
      refine x_iret hm rfl rfl (by first | rfl | exact bI_nar | decide) ?_
      exact ⟨_, _, rfl, rfl, congrArg Prod.fst hz, hS.fin (hpl _ _ (Or.inl rfl))⟩
    · have hk : k < many := Nat.lt_of_not_le fun h => h1 (nI_le h (by omega))
      refine x_aload_n hm rfl rfl ?_
      refine x_getf hm rfl (gR rfl rfl) ?_
      refine x_iload_n hm rfl rfl ?_
      refine x_iload hm rfl rfl ?_
      refine x_iast hm rfl (sI rfl (by omega) (by decide)) ?_
      obtain ⟨hS2, hrow⟩ := hS.put (v := nI k) (hpl M1 (nI k) (Or.inr ⟨k, hk, rfl⟩))
      have hw2 := hS2.1.1 hW
      have hn2 : mput M1 67 pl (nI k) 67 1 = nI nt := hS2.1.2.1.trans hnt
      have hp2 : mput M1 67 pl (nI k) 67 2 = nI np := hS2.1.2.2.1.trans hnp
      have h66 : mput M1 67 pl (nI k) 66 6 = M 66 6 := by rw [hS2.2.2 66 (by decide) (by decide) (by decide)]
      refine x_aload_n hm rfl rfl ?_
      refine x_iload_n hm rfl rfl ?_
      refine x_iload hm rfl rfl ?_
      refine x_cVi hm rfl rfl (e173 hw2 hn2 hn8 hp2 hp8 ht ha) (fun v2 M2 r2 => ?_)
      have hv := r2.1
      rw [hrow, h66] at hv
      subst hv
      refine x_istore hm rfl rfl ?_
      refine x_iload hm rfl rfl ?_
      refine x_iload hm rfl rfl ?_
      refine x_icmp_le hm rfl (t := 52) rfl (fun h3 => ?_) (fun h3 => ?_)
      · refine x_iload hm rfl rfl ?_
        refine x_istore hm rfl rfl ?_
        refine x_iload hm rfl rfl ?_
        refine x_iload hm rfl rfl ?_
        refine x_lib hm rfl rfl ?_
        dsimp only
        refine x_istore hm rfl rfl ?_
        refine x_iinc hm rfl rfl (v := nI 1) (by decide) rfl ?_
        rw [jI_add]
        refine x_goto hm rfl (t := 17) rfl ?_
        first
          | exact ih _ _ _ _ _ (by omega) (by omega) (hS2.kr r2.2) (by show _ = sTk (M 67) (M 66 6) nt np a t pl k _; rw [← hz]; unfold sTk; dsimp only; rw [if_pos (by first | assumption | exact Int32.not_le.mp (by assumption)), if_pos (by first | assumption | exact Int32.not_le.mp (by assumption))])
          | exact ih _ _ _ _ _ (by omega) (by omega) (hS2.kr r2.2) (by show _ = sTk (M 67) (M 66 6) nt np a t pl k _; rw [← hz]; unfold sTk; dsimp only; rw [if_neg (by first | assumption | exact Int32.not_lt.mpr (by assumption)), if_neg (by first | assumption | exact Int32.not_lt.mpr (by assumption))])
      · refine x_iload hm rfl rfl ?_
        refine x_goto hm rfl (t := 54) rfl ?_
        refine x_istore hm rfl rfl ?_
        refine x_iload hm rfl rfl ?_
        refine x_iload hm rfl rfl ?_
        refine x_lib hm rfl rfl ?_
        dsimp only
        refine x_istore hm rfl rfl ?_
        refine x_iinc hm rfl rfl (v := nI 1) (by decide) rfl ?_
        rw [jI_add]
        refine x_goto hm rfl (t := 17) rfl ?_
        first
          | exact ih _ _ _ _ _ (by omega) (by omega) (hS2.kr r2.2) (by show _ = sTk (M 67) (M 66 6) nt np a t pl k _; rw [← hz]; unfold sTk; dsimp only; rw [if_pos (by first | assumption | exact Int32.not_le.mp (by assumption)), if_pos (by first | assumption | exact Int32.not_le.mp (by assumption))])
          | exact ih _ _ _ _ _ (by omega) (by omega) (hS2.kr r2.2) (by show _ = sTk (M 67) (M 66 6) nt np a t pl k _; rw [← hz]; unfold sTk; dsimp only; rw [if_neg (by first | assumption | exact Int32.not_lt.mpr (by assumption)), if_neg (by first | assumption | exact Int32.not_lt.mpr (by assumption))])
theorem e186 {t pl many a : Nat} {nt np : Nat} (hW : Wf M) (hnt : M 67 1 = nI nt) (hn8 : nt ≤ 8) (hnp : M 67 2 = nI np) (hp8 : np ≤ 8) (ht : t < 8) (ha : a ≤ 1000) (hmb : many ≤ 1000) (hpl : ∀ (M1 : mM) (v : Int32), (v = M 67 pl ∨ ∃ k, k < many ∧ v = nI k) → Sf M1 (mput M1 67 pl v)) (hpb : pl < 118) : ∃ v M', mT X 186 [.ref 66, .int (nI t), .int (nI pl), .int (nI many), .int (nI a)] (con M) (some (.int v)) (con M') ∧ v = (fo (sTk (M 67) (M 66 6) nt np a t pl) many (-1, -1)).1 ∧ Kr M M' := by
  refine ti_of (row := _) rfl (Nat.le_of_ble_eq_true rfl) ?_
  have hm : mMet 186 = some _ := rfl
  refine x_aload_n hm rfl rfl ?_
  refine x_getf hm rfl (gR rfl rfl) ?_
  refine x_iload_n hm rfl rfl ?_
  refine x_iald hm rfl (lI rfl (by omega) (by decide)) ?_
  refine x_istore hm rfl rfl ?_
  refine x_iconst hm rfl (v := (-1 : Int32)) (by decide) ?_
  refine x_istore hm rfl rfl ?_
  refine x_iconst hm rfl (v := (-1 : Int32)) (by decide) ?_
  refine x_istore hm rfl rfl ?_
  refine x_iconst hm rfl (v := nI 0) (by decide) ?_
  refine x_istore hm rfl rfl ?_
  exact m186 hW hnt hn8 hnp hp8 ht ha hmb hpl hpb _ 0 _ _ _ _ (Nat.lt_succ_self _) (Nat.zero_le _) Ky.rf rfl
end EF
end
section
/-! ===== what is asked of what will be: the answers; the reference ===== -/
def qAhead (r : Nat → Int32) (nt np : Nat) (a1 a2 : Int32) : Int32 × Bool := if bI (nI 0 ≤ a1 ∧ a1 ≤ nI nt - nI 1) = 0 then (-1000001, true) else if bI (nI 0 ≤ a2 ∧ a2 ≤ nI 100) = 0 then (-1000001, true) else (sDays (-1) nt np a2.toNatClampNeg r (14 + 6 * a1.toNatClampNeg + 2), false)
def qGone (r : Nat → Int32) (nt np : Nat) (a1 : Int32) : Int32 × Bool := if bI (nI 0 ≤ a1 ∧ a1 ≤ nI 100) = 0 then (-1000001, true) else (sGone (sDays (-1) nt np a1.toNatClampNeg r) nt, false)
def qWorn (r : Nat → Int32) (nt np : Nat) (a1 : Int32) : Int32 × Bool := if bI (nI 0 ≤ a1 ∧ a1 ≤ nI 100) = 0 then (-1000001, true) else (sThick r nt - sThick (sDays (-1) nt np a1.toNatClampNeg r) nt, false)
def qKind (r : Nat → Int32) (nt np : Nat) (a1 a2 : Int32) : Int32 × Bool := if bI (nI 0 ≤ a1 ∧ a1 ≤ nI np - nI 1) = 0 then (-1000001, true) else if bI (nI 0 ≤ a2 ∧ a2 ≤ nI 60) = 0 then (-1000001, true) else ((fo (sLl r (-1) nt np a2.toNatClampNeg (62 + 7 * a1.toNatClampNeg + 0)) 7 (nI 0, 2147483647)).1, false)
def qWalk (r : Nat → Int32) (nt np : Nat) (a1 a2 : Int32) : Int32 × Bool := if bI (nI 0 ≤ a1 ∧ a1 ≤ nI np - nI 1) = 0 then (-1000001, true) else if bI (nI 0 ≤ a2 ∧ a2 ≤ nI 60) = 0 then (-1000001, true) else ((fo (sLl r (-1) nt np a2.toNatClampNeg (62 + 7 * a1.toNatClampNeg + 2)) 16 (nI 0, 2147483647)).1, false)
def qPlace (r : Nat → Int32) (nt np : Nat) (a1 a2 : Int32) : Int32 × Bool := if bI (nI 0 ≤ a1 ∧ a1 ≤ nI nt - nI 1) = 0 then (-1000001, true) else if bI (nI 0 ≤ a2 ∧ a2 ≤ nI 60) = 0 then (-1000001, true) else ((fo (sTk r (-1) nt np a2.toNatClampNeg a1.toNatClampNeg (14 + 6 * a1.toNatClampNeg + 1)) 16 (-1, -1)).1, false)
def qOwner (r : Nat → Int32) (nt np : Nat) (a1 a2 : Int32) : Int32 × Bool := if bI (nI 0 ≤ a1 ∧ a1 ≤ nI nt - nI 1) = 0 then (-1000001, true) else if bI (nI 0 ≤ a2 ∧ a2 ≤ nI 60) = 0 then (-1000001, true) else orN (fo (sTk r (-1) nt np a2.toNatClampNeg a1.toNatClampNeg (14 + 6 * a1.toNatClampNeg + 4)) np (-1, -1)).1
theorem fst_q {q : Int32 × Bool} {v : Int32} {f : Bool} (h : q = (v, f)) : v = q.1 := by rw [h]
section EG
variable {X : mSc} {Q : Option Value → mHp → Prop} {M : mM}
theorem e172 {a1 a2 : Int32} {nt np : Nat} (hW : Wf M) (hnt : M 67 1 = nI nt) (hn8 : nt ≤ 8) (hnp : M 67 2 = nI np) (hp8 : np ≤ 8) (h6 : M 66 6 = -1) : ∃ v M', mT X 172 [.ref 66, .int a1, .int a2] (con M) (some (.int v)) (con M') ∧ v = (qAhead (M 67) nt np a1 a2).1 ∧ Kq M M' ∧ Fq (qAhead (M 67) nt np a1 a2) M M' := by
  refine ti_of (row := _) rfl (Nat.le_of_ble_eq_true rfl) ?_
  have hm : mMet 172 = some _ := rfl
  refine x_aload_n hm rfl rfl ?_
  refine x_iload_n hm rfl rfl ?_
  refine x_callV hm rfl rfl (t139) ?_
  rw [hnt]
  refine x_if_eq hm rfl (t := 27) rfl (fun h1 => ?_) (fun h1 => ?_)
  · refine x_aload_n hm rfl rfl ?_
    refine x_ldcI hm rfl (v := (-1000001 : Int32)) (by decide +kernel) ?_
    refine x_callV hm rfl rfl (e135 (by decide +kernel)) ?_
    refine x_iret hm rfl rfl (by first | rfl | exact bI_nar | decide) ?_
    first
      | (have hq : qAhead (M 67) nt np a1 a2 = (-1000001, true) := by
           unfold qAhead
           first
             | rw [if_pos (by assumption)]
         exact ⟨_, _, rfl, rfl, congrArg Prod.fst hq.symm, fndR_kq, by rw [hq]; exact fndR_fq⟩)
      | (have hq : qAhead (M 67) nt np (nI t) a2 = (-1000001, true) := by
           unfold qAhead
           first
             | rw [if_pos (by assumption)]
             | rw [if_neg (by assumption), if_pos (by assumption)]
         exact ⟨_, _, rfl, rfl, congrArg Prod.fst hq.symm, fndR_kq, by rw [hq]; exact fndR_fq⟩)
      | (rw [h6] at r3
         have hq : qAhead (M 67) nt np (nI t) (nI a) = (sDays (-1) nt np a (M 67) (14 + 6 * t + 2), false) := by
           unfold qAhead
           rw [if_neg (by assumption), if_neg (by assumption)]
           rw [jI_nat (k := t) (by omega)]
           rw [jI_nat (k := a) (by omega)]
         exact ⟨_, _, rfl, rfl, r3.1.trans (fst_q hq), r3.2.kq, by rw [hq]; exact r3.2.fq⟩)
  · obtain ⟨t, ht, rfl⟩ := in_k rfl (by omega) (bI_ne0 h1)
    refine x_iload_n hm rfl rfl ?_
    refine x_iconst hm rfl (v := nI 0) (by decide) ?_
    refine x_bipush hm rfl (v := nI 100) (by decide) ?_
    refine x_callS hm rfl rfl (t133) ?_
    refine x_if_eq hm rfl (t := 27) rfl (fun h2 => ?_) (fun h2 => ?_)
    · refine x_aload_n hm rfl rfl ?_
      refine x_ldcI hm rfl (v := (-1000001 : Int32)) (by decide +kernel) ?_
      refine x_callV hm rfl rfl (e135 (by decide +kernel)) ?_
      refine x_iret hm rfl rfl (by first | rfl | exact bI_nar | decide) ?_
      first
        | (have hq : qAhead (M 67) nt np a1 a2 = (-1000001, true) := by
             unfold qAhead
             first
               | rw [if_pos (by assumption)]
           exact ⟨_, _, rfl, rfl, congrArg Prod.fst hq.symm, fndR_kq, by rw [hq]; exact fndR_fq⟩)
        | (have hq : qAhead (M 67) nt np (nI t) a2 = (-1000001, true) := by
             unfold qAhead
             first
               | rw [if_pos (by assumption)]
               | rw [if_neg (by assumption), if_pos (by assumption)]
           exact ⟨_, _, rfl, rfl, congrArg Prod.fst hq.symm, fndR_kq, by rw [hq]; exact fndR_fq⟩)
        | (rw [h6] at r3
           have hq : qAhead (M 67) nt np (nI t) (nI a) = (sDays (-1) nt np a (M 67) (14 + 6 * t + 2), false) := by
             unfold qAhead
             rw [if_neg (by assumption), if_neg (by assumption)]
             rw [jI_nat (k := t) (by omega)]
             rw [jI_nat (k := a) (by omega)]
           exact ⟨_, _, rfl, rfl, r3.1.trans (fst_q hq), r3.2.kq, by rw [hq]; exact r3.2.fq⟩)
    · obtain ⟨a, ha, rfl⟩ := le_k (by omega) (bI_ne0 h2)
      refine x_aload_n hm rfl rfl ?_
      refine x_iload_n hm rfl rfl ?_
      refine x_iload_n hm rfl rfl ?_
      refine x_cVi hm rfl rfl (e173 hW hnt hn8 hnp hp8 (by omega) (by omega)) (fun v3 M3 r3 => ?_)
      refine x_goto hm rfl (t := 33) rfl ?_
      refine x_iret hm rfl rfl (by first | rfl | exact bI_nar | decide) ?_
      first
        | (rw [h6] at r3
           have hq : qAhead (M 67) nt np (nI t) (nI a) = (sDays (-1) nt np a (M 67) (14 + 6 * t + 2), false) := by
             unfold qAhead
             rw [if_neg (by assumption), if_neg (by assumption)]
             rw [jI_nat (k := t) (by omega)]
             rw [jI_nat (k := a) (by omega)]
           exact ⟨_, _, rfl, rfl, r3.1.trans (fst_q hq), r3.2.kq, by rw [hq]; exact r3.2.fq⟩)
        | (have hq : qAhead (M 67) nt np a1 a2 = (-1000001, true) := by
             unfold qAhead
             first
               | rw [if_pos (by assumption)]
           exact ⟨_, _, rfl, rfl, congrArg Prod.fst hq.symm, fndR_kq, by rw [hq]; exact fndR_fq⟩)
        | (have hq : qAhead (M 67) nt np (nI t) a2 = (-1000001, true) := by
             unfold qAhead
             first
               | rw [if_pos (by assumption)]
               | rw [if_neg (by assumption), if_pos (by assumption)]
           exact ⟨_, _, rfl, rfl, congrArg Prod.fst hq.symm, fndR_kq, by rw [hq]; exact fndR_fq⟩)
theorem e182 {a1 a2 : Int32} {nt np : Nat} (hW : Wf M) (hnt : M 67 1 = nI nt) (hn8 : nt ≤ 8) (hnp : M 67 2 = nI np) (hp8 : np ≤ 8) (h6 : M 66 6 = -1) : ∃ v M', mT X 182 [.ref 66, .int a1, .int a2] (con M) (some (.int v)) (con M') ∧ v = (qKind (M 67) nt np a1 a2).1 ∧ Kq M M' ∧ Fq (qKind (M 67) nt np a1 a2) M M' := by
  refine ti_of (row := _) rfl (Nat.le_of_ble_eq_true rfl) ?_
  have hm : mMet 182 = some _ := rfl
  refine x_aload_n hm rfl rfl ?_
  refine x_iload_n hm rfl rfl ?_
  refine x_callV hm rfl rfl (t153) ?_
  rw [hnp]
  refine x_if_eq hm rfl (t := 33) rfl (fun h1 => ?_) (fun h1 => ?_)
  · refine x_aload_n hm rfl rfl ?_
    refine x_ldcI hm rfl (v := (-1000001 : Int32)) (by decide +kernel) ?_
    refine x_callV hm rfl rfl (e135 (by decide +kernel)) ?_
    refine x_iret hm rfl rfl (by first | rfl | exact bI_nar | decide) ?_
    first
      | (have hq : qKind (M 67) nt np a1 a2 = (-1000001, true) := by
           unfold qKind
           first
             | rw [if_pos (by assumption)]
         exact ⟨_, _, rfl, rfl, congrArg Prod.fst hq.symm, fndR_kq, by rw [hq]; exact fndR_fq⟩)
      | (have hq : qKind (M 67) nt np (nI p) a2 = (-1000001, true) := by
           unfold qKind
           first
             | rw [if_pos (by assumption)]
             | rw [if_neg (by assumption), if_pos (by assumption)]
         exact ⟨_, _, rfl, rfl, congrArg Prod.fst hq.symm, fndR_kq, by rw [hq]; exact fndR_fq⟩)
      | (rw [h6] at r3
         have hq : qKind (M 67) nt np (nI p) (nI a) = ((fo (sLl (M 67) (-1) nt np a (62 + 7 * p + 0)) 7 (nI 0, 2147483647)).1, false) := by
           unfold qKind
           rw [if_neg (by assumption), if_neg (by assumption)]
           rw [jI_nat (k := p) (by omega)]
           rw [jI_nat (k := a) (by omega)]
         exact ⟨_, _, rfl, rfl, r3.1.trans (fst_q hq), r3.2.kq, by rw [hq]; exact r3.2.fq⟩)
  · obtain ⟨p, hp, rfl⟩ := in_k rfl (by omega) (bI_ne0 h1)
    refine x_iload_n hm rfl rfl ?_
    refine x_iconst hm rfl (v := nI 0) (by decide) ?_
    refine x_bipush hm rfl (v := nI 60) (by decide) ?_
    refine x_callS hm rfl rfl (t133) ?_
    refine x_if_eq hm rfl (t := 33) rfl (fun h2 => ?_) (fun h2 => ?_)
    · refine x_aload_n hm rfl rfl ?_
      refine x_ldcI hm rfl (v := (-1000001 : Int32)) (by decide +kernel) ?_
      refine x_callV hm rfl rfl (e135 (by decide +kernel)) ?_
      refine x_iret hm rfl rfl (by first | rfl | exact bI_nar | decide) ?_
      first
        | (have hq : qKind (M 67) nt np a1 a2 = (-1000001, true) := by
             unfold qKind
             first
               | rw [if_pos (by assumption)]
           exact ⟨_, _, rfl, rfl, congrArg Prod.fst hq.symm, fndR_kq, by rw [hq]; exact fndR_fq⟩)
        | (have hq : qKind (M 67) nt np (nI p) a2 = (-1000001, true) := by
             unfold qKind
             first
               | rw [if_pos (by assumption)]
               | rw [if_neg (by assumption), if_pos (by assumption)]
           exact ⟨_, _, rfl, rfl, congrArg Prod.fst hq.symm, fndR_kq, by rw [hq]; exact fndR_fq⟩)
        | (rw [h6] at r3
           have hq : qKind (M 67) nt np (nI p) (nI a) = ((fo (sLl (M 67) (-1) nt np a (62 + 7 * p + 0)) 7 (nI 0, 2147483647)).1, false) := by
             unfold qKind
             rw [if_neg (by assumption), if_neg (by assumption)]
             rw [jI_nat (k := p) (by omega)]
             rw [jI_nat (k := a) (by omega)]
           exact ⟨_, _, rfl, rfl, r3.1.trans (fst_q hq), r3.2.kq, by rw [hq]; exact r3.2.fq⟩)
    · obtain ⟨a, ha, rfl⟩ := le_k (by omega) (bI_ne0 h2)
      refine x_aload_n hm rfl rfl ?_
      refine x_iload_n hm rfl rfl ?_
      refine x_iconst hm rfl (v := nI 0) (by decide) ?_
      refine x_callS hm rfl rfl (t142) ?_
      refine x_bipush hm rfl (v := nI 7) (by decide) ?_
      refine x_iload_n hm rfl rfl ?_
      refine x_cVi hm rfl rfl (e183 hW hnt hn8 hnp hp8 (by omega) (by omega) (fun _ _ _ => Sf.person (by omega) (by decide)) (by omega)) (fun v3 M3 r3 => ?_)
      refine x_goto hm rfl (t := 39) rfl ?_
      refine x_iret hm rfl rfl (by first | rfl | exact bI_nar | decide) ?_
      first
        | (rw [h6] at r3
           have hq : qKind (M 67) nt np (nI p) (nI a) = ((fo (sLl (M 67) (-1) nt np a (62 + 7 * p + 0)) 7 (nI 0, 2147483647)).1, false) := by
             unfold qKind
             rw [if_neg (by assumption), if_neg (by assumption)]
             rw [jI_nat (k := p) (by omega)]
             rw [jI_nat (k := a) (by omega)]
           exact ⟨_, _, rfl, rfl, r3.1.trans (fst_q hq), r3.2.kq, by rw [hq]; exact r3.2.fq⟩)
        | (have hq : qKind (M 67) nt np a1 a2 = (-1000001, true) := by
             unfold qKind
             first
               | rw [if_pos (by assumption)]
           exact ⟨_, _, rfl, rfl, congrArg Prod.fst hq.symm, fndR_kq, by rw [hq]; exact fndR_fq⟩)
        | (have hq : qKind (M 67) nt np (nI p) a2 = (-1000001, true) := by
             unfold qKind
             first
               | rw [if_pos (by assumption)]
               | rw [if_neg (by assumption), if_pos (by assumption)]
           exact ⟨_, _, rfl, rfl, congrArg Prod.fst hq.symm, fndR_kq, by rw [hq]; exact fndR_fq⟩)
theorem e184 {a1 a2 : Int32} {nt np : Nat} (hW : Wf M) (hnt : M 67 1 = nI nt) (hn8 : nt ≤ 8) (hnp : M 67 2 = nI np) (hp8 : np ≤ 8) (h6 : M 66 6 = -1) : ∃ v M', mT X 184 [.ref 66, .int a1, .int a2] (con M) (some (.int v)) (con M') ∧ v = (qWalk (M 67) nt np a1 a2).1 ∧ Kq M M' ∧ Fq (qWalk (M 67) nt np a1 a2) M M' := by
  refine ti_of (row := _) rfl (Nat.le_of_ble_eq_true rfl) ?_
  have hm : mMet 184 = some _ := rfl
  refine x_aload_n hm rfl rfl ?_
  refine x_iload_n hm rfl rfl ?_
  refine x_callV hm rfl rfl (t153) ?_
  rw [hnp]
  refine x_if_eq hm rfl (t := 33) rfl (fun h1 => ?_) (fun h1 => ?_)
  · refine x_aload_n hm rfl rfl ?_
    refine x_ldcI hm rfl (v := (-1000001 : Int32)) (by decide +kernel) ?_
    refine x_callV hm rfl rfl (e135 (by decide +kernel)) ?_
    refine x_iret hm rfl rfl (by first | rfl | exact bI_nar | decide) ?_
    first
      | (have hq : qWalk (M 67) nt np a1 a2 = (-1000001, true) := by
           unfold qWalk
           first
             | rw [if_pos (by assumption)]
         exact ⟨_, _, rfl, rfl, congrArg Prod.fst hq.symm, fndR_kq, by rw [hq]; exact fndR_fq⟩)
      | (have hq : qWalk (M 67) nt np (nI p) a2 = (-1000001, true) := by
           unfold qWalk
           first
             | rw [if_pos (by assumption)]
             | rw [if_neg (by assumption), if_pos (by assumption)]
         exact ⟨_, _, rfl, rfl, congrArg Prod.fst hq.symm, fndR_kq, by rw [hq]; exact fndR_fq⟩)
      | (rw [h6] at r3
         have hq : qWalk (M 67) nt np (nI p) (nI a) = ((fo (sLl (M 67) (-1) nt np a (62 + 7 * p + 2)) 16 (nI 0, 2147483647)).1, false) := by
           unfold qWalk
           rw [if_neg (by assumption), if_neg (by assumption)]
           rw [jI_nat (k := p) (by omega)]
           rw [jI_nat (k := a) (by omega)]
         exact ⟨_, _, rfl, rfl, r3.1.trans (fst_q hq), r3.2.kq, by rw [hq]; exact r3.2.fq⟩)
  · obtain ⟨p, hp, rfl⟩ := in_k rfl (by omega) (bI_ne0 h1)
    refine x_iload_n hm rfl rfl ?_
    refine x_iconst hm rfl (v := nI 0) (by decide) ?_
    refine x_bipush hm rfl (v := nI 60) (by decide) ?_
    refine x_callS hm rfl rfl (t133) ?_
    refine x_if_eq hm rfl (t := 33) rfl (fun h2 => ?_) (fun h2 => ?_)
    · refine x_aload_n hm rfl rfl ?_
      refine x_ldcI hm rfl (v := (-1000001 : Int32)) (by decide +kernel) ?_
      refine x_callV hm rfl rfl (e135 (by decide +kernel)) ?_
      refine x_iret hm rfl rfl (by first | rfl | exact bI_nar | decide) ?_
      first
        | (have hq : qWalk (M 67) nt np a1 a2 = (-1000001, true) := by
             unfold qWalk
             first
               | rw [if_pos (by assumption)]
           exact ⟨_, _, rfl, rfl, congrArg Prod.fst hq.symm, fndR_kq, by rw [hq]; exact fndR_fq⟩)
        | (have hq : qWalk (M 67) nt np (nI p) a2 = (-1000001, true) := by
             unfold qWalk
             first
               | rw [if_pos (by assumption)]
               | rw [if_neg (by assumption), if_pos (by assumption)]
           exact ⟨_, _, rfl, rfl, congrArg Prod.fst hq.symm, fndR_kq, by rw [hq]; exact fndR_fq⟩)
        | (rw [h6] at r3
           have hq : qWalk (M 67) nt np (nI p) (nI a) = ((fo (sLl (M 67) (-1) nt np a (62 + 7 * p + 2)) 16 (nI 0, 2147483647)).1, false) := by
             unfold qWalk
             rw [if_neg (by assumption), if_neg (by assumption)]
             rw [jI_nat (k := p) (by omega)]
             rw [jI_nat (k := a) (by omega)]
           exact ⟨_, _, rfl, rfl, r3.1.trans (fst_q hq), r3.2.kq, by rw [hq]; exact r3.2.fq⟩)
    · obtain ⟨a, ha, rfl⟩ := le_k (by omega) (bI_ne0 h2)
      refine x_aload_n hm rfl rfl ?_
      refine x_iload_n hm rfl rfl ?_
      refine x_iconst hm rfl (v := nI 2) (by decide) ?_
      refine x_callS hm rfl rfl (t142) ?_
      refine x_bipush hm rfl (v := nI 16) (by decide) ?_
      refine x_iload_n hm rfl rfl ?_
      refine x_cVi hm rfl rfl (e183 hW hnt hn8 hnp hp8 (by omega) (by omega) (fun _ _ _ => Sf.person (by omega) (by decide)) (by omega)) (fun v3 M3 r3 => ?_)
      refine x_goto hm rfl (t := 39) rfl ?_
      refine x_iret hm rfl rfl (by first | rfl | exact bI_nar | decide) ?_
      first
        | (rw [h6] at r3
           have hq : qWalk (M 67) nt np (nI p) (nI a) = ((fo (sLl (M 67) (-1) nt np a (62 + 7 * p + 2)) 16 (nI 0, 2147483647)).1, false) := by
             unfold qWalk
             rw [if_neg (by assumption), if_neg (by assumption)]
             rw [jI_nat (k := p) (by omega)]
             rw [jI_nat (k := a) (by omega)]
           exact ⟨_, _, rfl, rfl, r3.1.trans (fst_q hq), r3.2.kq, by rw [hq]; exact r3.2.fq⟩)
        | (have hq : qWalk (M 67) nt np a1 a2 = (-1000001, true) := by
             unfold qWalk
             first
               | rw [if_pos (by assumption)]
           exact ⟨_, _, rfl, rfl, congrArg Prod.fst hq.symm, fndR_kq, by rw [hq]; exact fndR_fq⟩)
        | (have hq : qWalk (M 67) nt np (nI p) a2 = (-1000001, true) := by
             unfold qWalk
             first
               | rw [if_pos (by assumption)]
               | rw [if_neg (by assumption), if_pos (by assumption)]
           exact ⟨_, _, rfl, rfl, congrArg Prod.fst hq.symm, fndR_kq, by rw [hq]; exact fndR_fq⟩)
theorem e185 {a1 a2 : Int32} {nt np : Nat} (hW : Wf M) (hnt : M 67 1 = nI nt) (hn8 : nt ≤ 8) (hnp : M 67 2 = nI np) (hp8 : np ≤ 8) (h6 : M 66 6 = -1) : ∃ v M', mT X 185 [.ref 66, .int a1, .int a2] (con M) (some (.int v)) (con M') ∧ v = (qPlace (M 67) nt np a1 a2).1 ∧ Kq M M' ∧ Fq (qPlace (M 67) nt np a1 a2) M M' := by
  refine ti_of (row := _) rfl (Nat.le_of_ble_eq_true rfl) ?_
  have hm : mMet 185 = some _ := rfl
  refine x_aload_n hm rfl rfl ?_
  refine x_iload_n hm rfl rfl ?_
  refine x_callV hm rfl rfl (t139) ?_
  rw [hnt]
  refine x_if_eq hm rfl (t := 34) rfl (fun h1 => ?_) (fun h1 => ?_)
  · refine x_aload_n hm rfl rfl ?_
    refine x_ldcI hm rfl (v := (-1000001 : Int32)) (by decide +kernel) ?_
    refine x_callV hm rfl rfl (e135 (by decide +kernel)) ?_
    refine x_iret hm rfl rfl (by first | rfl | exact bI_nar | decide) ?_
    first
      | (have hq : qPlace (M 67) nt np a1 a2 = (-1000001, true) := by
           unfold qPlace
           first
             | rw [if_pos (by assumption)]
         exact ⟨_, _, rfl, rfl, congrArg Prod.fst hq.symm, fndR_kq, by rw [hq]; exact fndR_fq⟩)
      | (have hq : qPlace (M 67) nt np (nI t) a2 = (-1000001, true) := by
           unfold qPlace
           first
             | rw [if_pos (by assumption)]
             | rw [if_neg (by assumption), if_pos (by assumption)]
         exact ⟨_, _, rfl, rfl, congrArg Prod.fst hq.symm, fndR_kq, by rw [hq]; exact fndR_fq⟩)
      | (rw [h6] at r3
         have hq : qPlace (M 67) nt np (nI t) (nI a) = ((fo (sTk (M 67) (-1) nt np a t (14 + 6 * t + 1)) 16 (-1, -1)).1, false) := by
           unfold qPlace
           rw [if_neg (by assumption), if_neg (by assumption)]
           rw [jI_nat (k := t) (by omega)]
           rw [jI_nat (k := a) (by omega)]
         exact ⟨_, _, rfl, rfl, r3.1.trans (fst_q hq), r3.2.kq, by rw [hq]; exact r3.2.fq⟩)
  · obtain ⟨t, ht, rfl⟩ := in_k rfl (by omega) (bI_ne0 h1)
    refine x_iload_n hm rfl rfl ?_
    refine x_iconst hm rfl (v := nI 0) (by decide) ?_
    refine x_bipush hm rfl (v := nI 60) (by decide) ?_
    refine x_callS hm rfl rfl (t133) ?_
    refine x_if_eq hm rfl (t := 34) rfl (fun h2 => ?_) (fun h2 => ?_)
    · refine x_aload_n hm rfl rfl ?_
      refine x_ldcI hm rfl (v := (-1000001 : Int32)) (by decide +kernel) ?_
      refine x_callV hm rfl rfl (e135 (by decide +kernel)) ?_
      refine x_iret hm rfl rfl (by first | rfl | exact bI_nar | decide) ?_
      first
        | (have hq : qPlace (M 67) nt np a1 a2 = (-1000001, true) := by
             unfold qPlace
             first
               | rw [if_pos (by assumption)]
           exact ⟨_, _, rfl, rfl, congrArg Prod.fst hq.symm, fndR_kq, by rw [hq]; exact fndR_fq⟩)
        | (have hq : qPlace (M 67) nt np (nI t) a2 = (-1000001, true) := by
             unfold qPlace
             first
               | rw [if_pos (by assumption)]
               | rw [if_neg (by assumption), if_pos (by assumption)]
           exact ⟨_, _, rfl, rfl, congrArg Prod.fst hq.symm, fndR_kq, by rw [hq]; exact fndR_fq⟩)
        | (rw [h6] at r3
           have hq : qPlace (M 67) nt np (nI t) (nI a) = ((fo (sTk (M 67) (-1) nt np a t (14 + 6 * t + 1)) 16 (-1, -1)).1, false) := by
             unfold qPlace
             rw [if_neg (by assumption), if_neg (by assumption)]
             rw [jI_nat (k := t) (by omega)]
             rw [jI_nat (k := a) (by omega)]
           exact ⟨_, _, rfl, rfl, r3.1.trans (fst_q hq), r3.2.kq, by rw [hq]; exact r3.2.fq⟩)
    · obtain ⟨a, ha, rfl⟩ := le_k (by omega) (bI_ne0 h2)
      refine x_aload_n hm rfl rfl ?_
      refine x_iload_n hm rfl rfl ?_
      refine x_iload_n hm rfl rfl ?_
      refine x_iconst hm rfl (v := nI 1) (by decide) ?_
      refine x_callS hm rfl rfl (t137) ?_
      refine x_bipush hm rfl (v := nI 16) (by decide) ?_
      refine x_iload_n hm rfl rfl ?_
      refine x_cVi hm rfl rfl (e186 hW hnt hn8 hnp hp8 (by omega) (by omega) (by omega) (fun _ _ _ => Sf.thing (by omega) (by decide) (by decide) (by decide)) (by omega)) (fun v3 M3 r3 => ?_)
      refine x_goto hm rfl (t := 40) rfl ?_
      refine x_iret hm rfl rfl (by first | rfl | exact bI_nar | decide) ?_
      first
        | (rw [h6] at r3
           have hq : qPlace (M 67) nt np (nI t) (nI a) = ((fo (sTk (M 67) (-1) nt np a t (14 + 6 * t + 1)) 16 (-1, -1)).1, false) := by
             unfold qPlace
             rw [if_neg (by assumption), if_neg (by assumption)]
             rw [jI_nat (k := t) (by omega)]
             rw [jI_nat (k := a) (by omega)]
           exact ⟨_, _, rfl, rfl, r3.1.trans (fst_q hq), r3.2.kq, by rw [hq]; exact r3.2.fq⟩)
        | (have hq : qPlace (M 67) nt np a1 a2 = (-1000001, true) := by
             unfold qPlace
             first
               | rw [if_pos (by assumption)]
           exact ⟨_, _, rfl, rfl, congrArg Prod.fst hq.symm, fndR_kq, by rw [hq]; exact fndR_fq⟩)
        | (have hq : qPlace (M 67) nt np (nI t) a2 = (-1000001, true) := by
             unfold qPlace
             first
               | rw [if_pos (by assumption)]
               | rw [if_neg (by assumption), if_pos (by assumption)]
           exact ⟨_, _, rfl, rfl, congrArg Prod.fst hq.symm, fndR_kq, by rw [hq]; exact fndR_fq⟩)
theorem e179 {a1 : Int32} {nt np : Nat} (hW : Wf M) (hnt : M 67 1 = nI nt) (hn8 : nt ≤ 8) (hnp : M 67 2 = nI np) (hp8 : np ≤ 8) (h6 : M 66 6 = -1) : ∃ v M', mT X 179 [.ref 66, .int a1] (con M) (some (.int v)) (con M') ∧ v = (qWorn (M 67) nt np a1).1 ∧ Kq M M' ∧ Fq (qWorn (M 67) nt np a1) M M' := by
  refine ti_of (row := _) rfl (Nat.le_of_ble_eq_true rfl) ?_
  have hm : mMet 179 = some _ := rfl
  refine x_iload_n hm rfl rfl ?_
  refine x_iconst hm rfl (v := nI 0) (by decide) ?_
  refine x_bipush hm rfl (v := nI 100) (by decide) ?_
  refine x_callS hm rfl rfl (t133) ?_
  refine x_if_eq hm rfl (t := 18) rfl (fun h1 => ?_) (fun h1 => ?_)
  · refine x_aload_n hm rfl rfl ?_
    refine x_ldcI hm rfl (v := (-1000001 : Int32)) (by decide +kernel) ?_
    refine x_callV hm rfl rfl (e135 (by decide +kernel)) ?_
    refine x_iret hm rfl rfl (by first | rfl | exact bI_nar | decide) ?_
    first
      | (have hq : qWorn (M 67) nt np a1 = (-1000001, true) := by
           unfold qWorn
           first
             | rw [if_pos (by assumption)]
         exact ⟨_, _, rfl, rfl, congrArg Prod.fst hq.symm, fndR_kq, by rw [hq]; exact fndR_fq⟩)
      | (rw [h6] at r2
         have hq : qWorn (M 67) nt np (nI a) = (sThick (M 67) nt - sThick (sDays (-1) nt np a (M 67)) nt, false) := by
           unfold qWorn
           rw [if_neg (by assumption)]
           rw [jI_nat (k := a) (by omega)]
         exact ⟨_, _, rfl, rfl, r2.1.trans (fst_q hq), r2.2.kq, by rw [hq]; exact r2.2.fq⟩)
  · obtain ⟨a, ha, rfl⟩ := le_k (by omega) (bI_ne0 h1)
    refine x_aload_n hm rfl rfl ?_
    refine x_iload_n hm rfl rfl ?_
    refine x_cVi hm rfl rfl (e180 hW hnt hn8 hnp hp8 (by omega)) (fun v2 M2 r2 => ?_)
    refine x_goto hm rfl (t := 24) rfl ?_
    refine x_iret hm rfl rfl (by first | rfl | exact bI_nar | decide) ?_
    first
      | (rw [h6] at r2
         have hq : qWorn (M 67) nt np (nI a) = (sThick (M 67) nt - sThick (sDays (-1) nt np a (M 67)) nt, false) := by
           unfold qWorn
           rw [if_neg (by assumption)]
           rw [jI_nat (k := a) (by omega)]
         exact ⟨_, _, rfl, rfl, r2.1.trans (fst_q hq), r2.2.kq, by rw [hq]; exact r2.2.fq⟩)
      | (have hq : qWorn (M 67) nt np a1 = (-1000001, true) := by
           unfold qWorn
           first
             | rw [if_pos (by assumption)]
         exact ⟨_, _, rfl, rfl, congrArg Prod.fst hq.symm, fndR_kq, by rw [hq]; exact fndR_fq⟩)
theorem e187 {a1 a2 : Int32} {nt np : Nat} (hW : Wf M) (hnt : M 67 1 = nI nt) (hn8 : nt ≤ 8) (hnp : M 67 2 = nI np) (hp8 : np ≤ 8) (h6 : M 66 6 = -1) : ∃ v M', mT X 187 [.ref 66, .int a1, .int a2] (con M) (some (.int v)) (con M') ∧ v = (qOwner (M 67) nt np a1 a2).1 ∧ Kq M M' ∧ Fq (qOwner (M 67) nt np a1 a2) M M' := by
  refine ti_of (row := _) rfl (Nat.le_of_ble_eq_true rfl) ?_
  have hm : mMet 187 = some _ := rfl
  refine x_aload_n hm rfl rfl ?_
  refine x_iload_n hm rfl rfl ?_
  refine x_callV hm rfl rfl (t139) ?_
  rw [hnt]
  refine x_if_eq hm rfl (t := 42) rfl (fun h1 => ?_) (fun h1 => ?_)
  · refine x_aload_n hm rfl rfl ?_
    refine x_ldcI hm rfl (v := (-1000001 : Int32)) (by decide +kernel) ?_
    refine x_callV hm rfl rfl (e135 (by decide +kernel)) ?_
    refine x_iret hm rfl rfl (by first | rfl | exact bI_nar | decide) ?_
    first
      | (have hq : qOwner (M 67) nt np a1 a2 = (-1000001, true) := by
           unfold qOwner
           first
             | rw [if_pos (by assumption)]
         exact ⟨_, _, rfl, rfl, congrArg Prod.fst hq.symm, fndR_kq, by rw [hq]; exact fndR_fq⟩)
      | (have hq : qOwner (M 67) nt np (nI t) a2 = (-1000001, true) := by
           unfold qOwner
           first
             | rw [if_pos (by assumption)]
             | rw [if_neg (by assumption), if_pos (by assumption)]
         exact ⟨_, _, rfl, rfl, congrArg Prod.fst hq.symm, fndR_kq, by rw [hq]; exact fndR_fq⟩)
      | (rw [h6] at r3
         have hq : qOwner (M 67) nt np (nI t) (nI a) = orN v3 := by
           unfold qOwner
           rw [if_neg (by assumption), if_neg (by assumption)]
           rw [jI_nat (k := t) (by omega)]
           rw [jI_nat (k := a) (by omega)]
           rw [r3.1]
         exact ⟨_, _, rfl, rfl, by rw [hq]; exact r4.1, r3.2.kq.to r4.2.1, by rw [hq]; exact r4.2.2.of (r3.2.2 70 (by decide) (by decide))⟩)
  · obtain ⟨t, ht, rfl⟩ := in_k rfl (by omega) (bI_ne0 h1)
    refine x_iload_n hm rfl rfl ?_
    refine x_iconst hm rfl (v := nI 0) (by decide) ?_
    refine x_bipush hm rfl (v := nI 60) (by decide) ?_
    refine x_callS hm rfl rfl (t133) ?_
    refine x_if_eq hm rfl (t := 42) rfl (fun h2 => ?_) (fun h2 => ?_)
    · refine x_aload_n hm rfl rfl ?_
      refine x_ldcI hm rfl (v := (-1000001 : Int32)) (by decide +kernel) ?_
      refine x_callV hm rfl rfl (e135 (by decide +kernel)) ?_
      refine x_iret hm rfl rfl (by first | rfl | exact bI_nar | decide) ?_
      first
        | (have hq : qOwner (M 67) nt np a1 a2 = (-1000001, true) := by
             unfold qOwner
             first
               | rw [if_pos (by assumption)]
           exact ⟨_, _, rfl, rfl, congrArg Prod.fst hq.symm, fndR_kq, by rw [hq]; exact fndR_fq⟩)
        | (have hq : qOwner (M 67) nt np (nI t) a2 = (-1000001, true) := by
             unfold qOwner
             first
               | rw [if_pos (by assumption)]
               | rw [if_neg (by assumption), if_pos (by assumption)]
           exact ⟨_, _, rfl, rfl, congrArg Prod.fst hq.symm, fndR_kq, by rw [hq]; exact fndR_fq⟩)
        | (rw [h6] at r3
           have hq : qOwner (M 67) nt np (nI t) (nI a) = orN v3 := by
             unfold qOwner
             rw [if_neg (by assumption), if_neg (by assumption)]
             rw [jI_nat (k := t) (by omega)]
             rw [jI_nat (k := a) (by omega)]
             rw [r3.1]
           exact ⟨_, _, rfl, rfl, by rw [hq]; exact r4.1, r3.2.kq.to r4.2.1, by rw [hq]; exact r4.2.2.of (r3.2.2 70 (by decide) (by decide))⟩)
    · obtain ⟨a, ha, rfl⟩ := le_k (by omega) (bI_ne0 h2)
      refine x_aload_n hm rfl rfl ?_
      refine x_aload_n hm rfl rfl ?_
      refine x_iload_n hm rfl rfl ?_
      refine x_iload_n hm rfl rfl ?_
      refine x_iconst hm rfl (v := nI 4) (by decide) ?_
      refine x_callS hm rfl rfl (t137) ?_
      refine x_aload_n hm rfl rfl ?_
      refine x_getf hm rfl (gR rfl rfl) ?_
      refine x_iconst hm rfl (v := nI 2) (by decide) ?_
      refine x_iald hm rfl (lI rfl (by omega) (by decide)) ?_
      rw [hnp]
      refine x_iload_n hm rfl rfl ?_
      refine x_cVi hm rfl rfl (e186 hW hnt hn8 hnp hp8 (by omega) (by omega) (by omega) (fun M1 v hv => Sf.owner (by omega) (by
      rcases hv with rfl | ⟨k, hk, rfl⟩
      · exact hW.owner (by omega)
      · exact okI2 (by omega))) (by omega)) (fun v3 M3 r3 => ?_)
      refine x_cVi hm rfl rfl (e177) (fun v4 M4 r4 => ?_)
      refine x_goto hm rfl (t := 48) rfl ?_
      refine x_iret hm rfl rfl (by first | rfl | exact bI_nar | decide) ?_
      first
        | (rw [h6] at r3
           have hq : qOwner (M 67) nt np (nI t) (nI a) = orN v3 := by
             unfold qOwner
             rw [if_neg (by assumption), if_neg (by assumption)]
             rw [jI_nat (k := t) (by omega)]
             rw [jI_nat (k := a) (by omega)]
             rw [r3.1]
           exact ⟨_, _, rfl, rfl, by rw [hq]; exact r4.1, r3.2.kq.to r4.2.1, by rw [hq]; exact r4.2.2.of (r3.2.2 70 (by decide) (by decide))⟩)
        | (have hq : qOwner (M 67) nt np a1 a2 = (-1000001, true) := by
             unfold qOwner
             first
               | rw [if_pos (by assumption)]
           exact ⟨_, _, rfl, rfl, congrArg Prod.fst hq.symm, fndR_kq, by rw [hq]; exact fndR_fq⟩)
        | (have hq : qOwner (M 67) nt np (nI t) a2 = (-1000001, true) := by
             unfold qOwner
             first
               | rw [if_pos (by assumption)]
               | rw [if_neg (by assumption), if_pos (by assumption)]
           exact ⟨_, _, rfl, rfl, congrArg Prod.fst hq.symm, fndR_kq, by rw [hq]; exact fndR_fq⟩)
theorem e178 {a1 : Int32} {nt np : Nat} (hW : Wf M) (hnt : M 67 1 = nI nt) (hn8 : nt ≤ 8) (hnp : M 67 2 = nI np) (hp8 : np ≤ 8) (h6 : M 66 6 = -1) : ∃ v M', mT X 178 [.ref 66, .int a1] (con M) (some (.int v)) (con M') ∧ v = (qGone (M 67) nt np a1).1 ∧ Kq M M' ∧ Fq (qGone (M 67) nt np a1) M M' := by
  refine ti_of (row := _) rfl (Nat.le_of_ble_eq_true rfl) ?_
  have hm : mMet 178 = some _ := rfl
  refine x_iload_n hm rfl rfl ?_
  refine x_iconst hm rfl (v := nI 0) (by decide) ?_
  refine x_bipush hm rfl (v := nI 100) (by decide) ?_
  refine x_callS hm rfl rfl (t133) ?_
  refine x_if_ne hm rfl (t := 17) rfl (fun h1 => ?_) (fun h1 => ?_)
  · obtain ⟨a, ha, rfl⟩ := le_k (by omega) (bI_ne0 h1)
    refine x_aload_n hm rfl rfl ?_
    refine x_getf hm rfl (gR rfl rfl) ?_
    refine x_aload_n hm rfl rfl ?_
    refine x_getf hm rfl (gR rfl rfl) ?_
    refine x_callS hm rfl rfl (t174 rfl rfl (by decide)) ?_
    refine x_aload_n hm rfl rfl ?_
    refine x_iload_n hm rfl rfl ?_
    refine x_cVv hm rfl rfl (f164 hW hnt hn8 hnp hp8 (by omega)) (fun M2 r2 => ?_)
    refine x_aload_n hm rfl rfl ?_
    refine x_aload_n hm rfl rfl ?_
    refine x_callV hm rfl rfl (e167 (r2.1.1.2.1.trans ((congrFun (cp_o (by decide)) 1).trans hnt)) hn8) ?_
    refine x_callV hm rfl rfl (t175) ?_
    refine x_iret hm rfl rfl (by first | rfl | exact bI_nar | decide) ?_
    have hq : qGone (M 67) nt np (nI a) = (sGone (sDays (-1) nt np a (M 67)) nt, false) := by
      unfold qGone
      rw [if_neg (by assumption)]
      rw [jI_nat (k := a) (by omega)]
    rw [h6] at r2
    have hk := Kr.back r2.1 r2.2 (fun j hj => sDays_118 hn8 hp8 hj _)
    exact ⟨_, _, rfl, rfl, by rw [r2.2.1]; exact fst_q hq, hk.kq, by rw [hq]; exact hk.fq⟩
  · refine x_aload_n hm rfl rfl ?_
    refine x_ldcI hm rfl (v := (-1000001 : Int32)) (by decide +kernel) ?_
    refine x_callV hm rfl rfl (e135 (by decide +kernel)) ?_
    refine x_iret hm rfl rfl (by first | rfl | exact bI_nar | decide) ?_
    have hq : qGone (M 67) nt np a1 = (-1000001, true) := by
      unfold qGone
      first
        | rw [if_pos (by assumption)]
    exact ⟨_, _, rfl, rfl, congrArg Prod.fst hq.symm, fndR_kq, by rw [hq]; exact fndR_fq⟩
end EG
end
section
/-! ===== what is asked of what will be, more; the reference ===== -/
def sWo (r : Nat → Int32) (nt np n k : Nat) (z : Int32 × Int32) : Int32 × Int32 :=
  (if sThick r nt - sThick (sDays (nI k) nt np n r) nt < z.2 then nI k else z.1, mn2 z.2 (sThick r nt - sThick (sDays (nI k) nt np n r) nt))
def sNd (r : Nat → Int32) (w : Int32) (nt np n t k : Nat) (z : Int32) : Int32 := if 0 < sDays w nt np n (put1 r (14 + 6 * t + 3) (nI (9 - k))) (14 + 6 * t + 2) then nI (9 - k) else z
def sLa (w : Int32) (nt np t : Nat) : Nat → Nat → (Nat → Int32) → Int32
  | 0, n, r => if r (14 + 6 * t + 2) = 0 then nI n else -1
  | f + 1, n, r => if r (14 + 6 * t + 2) = 0 then nI n else sLa w nt np t f (n + 1) (sDay w nt np r)
def sSe (goal walk : Int32) : Nat → Nat → Int32 → Int32 × Bool
  | 0, _, _ => (-1000004, true)
  | f + 1, n, x => if x = goal then (nI n, false) else sSe goal walk f (n + 1) (rem16 (x + walk))
def qWorst (r : Nat → Int32) (nt np : Nat) (a1 : Int32) : Int32 × Bool := if bI (nI 0 ≤ a1 ∧ a1 ≤ nI 60) = 0 then (-1000001, true) else orN (fo (sWo r nt np a1.toNatClampNeg) np (-1, 2147483647)).1
def qNeeds (r : Nat → Int32) (nt np : Nat) (a1 a2 : Int32) : Int32 × Bool := if bI (nI 0 ≤ a1 ∧ a1 ≤ nI nt - nI 1) = 0 then (-1000001, true) else if bI (nI 0 ≤ a2 ∧ a2 ≤ nI 60) = 0 then (-1000001, true) else orN (fo (sNd r (-1) nt np a2.toNatClampNeg a1.toNatClampNeg) 10 (-1))
def qLasts (r : Nat → Int32) (nt np : Nat) (a1 : Int32) : Int32 × Bool := if bI (nI 0 ≤ a1 ∧ a1 ≤ nI nt - nI 1) = 0 then (-1000001, true) else orN (sLa (-1) nt np a1.toNatClampNeg 100 0 r)
def qSees (r : Nat → Int32) (nt np : Nat) (a1 a2 : Int32) : Int32 × Bool := if bI (nI 0 ≤ a1 ∧ a1 ≤ nI np - nI 1) = 0 then (-1000001, true) else if bI (nI 0 ≤ a2 ∧ a2 ≤ nI nt - nI 1) = 0 then (-1000001, true) else sSe (r (14 + 6 * a2.toNatClampNeg + 1)) (r (62 + 7 * a1.toNatClampNeg + 2)) 16 0 (r (62 + 7 * a1.toNatClampNeg + 1))
section EH
variable {X : mSc} {Q : Option Value → mHp → Prop} {M : mM}
def Kz (M M1 : mM) : Prop := (Wf M → Wf M1) ∧ (∀ a, a ≠ 66 → a ≠ 69 → a ≠ 71 → M1 a = M a) ∧ M1 66 3 = M 66 3 ∧ M1 66 9 = M 66 9
theorem Kz.rf : Kz M M := ⟨fun h => h, fun _ _ _ _ => rfl, rfl, rfl⟩
theorem Kz.kr {M1 M2 : mM} (h : Kz M M1) (g : Kr M1 M2) : Kz M M2 := ⟨fun w => g.1 (h.1 w), fun a h1 h2 h3 => (g.2 a h2 h3).trans (h.2.1 a h1 h2 h3), by rw [g.2 66 (by decide) (by decide)]; exact h.2.2.1, by rw [g.2 66 (by decide) (by decide)]; exact h.2.2.2⟩
theorem Kz.put {M1 : mM} {v : Int32} (h : Kz M M1) : Kz M (mput M1 66 6 v) := ⟨fun w => (h.1 w).put0 (kd66 (by decide)), fun a h1 h2 h3 => (mpo h1).trans (h.2.1 a h1 h2 h3), (mpf (by decide)).trans h.2.2.1, (mpf (by decide)).trans h.2.2.2⟩
theorem Kz.fin {M1 : mM} (h : Kz M M1) (h6 : M 66 6 = -1) : Kq M (mput M1 66 6 (-1)) := ⟨h.put.1, fun a h1 h2 _ h4 _ => h.put.2.1 a h1 h2 h4, h.put.2.2.1, mp0.trans h6.symm, h.put.2.2.2⟩
theorem orn_fin {v v' : Int32} {q : Int32 × Bool} {M1 M2 : mM} (hq : q = orN v) (hk : Kq M M1) (h70 : M1 70 = M 70) (h : v' = (orN v).1 ∧ Kq M1 M2 ∧ Fq (orN v) M1 M2) : v' = q.1 ∧ Kq M M2 ∧ Fq q M M2 := by
  subst hq
  exact ⟨h.1, hk.to h.2.1, h.2.2.of h70⟩
theorem m188 {a : Nat} {nt np : Nat} (hW : Wf M) (hnt : M 67 1 = nI nt) (hn8 : nt ≤ 8) (hnp : M 67 2 = nI np) (hp8 : np ≤ 8) (h6 : M 66 6 = -1) (ha : a ≤ 1000) : ∀ (n k : Nat) (b l : Int32) (x5 : Option Value) (M1 : mM), np - k < n → k ≤ np → Kz M M1 → (b, l) = fo (sWo (M 67) nt np a) k (-1, 2147483647) → mEv X (QI (fun v M' => v = (orN (fo (sWo (M 67) nt np a) np (-1, 2147483647)).1).1 ∧ Kq M M' ∧ Fq (orN (fo (sWo (M 67) nt np a) np (-1, 2147483647)).1) M M')) 188 25 [some (.ref 66), some (.int (nI a)), some (.int b), some (.int l), some (.int (nI k)), x5] [] (con M1) := by
  have hm : mMet 188 = some _ := rfl
  intro n
  induction n with
  | zero =>
    intro k b l x5 M1 hkn hkb hS hz
    omega
  | succ n ih =>
    intro k b l x5 M1 hkn hkb hS hz
    have hp1 : M1 67 2 = nI np := (congrFun (hS.2.1 67 (by decide) (by decide) (by decide)) 2).trans hnp
    refine x_iload hm rfl rfl ?_
    refine x_aload_n hm rfl rfl ?_
    refine x_getf hm rfl (gR rfl rfl) ?_
    refine x_iconst hm rfl (v := nI 2) (by decide) ?_
    refine x_iald hm rfl (lI rfl (by omega) (by decide)) ?_
    rw [hp1]
    refine x_icmp_ge hm rfl (t := 75) rfl (fun h1 => ?_) (fun h1 => ?_)
    · have hkn2 : k = np := Nat.le_antisymm hkb ((jI_le (by omega) (by omega)).mp h1)
      rw [hkn2] at hz
      refine x_aload_n hm rfl rfl ?_
      refine x_iconst hm rfl (v := (-1 : Int32)) (by decide) ?_
      refine x_putf hm rfl (pI rfl rfl (by decide) (by first | exact mFit_int | rfl | decide) rfl) ?_
      refine x_aload_n hm rfl rfl ?_
      refine x_iload_n hm rfl rfl ?_
      refine x_cVi hm rfl rfl (e177) (fun v2 M2 r2 => ?_)
      refine x_iret hm rfl rfl (by first | rfl | exact bI_nar | decide) ?_
      obtain ⟨g1, g2, g3⟩ := orn_fin (M := M) (q := orN (fo (sWo (M 67) nt np a) np (-1, 2147483647)).1) (by rw [← hz]) (hS.fin h6) ((mpo (by decide)).trans (hS.2.1 70 (by decide) (by decide) (by decide))) r2
      exact ⟨_, _, rfl, rfl, g1, g2, g3⟩
    · have hk : k < np := Nat.lt_of_not_le fun h => h1 (nI_le h (by omega))
      refine x_aload_n hm rfl rfl ?_
      refine x_iload hm rfl rfl ?_
      refine x_putf hm rfl (pI rfl rfl (by decide) (by first | exact mFit_int | rfl | decide) rfl) ?_
      have hS2 := hS.put (v := nI k)
      have h67 : mput M1 66 6 (nI k) 67 = M 67 := hS2.2.1 67 (by decide) (by decide) (by decide)
      refine x_aload_n hm rfl rfl ?_
      refine x_iload_n hm rfl rfl ?_
      refine x_cVi hm rfl rfl (e180 (hS2.1 hW) ((congrFun h67 1).trans hnt) hn8 ((congrFun h67 2).trans hnp) hp8 ha) (fun v3 M3 r3 => ?_)
      have hv := r3.1
      rw [h67, mp0] at hv
      subst hv
      refine x_istore hm rfl rfl ?_
      refine x_iload hm rfl rfl ?_
      refine x_iload_n hm rfl rfl ?_
      refine x_icmp_ge hm rfl (t := 60) rfl (fun h4 => ?_) (fun h4 => ?_)
      · refine x_iload_n hm rfl rfl ?_
        refine x_istore_n hm rfl rfl ?_
        refine x_iload_n hm rfl rfl ?_
        refine x_iload hm rfl rfl ?_
        refine x_lib hm rfl rfl ?_
        dsimp only
        refine x_istore_n hm rfl rfl ?_
        refine x_iinc hm rfl rfl (v := nI 1) (by decide) rfl ?_
        rw [jI_add]
        refine x_goto hm rfl (t := 25) rfl ?_
        first
          | exact ih _ _ _ _ _ (by omega) (by omega) (hS2.kr r3.2) (by show _ = sWo (M 67) nt np a k _; rw [← hz]; unfold sWo mn2; dsimp only; rw [if_pos (by first | assumption | exact Int32.not_le.mp (by assumption)), if_pos (by first | assumption | exact Int32.not_le.mp (by assumption))])
          | exact ih _ _ _ _ _ (by omega) (by omega) (hS2.kr r3.2) (by show _ = sWo (M 67) nt np a k _; rw [← hz]; unfold sWo mn2; dsimp only; rw [if_neg (by first | assumption | exact Int32.not_lt.mpr (by assumption)), if_neg (by first | assumption | exact Int32.not_lt.mpr (by assumption))])
      · refine x_iload hm rfl rfl ?_
        refine x_goto hm rfl (t := 61) rfl ?_
        refine x_istore_n hm rfl rfl ?_
        refine x_iload_n hm rfl rfl ?_
        refine x_iload hm rfl rfl ?_
        refine x_lib hm rfl rfl ?_
        dsimp only
        refine x_istore_n hm rfl rfl ?_
        refine x_iinc hm rfl rfl (v := nI 1) (by decide) rfl ?_
        rw [jI_add]
        refine x_goto hm rfl (t := 25) rfl ?_
        first
          | exact ih _ _ _ _ _ (by omega) (by omega) (hS2.kr r3.2) (by show _ = sWo (M 67) nt np a k _; rw [← hz]; unfold sWo mn2; dsimp only; rw [if_pos (by first | assumption | exact Int32.not_le.mp (by assumption)), if_pos (by first | assumption | exact Int32.not_le.mp (by assumption))])
          | exact ih _ _ _ _ _ (by omega) (by omega) (hS2.kr r3.2) (by show _ = sWo (M 67) nt np a k _; rw [← hz]; unfold sWo mn2; dsimp only; rw [if_neg (by first | assumption | exact Int32.not_lt.mpr (by assumption)), if_neg (by first | assumption | exact Int32.not_lt.mpr (by assumption))])
theorem e188 {a1 : Int32} {nt np : Nat} (hW : Wf M) (hnt : M 67 1 = nI nt) (hn8 : nt ≤ 8) (hnp : M 67 2 = nI np) (hp8 : np ≤ 8) (h6 : M 66 6 = -1) : ∃ v M', mT X 188 [.ref 66, .int a1] (con M) (some (.int v)) (con M') ∧ v = (qWorst (M 67) nt np a1).1 ∧ Kq M M' ∧ Fq (qWorst (M 67) nt np a1) M M' := by
  refine ti_of (row := _) rfl (Nat.le_of_ble_eq_true rfl) ?_
  have hm : mMet 188 = some _ := rfl
  refine x_iload_n hm rfl rfl ?_
  refine x_iconst hm rfl (v := nI 0) (by decide) ?_
  refine x_bipush hm rfl (v := nI 60) (by decide) ?_
  refine x_callS hm rfl rfl (t133) ?_
  refine x_if_ne hm rfl (t := 17) rfl (fun h1 => ?_) (fun h1 => ?_)
  · obtain ⟨a, ha, rfl⟩ := le_k (by omega) (bI_ne0 h1)
    refine x_iconst hm rfl (v := (-1 : Int32)) (by decide) ?_
    refine x_istore_n hm rfl rfl ?_
    refine x_ldcI hm rfl (v := nI 2147483647) (by decide +kernel) ?_
    refine x_istore_n hm rfl rfl ?_
    refine x_iconst hm rfl (v := nI 0) (by decide) ?_
    refine x_istore hm rfl rfl ?_
    have hq : qWorst (M 67) nt np (nI a) = orN (fo (sWo (M 67) nt np a) np (-1, 2147483647)).1 := by
      unfold qWorst
      rw [if_neg (by assumption)]
      rw [jI_nat (k := a) (by omega)]
    rw [hq]
    exact m188 hW hnt hn8 hnp hp8 h6 (by omega) _ 0 _ _ _ _ (Nat.lt_succ_self _) (Nat.zero_le _) Kz.rf rfl
  · refine x_aload_n hm rfl rfl ?_
    refine x_ldcI hm rfl (v := (-1000001 : Int32)) (by decide +kernel) ?_
    refine x_callV hm rfl rfl (e135 (by decide +kernel)) ?_
    refine x_iret hm rfl rfl (by first | rfl | exact bI_nar | decide) ?_
    have hq : qWorst (M 67) nt np a1 = (-1000001, true) := by
      unfold qWorst
      first
        | rw [if_pos (by assumption)]
    exact ⟨_, _, rfl, rfl, congrArg Prod.fst hq.symm, fndR_kq, by rw [hq]; exact fndR_fq⟩
theorem m192 {t a : Nat} {nt np : Nat} (hW : Wf M) (hnt : M 67 1 = nI nt) (hn8 : nt ≤ 8) (hnp : M 67 2 = nI np) (hp8 : np ≤ 8) (h6 : M 66 6 = -1) (ht8 : t < 8) (ha : a ≤ 1000) : ∀ (n j : Nat) (b : Int32) (M1 : mM), j < n → j ≤ 10 → Ky (14 + 6 * t + 3) M M1 → b = fo (sNd (M 67) (-1) nt np a t) (10 - j) (-1) → mEv X (QI (fun v M' => v = (orN (fo (sNd (M 67) (-1) nt np a t) 10 (-1))).1 ∧ Kq M M' ∧ Fq (orN (fo (sNd (M 67) (-1) nt np a t) 10 (-1))) M M')) 192 39 [some (.ref 66), some (.int (nI t)), some (.int (nI a)), some (.int (M 67 (14 + 6 * t + 3))), some (.int b), some (.int (nI j + (-1)))] [] (con M1) := by
  have hm : mMet 192 = some _ := rfl
  intro n
  induction n with
  | zero =>
    intro j b M1 hjn hj10 hS hz
    omega
  | succ n ih =>
    intro j b M1 hjn hj10 hS hz
    refine x_iload hm rfl rfl ?_
    refine x_if_lt hm rfl (t := 80) rfl (fun h1 => ?_) (fun h1 => ?_)
    · obtain rfl : j = 0 := by
        cases j with
        | zero => rfl
        | succ i => rw [dec1] at h1; exact absurd h1 (jI_nn (by omega))
      refine x_aload_n hm rfl rfl ?_
      refine x_getf hm rfl (gR rfl rfl) ?_
      refine x_iload_n hm rfl rfl ?_
      refine x_iconst hm rfl (v := nI 3) (by decide) ?_
      refine x_callS hm rfl rfl (t137) ?_
      refine x_iload_n hm rfl rfl ?_
      refine x_iast hm rfl (sI rfl (by omega) (by decide)) ?_
      have hF := hS.fin (Sf.thing (M := M1) ht8 (by decide : 3 < 5) (by decide) (by decide))
      refine x_aload_n hm rfl rfl ?_
      refine x_iload hm rfl rfl ?_
      refine x_cVi hm rfl rfl (e177) (fun v2 M2 r2 => ?_)
      refine x_iret hm rfl rfl (by first | rfl | exact bI_nar | decide) ?_
      obtain ⟨g1, g2, g3⟩ := orn_fin (M := M) (q := orN (fo (sNd (M 67) (-1) nt np a t) 10 (-1))) (congrArg orN hz.symm) hF.kq (hF.2 70 (by decide) (by decide)) r2
      exact ⟨_, _, rfl, rfl, g1, g2, g3⟩
    · obtain ⟨i, rfl⟩ : ∃ i, j = i + 1 := by
        cases j with
        | zero => exact absurd (by decide) h1
        | succ i => exact ⟨i, rfl⟩
      rw [dec1]
      refine x_aload_n hm rfl rfl ?_
      refine x_getf hm rfl (gR rfl rfl) ?_
      refine x_iload_n hm rfl rfl ?_
      refine x_iconst hm rfl (v := nI 3) (by decide) ?_
      refine x_callS hm rfl rfl (t137) ?_
      refine x_iload hm rfl rfl ?_
      refine x_iast hm rfl (sI rfl (by omega) (by decide)) ?_
      obtain ⟨hS2, hrow⟩ := hS.put (v := nI i) (Sf.thing (M := M1) (v := nI i) ht8 (by decide : 3 < 5) (by decide) (by decide))
      have h66 : mput M1 67 (14 + 6 * t + 3) (nI i) 66 6 = -1 := by rw [hS2.2.2 66 (by decide) (by decide) (by decide)]; exact h6
      refine x_aload_n hm rfl rfl ?_
      refine x_iload_n hm rfl rfl ?_
      refine x_iload_n hm rfl rfl ?_
      refine x_cVi hm rfl rfl (e173 (hS2.1.1 hW) (hS2.1.2.1.trans hnt) hn8 (hS2.1.2.2.1.trans hnp) hp8 ht8 ha) (fun v3 M3 r3 => ?_)
      have hv := r3.1
      rw [hrow, h66] at hv
      subst hv
      refine x_if_le hm rfl (t := 70) rfl (fun h4 => ?_) (fun h4 => ?_)
      · have hng := Int32.not_lt.mpr h4
        refine x_iload hm rfl rfl ?_
        refine x_istore hm rfl rfl ?_
        refine x_iinc hm rfl rfl (v := (-1 : Int32)) (by decide) rfl ?_
        refine x_goto hm rfl (t := 39) rfl ?_
        have e9 : 10 - i = (10 - (i + 1)) + 1 := by omega
        have e8 : 9 - (10 - (i + 1)) = i := by omega
        first
          | exact ih i _ _ (by omega) (by omega) (hS2.kr r3.2) (by rw [e9]; show _ = sNd (M 67) (-1) nt np a t _ _; unfold sNd; rw [e8, if_pos hps])
          | exact ih i _ _ (by omega) (by omega) (hS2.kr r3.2) (by rw [e9]; show _ = sNd (M 67) (-1) nt np a t _ _; unfold sNd; rw [e8, if_neg hng]; exact hz)
      · have hps := Int32.not_le.mp h4
        refine x_iload hm rfl rfl ?_
        refine x_goto hm rfl (t := 72) rfl ?_
        refine x_istore hm rfl rfl ?_
        refine x_iinc hm rfl rfl (v := (-1 : Int32)) (by decide) rfl ?_
        refine x_goto hm rfl (t := 39) rfl ?_
        have e9 : 10 - i = (10 - (i + 1)) + 1 := by omega
        have e8 : 9 - (10 - (i + 1)) = i := by omega
        first
          | exact ih i _ _ (by omega) (by omega) (hS2.kr r3.2) (by rw [e9]; show _ = sNd (M 67) (-1) nt np a t _ _; unfold sNd; rw [e8, if_pos hps])
          | exact ih i _ _ (by omega) (by omega) (hS2.kr r3.2) (by rw [e9]; show _ = sNd (M 67) (-1) nt np a t _ _; unfold sNd; rw [e8, if_neg hng]; exact hz)
theorem e192 {a1 a2 : Int32} {nt np : Nat} (hW : Wf M) (hnt : M 67 1 = nI nt) (hn8 : nt ≤ 8) (hnp : M 67 2 = nI np) (hp8 : np ≤ 8) (h6 : M 66 6 = -1) : ∃ v M', mT X 192 [.ref 66, .int a1, .int a2] (con M) (some (.int v)) (con M') ∧ v = (qNeeds (M 67) nt np a1 a2).1 ∧ Kq M M' ∧ Fq (qNeeds (M 67) nt np a1 a2) M M' := by
  refine ti_of (row := _) rfl (Nat.le_of_ble_eq_true rfl) ?_
  have hm : mMet 192 = some _ := rfl
  refine x_aload_n hm rfl rfl ?_
  refine x_iload_n hm rfl rfl ?_
  refine x_callV hm rfl rfl (t139) ?_
  rw [hnt]
  refine x_if_eq hm rfl (t := 18) rfl (fun h1 => ?_) (fun h1 => ?_)
  · refine x_aload_n hm rfl rfl ?_
    refine x_ldcI hm rfl (v := (-1000001 : Int32)) (by decide +kernel) ?_
    refine x_callV hm rfl rfl (e135 (by decide +kernel)) ?_
    refine x_iret hm rfl rfl (by first | rfl | exact bI_nar | decide) ?_
    first
      | (have hq : qNeeds (M 67) nt np a1 a2 = (-1000001, true) := by
           unfold qNeeds
           first
             | rw [if_pos (by assumption)]
         exact ⟨_, _, rfl, rfl, congrArg Prod.fst hq.symm, fndR_kq, by rw [hq]; exact fndR_fq⟩)
      | (have hq : qNeeds (M 67) nt np (nI t) a2 = (-1000001, true) := by
           unfold qNeeds
           first
             | rw [if_pos (by assumption)]
             | rw [if_neg (by assumption), if_pos (by assumption)]
         exact ⟨_, _, rfl, rfl, congrArg Prod.fst hq.symm, fndR_kq, by rw [hq]; exact fndR_fq⟩)
  · obtain ⟨t, ht, rfl⟩ := in_k rfl (by omega) (bI_ne0 h1)
    refine x_iload_n hm rfl rfl ?_
    refine x_iconst hm rfl (v := nI 0) (by decide) ?_
    refine x_bipush hm rfl (v := nI 60) (by decide) ?_
    refine x_callS hm rfl rfl (t133) ?_
    refine x_if_ne hm rfl (t := 25) rfl (fun h2 => ?_) (fun h2 => ?_)
    · obtain ⟨a, ha, rfl⟩ := le_k (by omega) (bI_ne0 h2)
      refine x_aload_n hm rfl rfl ?_
      refine x_iload_n hm rfl rfl ?_
      refine x_iconst hm rfl (v := nI 3) (by decide) ?_
      refine x_callV hm rfl rfl (t143 (by omega) (by omega)) ?_
      refine x_istore_n hm rfl rfl ?_
      refine x_iconst hm rfl (v := (-1 : Int32)) (by decide) ?_
      refine x_istore hm rfl rfl ?_
      refine x_bipush hm rfl (v := nI 9) (by decide) ?_
      refine x_istore hm rfl rfl ?_
      have hq : qNeeds (M 67) nt np (nI t) (nI a) = orN (fo (sNd (M 67) (-1) nt np a t) 10 (-1)) := by
        unfold qNeeds
        rw [if_neg (by assumption), if_neg (by assumption)]
        rw [jI_nat (k := t) (by omega)]
        rw [jI_nat (k := a) (by omega)]
      rw [hq, show (nI 9 : Int32) = nI 10 + (-1) by decide]
      exact m192 hW hnt hn8 hnp hp8 h6 (by omega) (by omega) _ 10 _ _ (Nat.lt_succ_self _) (Nat.le_refl _) Ky.rf rfl
    · refine x_aload_n hm rfl rfl ?_
      refine x_ldcI hm rfl (v := (-1000001 : Int32)) (by decide +kernel) ?_
      refine x_callV hm rfl rfl (e135 (by decide +kernel)) ?_
      refine x_iret hm rfl rfl (by first | rfl | exact bI_nar | decide) ?_
      first
        | (have hq : qNeeds (M 67) nt np a1 a2 = (-1000001, true) := by
             unfold qNeeds
             first
               | rw [if_pos (by assumption)]
           exact ⟨_, _, rfl, rfl, congrArg Prod.fst hq.symm, fndR_kq, by rw [hq]; exact fndR_fq⟩)
        | (have hq : qNeeds (M 67) nt np (nI t) a2 = (-1000001, true) := by
             unfold qNeeds
             first
               | rw [if_pos (by assumption)]
               | rw [if_neg (by assumption), if_pos (by assumption)]
           exact ⟨_, _, rfl, rfl, congrArg Prod.fst hq.symm, fndR_kq, by rw [hq]; exact fndR_fq⟩)
theorem la_g {w : Int32} {nt np t k : Nat} {r : Nat → Int32} {f : Nat} (h : r (14 + 6 * t + 2) = 0) : sLa w nt np t f k r = nI k := by
  cases f <;> exact if_pos h
theorem la_n {w : Int32} {nt np t k : Nat} {r : Nat → Int32} (hk : k = 100) (h : ¬ r (14 + 6 * t + 2) = 0) : sLa w nt np t (100 - k) k r = -1 := by
  subst hk
  exact if_neg h
theorem la_s {w : Int32} {nt np t k : Nat} {r : Nat → Int32} (hk : k < 100) (h : ¬ sDays w nt np k r (14 + 6 * t + 2) = 0) : sLa w nt np t (100 - k) k (sDays w nt np k r) = sLa w nt np t (100 - (k + 1)) (k + 1) (sDays w nt np (k + 1) r) := by
  rw [show 100 - k = (100 - (k + 1)) + 1 by omega]
  exact if_neg h
theorem m176 {t : Nat} {nt np : Nat} (hW : Wf M) (hnt : M 67 1 = nI nt) (hn8 : nt ≤ 8) (hnp : M 67 2 = nI np) (hp8 : np ≤ 8) (h6 : M 66 6 = -1) (ht8 : t < 8) : ∀ (n k : Nat) (M1 : mM), 100 - k < n → k ≤ 100 → Dy (cp M 67 69 118) M1 → Dd (sDays (-1) nt np k (M 67)) (cp M 67 69 118) M1 → mEv X (QI (fun v M' => v = (orN (sLa (-1) nt np t (100 - k) k (sDays (-1) nt np k (M 67)))).1 ∧ Kq M M' ∧ Fq (orN (sLa (-1) nt np t (100 - k) k (sDays (-1) nt np k (M 67)))) M M')) 176 28 [some (.ref 66), some (.int (nI t)), some (.int (nI k))] [] (con M1) := by
  have hm : mMet 176 = some _ := rfl
  intro n
  induction n with
  | zero =>
    intro k M1 hkn hkb hD hd
    omega
  | succ n ih =>
    intro k M1 hkn hkb hD hd
    have hthk : M1 67 (14 + 6 * t + 2) = sDays (-1) nt np k (M 67) (14 + 6 * t + 2) := congrFun hd.1 _
    have hB := Kr.back hD hd (fun j hj => sDays_118 hn8 hp8 hj _)
    refine x_iload_n hm rfl rfl ?_
    refine x_bipush hm rfl (v := nI 100) (by decide) ?_
    refine x_icmp_ge hm rfl (t := 52) rfl (fun h1 => ?_) (fun h1 => ?_)
    · have hk100 : k = 100 := Nat.le_antisymm hkb ((jI_le (by decide) (by omega)).mp h1)
      refine x_aload_n hm rfl rfl ?_
      refine x_aload_n hm rfl rfl ?_
      refine x_aload_n hm rfl rfl ?_
      refine x_iload_n hm rfl rfl ?_
      refine x_callV hm rfl rfl (t146 (by omega)) ?_
      rw [hthk]
      refine x_if_eq hm rfl (t := 66) rfl (fun h2 => ?_) (fun h2 => ?_)
      · have hl : sLa (-1) nt np t (100 - k) k (sDays (-1) nt np k (M 67)) = -1 := by
          first
          | exact la_n hk100 (bI_eq0.mp h2)
          | exact absurd h2 (by assumption)
        refine x_iconst hm rfl (v := (-1 : Int32)) (by decide) ?_
        refine x_callV hm rfl rfl (t175) ?_
        refine x_cVi hm rfl rfl (e177) (fun v3 M3 r3 => ?_)
        refine x_iret hm rfl rfl (by first | rfl | exact bI_nar | decide) ?_
        first
          | exact ⟨_, _, rfl, rfl, orn_fin (M := M) (q := orN (sLa (-1) nt np t (100 - k) k (sDays (-1) nt np k (M 67)))) (by rw [hl]) hB.kq (hB.2 70 (by decide) (by decide)) r3⟩
          | exact ⟨_, _, rfl, rfl, orn_fin (M := M) (q := orN (sLa (-1) nt np t (100 - k) k (sDays (-1) nt np k (M 67)))) (by rw [hl]) hB.kq (hB.2 70 (by decide) (by decide)) r4⟩
          | exact ⟨_, _, rfl, rfl, orn_fin (M := M) (q := orN (sLa (-1) nt np t (100 - k) k (sDays (-1) nt np k (M 67)))) (by rw [hl]) hB.kq (hB.2 70 (by decide) (by decide)) r8⟩
          | exact ⟨_, _, rfl, rfl, orn_fin (M := M) (q := orN (sLa (-1) nt np t (100 - k) k (sDays (-1) nt np k (M 67)))) (by rw [hl]) hB.kq (hB.2 70 (by decide) (by decide)) r7⟩
      · have hl : sLa (-1) nt np t (100 - k) k (sDays (-1) nt np k (M 67)) = nI k := la_g (bI_ne0 h2)
        refine x_iload_n hm rfl rfl ?_
        refine x_goto hm rfl (t := 67) rfl ?_
        refine x_callV hm rfl rfl (t175) ?_
        refine x_cVi hm rfl rfl (e177) (fun v4 M4 r4 => ?_)
        refine x_iret hm rfl rfl (by first | rfl | exact bI_nar | decide) ?_
        first
          | exact ⟨_, _, rfl, rfl, orn_fin (M := M) (q := orN (sLa (-1) nt np t (100 - k) k (sDays (-1) nt np k (M 67)))) (by rw [hl]) hB.kq (hB.2 70 (by decide) (by decide)) r4⟩
          | exact ⟨_, _, rfl, rfl, orn_fin (M := M) (q := orN (sLa (-1) nt np t (100 - k) k (sDays (-1) nt np k (M 67)))) (by rw [hl]) hB.kq (hB.2 70 (by decide) (by decide)) r3⟩
          | exact ⟨_, _, rfl, rfl, orn_fin (M := M) (q := orN (sLa (-1) nt np t (100 - k) k (sDays (-1) nt np k (M 67)))) (by rw [hl]) hB.kq (hB.2 70 (by decide) (by decide)) r8⟩
          | exact ⟨_, _, rfl, rfl, orn_fin (M := M) (q := orN (sLa (-1) nt np t (100 - k) k (sDays (-1) nt np k (M 67)))) (by rw [hl]) hB.kq (hB.2 70 (by decide) (by decide)) r7⟩
    · have hk : k < 100 := Nat.lt_of_not_le fun h => h1 (nI_le h (by omega))
      refine x_aload_n hm rfl rfl ?_
      refine x_iload_n hm rfl rfl ?_
      refine x_callV hm rfl rfl (t146 (by omega)) ?_
      rw [hthk]
      refine x_if_ne hm rfl (t := 52) rfl (fun h5 => ?_) (fun h5 => ?_)
      · refine x_aload_n hm rfl rfl ?_
        refine x_aload_n hm rfl rfl ?_
        refine x_aload_n hm rfl rfl ?_
        refine x_iload_n hm rfl rfl ?_
        refine x_callV hm rfl rfl (t146 (by omega)) ?_
        rw [hthk]
        refine x_if_eq hm rfl (t := 66) rfl (fun h6 => ?_) (fun h6 => ?_)
        · have hl : sLa (-1) nt np t (100 - k) k (sDays (-1) nt np k (M 67)) = -1 := by
            first
            | exact la_n hk100 (bI_eq0.mp h6)
            | exact absurd h6 (by assumption)
          refine x_iconst hm rfl (v := (-1 : Int32)) (by decide) ?_
          refine x_callV hm rfl rfl (t175) ?_
          refine x_cVi hm rfl rfl (e177) (fun v7 M7 r7 => ?_)
          refine x_iret hm rfl rfl (by first | rfl | exact bI_nar | decide) ?_
          first
            | exact ⟨_, _, rfl, rfl, orn_fin (M := M) (q := orN (sLa (-1) nt np t (100 - k) k (sDays (-1) nt np k (M 67)))) (by rw [hl]) hB.kq (hB.2 70 (by decide) (by decide)) r7⟩
            | exact ⟨_, _, rfl, rfl, orn_fin (M := M) (q := orN (sLa (-1) nt np t (100 - k) k (sDays (-1) nt np k (M 67)))) (by rw [hl]) hB.kq (hB.2 70 (by decide) (by decide)) r4⟩
            | exact ⟨_, _, rfl, rfl, orn_fin (M := M) (q := orN (sLa (-1) nt np t (100 - k) k (sDays (-1) nt np k (M 67)))) (by rw [hl]) hB.kq (hB.2 70 (by decide) (by decide)) r3⟩
            | exact ⟨_, _, rfl, rfl, orn_fin (M := M) (q := orN (sLa (-1) nt np t (100 - k) k (sDays (-1) nt np k (M 67)))) (by rw [hl]) hB.kq (hB.2 70 (by decide) (by decide)) r8⟩
        · have hl : sLa (-1) nt np t (100 - k) k (sDays (-1) nt np k (M 67)) = nI k := la_g (bI_ne0 h6)
          refine x_iload_n hm rfl rfl ?_
          refine x_goto hm rfl (t := 67) rfl ?_
          refine x_callV hm rfl rfl (t175) ?_
          refine x_cVi hm rfl rfl (e177) (fun v8 M8 r8 => ?_)
          refine x_iret hm rfl rfl (by first | rfl | exact bI_nar | decide) ?_
          first
            | exact ⟨_, _, rfl, rfl, orn_fin (M := M) (q := orN (sLa (-1) nt np t (100 - k) k (sDays (-1) nt np k (M 67)))) (by rw [hl]) hB.kq (hB.2 70 (by decide) (by decide)) r8⟩
            | exact ⟨_, _, rfl, rfl, orn_fin (M := M) (q := orN (sLa (-1) nt np t (100 - k) k (sDays (-1) nt np k (M 67)))) (by rw [hl]) hB.kq (hB.2 70 (by decide) (by decide)) r4⟩
            | exact ⟨_, _, rfl, rfl, orn_fin (M := M) (q := orN (sLa (-1) nt np t (100 - k) k (sDays (-1) nt np k (M 67)))) (by rw [hl]) hB.kq (hB.2 70 (by decide) (by decide)) r3⟩
            | exact ⟨_, _, rfl, rfl, orn_fin (M := M) (q := orN (sLa (-1) nt np t (100 - k) k (sDays (-1) nt np k (M 67)))) (by rw [hl]) hB.kq (hB.2 70 (by decide) (by decide)) r7⟩
      · refine x_aload_n hm rfl rfl ?_
        refine x_cVv hm rfl rfl (e165 (hD.1.1 hW.aside) (hD.1.2.1.trans ((congrFun (cp_o (by decide)) 1).trans hnt)) hn8 (hD.1.2.2.1.trans ((congrFun (cp_o (by decide)) 2).trans hnp)) hp8) (fun M9 r9 => ?_)
        refine x_iinc hm rfl rfl (v := nI 1) (by decide) rfl ?_
        rw [jI_add]
        refine x_goto hm rfl (t := 28) rfl ?_
        first
          | (have hs := hd.to r9.2
             rw [hd.1, hd.2 66 (by decide) (by decide), cp_o (by decide), h6] at hs
             have h9 := ih (k + 1) _ (by omega) (by omega) (hD.trans r9.1) hs
             rw [la_s hk (bI_eq0.mp (by assumption))]
             exact h9)
theorem e176 {a1 : Int32} {nt np : Nat} (hW : Wf M) (hnt : M 67 1 = nI nt) (hn8 : nt ≤ 8) (hnp : M 67 2 = nI np) (hp8 : np ≤ 8) (h6 : M 66 6 = -1) : ∃ v M', mT X 176 [.ref 66, .int a1] (con M) (some (.int v)) (con M') ∧ v = (qLasts (M 67) nt np a1).1 ∧ Kq M M' ∧ Fq (qLasts (M 67) nt np a1) M M' := by
  refine ti_of (row := _) rfl (Nat.le_of_ble_eq_true rfl) ?_
  have hm : mMet 176 = some _ := rfl
  refine x_aload_n hm rfl rfl ?_
  refine x_iload_n hm rfl rfl ?_
  refine x_callV hm rfl rfl (t139) ?_
  rw [hnt]
  refine x_if_ne hm rfl (t := 15) rfl (fun h1 => ?_) (fun h1 => ?_)
  · obtain ⟨t, ht, rfl⟩ := in_k rfl (by omega) (bI_ne0 h1)
    refine x_aload_n hm rfl rfl ?_
    refine x_getf hm rfl (gR rfl rfl) ?_
    refine x_aload_n hm rfl rfl ?_
    refine x_getf hm rfl (gR rfl rfl) ?_
    refine x_callS hm rfl rfl (t174 rfl rfl (by decide)) ?_
    refine x_iconst hm rfl (v := nI 0) (by decide) ?_
    refine x_istore_n hm rfl rfl ?_
    have hq : qLasts (M 67) nt np (nI t) = orN (sLa (-1) nt np t (100 - 0) 0 (sDays (-1) nt np 0 (M 67))) := by
      unfold qLasts
      rw [if_neg (by assumption)]
      rw [jI_nat (k := t) (by omega)]
      rfl
    rw [hq]
    exact m176 hW hnt hn8 hnp hp8 h6 (by omega) _ 0 _ (Nat.lt_succ_self _) (Nat.zero_le _) Dy.rf (by have h := Dd.rf (M := cp M 67 69 118); rw [cp_o (by decide)] at h; exact h)
  · refine x_aload_n hm rfl rfl ?_
    refine x_ldcI hm rfl (v := (-1000001 : Int32)) (by decide +kernel) ?_
    refine x_callV hm rfl rfl (e135 (by decide +kernel)) ?_
    refine x_iret hm rfl rfl (by first | rfl | exact bI_nar | decide) ?_
    have hq : qLasts (M 67) nt np a1 = (-1000001, true) := by
      unfold qLasts
      first
        | rw [if_pos (by assumption)]
    exact ⟨_, _, rfl, rfl, congrArg Prod.fst hq.symm, fndR_kq, by rw [hq]; exact fndR_fq⟩
theorem m181 {p t : Nat} (hp : p < 8) (ht : t < 8) : ∀ (n k : Nat) (x : Int32), 16 - k < n → k ≤ 16 → mEv X (QI (fun v M' => v = (sSe (M 67 (14 + 6 * t + 1)) (M 67 (62 + 7 * p + 2)) (16 - k) k x).1 ∧ Kq M M' ∧ Fq (sSe (M 67 (14 + 6 * t + 1)) (M 67 (62 + 7 * p + 2)) (16 - k) k x) M M')) 181 33 [some (.ref 66), some (.int (nI p)), some (.int (nI t)), some (.int x), some (.int (nI k))] [] (con M) := by
  have hm : mMet 181 = some _ := rfl
  intro n
  induction n with
  | zero =>
    intro k x hkn hkb
    omega
  | succ n ih =>
    intro k x hkn hkb
    refine x_iload hm rfl rfl ?_
    refine x_bipush hm rfl (v := nI 16) (by decide) ?_
    refine x_icmp_ge hm rfl (t := 68) rfl (fun h1 => ?_) (fun h1 => ?_)
    · obtain rfl : k = 16 := Nat.le_antisymm hkb ((jI_le (by decide) (by omega)).mp h1)
      refine x_iload hm rfl rfl ?_
      refine x_bipush hm rfl (v := nI 16) (by decide) ?_
      refine x_icmp_ge hm rfl (t := 80) rfl (fun h2 => ?_) (fun h2 => ?_)
      · refine x_aload_n hm rfl rfl ?_
        refine x_ldcI hm rfl (v := (-1000004 : Int32)) (by decide +kernel) ?_
        refine x_callV hm rfl rfl (e135 (by decide +kernel)) ?_
        refine x_iret hm rfl rfl (by first | rfl | exact bI_nar | decide) ?_
        first
          | exact absurd (show nI 16 ≤ nI k by assumption) (show ¬ nI 16 ≤ nI k by assumption)
          | exact absurd (nI_le (Nat.le_refl 16) (by decide)) (by assumption)
          | (have hq : sSe (M 67 (14 + 6 * t + 1)) (M 67 (62 + 7 * p + 2)) ((16 - (k + 1)) + 1) k x = (nI k, false) := if_pos (by assumption)
             exact ⟨_, _, rfl, rfl, fst_q hq, Kq.rf, by rw [hq]; exact rfl⟩)
          | exact ⟨_, _, rfl, rfl, rfl, fndR_kq, fndR_fq⟩
      · refine x_iload hm rfl rfl ?_
        refine x_goto hm rfl (t := 86) rfl ?_
        refine x_iret hm rfl rfl (by first | rfl | exact bI_nar | decide) ?_
        first
          | exact absurd (show nI 16 ≤ nI k by assumption) (show ¬ nI 16 ≤ nI k by assumption)
          | exact absurd (nI_le (Nat.le_refl 16) (by decide)) (by assumption)
          | (have hq : sSe (M 67 (14 + 6 * t + 1)) (M 67 (62 + 7 * p + 2)) ((16 - (k + 1)) + 1) k x = (nI k, false) := if_pos (by assumption)
             exact ⟨_, _, rfl, rfl, fst_q hq, Kq.rf, by rw [hq]; exact rfl⟩)
          | exact ⟨_, _, rfl, rfl, rfl, fndR_kq, fndR_fq⟩
    · have hk : k < 16 := Nat.lt_of_not_le fun h => h1 (nI_le h (by omega))
      have e16 : 16 - k = (16 - (k + 1)) + 1 := by omega
      rw [e16]
      refine x_iload_n hm rfl rfl ?_
      refine x_aload_n hm rfl rfl ?_
      refine x_iload_n hm rfl rfl ?_
      refine x_iconst hm rfl (v := nI 1) (by decide) ?_
      refine x_callV hm rfl rfl (t143 (by omega) (by omega)) ?_
      refine x_icmp_eq hm rfl (t := 68) rfl (fun h3 => ?_) (fun h3 => ?_)
      · refine x_iload hm rfl rfl ?_
        refine x_bipush hm rfl (v := nI 16) (by decide) ?_
        refine x_icmp_ge hm rfl (t := 80) rfl (fun h4 => ?_) (fun h4 => ?_)
        · refine x_aload_n hm rfl rfl ?_
          refine x_ldcI hm rfl (v := (-1000004 : Int32)) (by decide +kernel) ?_
          refine x_callV hm rfl rfl (e135 (by decide +kernel)) ?_
          refine x_iret hm rfl rfl (by first | rfl | exact bI_nar | decide) ?_
          first
            | exact absurd (show nI 16 ≤ nI k by assumption) (show ¬ nI 16 ≤ nI k by assumption)
            | exact absurd (nI_le (Nat.le_refl 16) (by decide)) (by assumption)
            | (have hq : sSe (M 67 (14 + 6 * t + 1)) (M 67 (62 + 7 * p + 2)) ((16 - (k + 1)) + 1) k x = (nI k, false) := if_pos (by assumption)
               exact ⟨_, _, rfl, rfl, fst_q hq, Kq.rf, by rw [hq]; exact rfl⟩)
            | exact ⟨_, _, rfl, rfl, rfl, fndR_kq, fndR_fq⟩
        · refine x_iload hm rfl rfl ?_
          refine x_goto hm rfl (t := 86) rfl ?_
          refine x_iret hm rfl rfl (by first | rfl | exact bI_nar | decide) ?_
          first
            | exact absurd (show nI 16 ≤ nI k by assumption) (show ¬ nI 16 ≤ nI k by assumption)
            | exact absurd (nI_le (Nat.le_refl 16) (by decide)) (by assumption)
            | (have hq : sSe (M 67 (14 + 6 * t + 1)) (M 67 (62 + 7 * p + 2)) ((16 - (k + 1)) + 1) k x = (nI k, false) := if_pos (by assumption)
               exact ⟨_, _, rfl, rfl, fst_q hq, Kq.rf, by rw [hq]; exact rfl⟩)
            | exact ⟨_, _, rfl, rfl, rfl, fndR_kq, fndR_fq⟩
      · refine x_iload_n hm rfl rfl ?_
        refine x_aload_n hm rfl rfl ?_
        refine x_iload_n hm rfl rfl ?_
        refine x_iconst hm rfl (v := nI 2) (by decide) ?_
        refine x_callV hm rfl rfl (t141 (by omega) (by omega)) ?_
        refine x_iadd hm rfl ?_
        refine x_bipush hm rfl (v := nI 16) (by decide) ?_
        refine x_irem hm rfl (by decide) ?_
        refine x_istore_n hm rfl rfl ?_
        refine x_iinc hm rfl rfl (v := nI 1) (by decide) rfl ?_
        rw [jI_add]
        refine x_goto hm rfl (t := 33) rfl ?_
        rw [show sSe (M 67 (14 + 6 * t + 1)) (M 67 (62 + 7 * p + 2)) ((16 - (k + 1)) + 1) k x = sSe (M 67 (14 + 6 * t + 1)) (M 67 (62 + 7 * p + 2)) (16 - (k + 1)) (k + 1) (rem16 (x + M 67 (62 + 7 * p + 2))) from if_neg (by assumption)]
        exact ih _ _ (by omega) (by omega)
theorem e181 {a1 a2 : Int32} {nt np : Nat} (hW : Wf M) (hnt : M 67 1 = nI nt) (hn8 : nt ≤ 8) (hnp : M 67 2 = nI np) (hp8 : np ≤ 8) (h6 : M 66 6 = -1) : ∃ v M', mT X 181 [.ref 66, .int a1, .int a2] (con M) (some (.int v)) (con M') ∧ v = (qSees (M 67) nt np a1 a2).1 ∧ Kq M M' ∧ Fq (qSees (M 67) nt np a1 a2) M M' := by
  refine ti_of (row := _) rfl (Nat.le_of_ble_eq_true rfl) ?_
  have hm : mMet 181 = some _ := rfl
  refine x_aload_n hm rfl rfl ?_
  refine x_iload_n hm rfl rfl ?_
  refine x_callV hm rfl rfl (t153) ?_
  rw [hnp]
  refine x_if_eq hm rfl (t := 16) rfl (fun h1 => ?_) (fun h1 => ?_)
  · refine x_aload_n hm rfl rfl ?_
    refine x_ldcI hm rfl (v := (-1000001 : Int32)) (by decide +kernel) ?_
    refine x_callV hm rfl rfl (e135 (by decide +kernel)) ?_
    refine x_iret hm rfl rfl (by first | rfl | exact bI_nar | decide) ?_
    first
      | (have hq : qSees (M 67) nt np a1 a2 = (-1000001, true) := by
           unfold qSees
           first
             | rw [if_pos (by assumption)]
         exact ⟨_, _, rfl, rfl, congrArg Prod.fst hq.symm, fndR_kq, by rw [hq]; exact fndR_fq⟩)
      | (have hq : qSees (M 67) nt np (nI p) a2 = (-1000001, true) := by
           unfold qSees
           first
             | rw [if_pos (by assumption)]
             | rw [if_neg (by assumption), if_pos (by assumption)]
         exact ⟨_, _, rfl, rfl, congrArg Prod.fst hq.symm, fndR_kq, by rw [hq]; exact fndR_fq⟩)
  · obtain ⟨p, hp, rfl⟩ := in_k rfl (by omega) (bI_ne0 h1)
    refine x_aload_n hm rfl rfl ?_
    refine x_iload_n hm rfl rfl ?_
    refine x_callV hm rfl rfl (t139) ?_
    rw [hnt]
    refine x_if_ne hm rfl (t := 23) rfl (fun h2 => ?_) (fun h2 => ?_)
    · obtain ⟨t, ht, rfl⟩ := in_k rfl (by omega) (bI_ne0 h2)
      refine x_aload_n hm rfl rfl ?_
      refine x_iload_n hm rfl rfl ?_
      refine x_iconst hm rfl (v := nI 1) (by decide) ?_
      refine x_callV hm rfl rfl (t141 (by omega) (by omega)) ?_
      refine x_istore_n hm rfl rfl ?_
      refine x_iconst hm rfl (v := nI 0) (by decide) ?_
      refine x_istore hm rfl rfl ?_
      have hq : qSees (M 67) nt np (nI p) (nI t) = sSe (M 67 (14 + 6 * t + 1)) (M 67 (62 + 7 * p + 2)) (16 - 0) 0 (M 67 (62 + 7 * p + 1)) := by
        unfold qSees
        rw [if_neg (by assumption), if_neg (by assumption)]
        rw [jI_nat (k := p) (by omega)]
        rw [jI_nat (k := t) (by omega)]
      rw [hq]
      exact m181 (by omega) (by omega) _ 0 _ (Nat.lt_succ_self _) (Nat.zero_le _)
    · refine x_aload_n hm rfl rfl ?_
      refine x_ldcI hm rfl (v := (-1000001 : Int32)) (by decide +kernel) ?_
      refine x_callV hm rfl rfl (e135 (by decide +kernel)) ?_
      refine x_iret hm rfl rfl (by first | rfl | exact bI_nar | decide) ?_
      first
        | (have hq : qSees (M 67) nt np a1 a2 = (-1000001, true) := by
             unfold qSees
             first
               | rw [if_pos (by assumption)]
           exact ⟨_, _, rfl, rfl, congrArg Prod.fst hq.symm, fndR_kq, by rw [hq]; exact fndR_fq⟩)
        | (have hq : qSees (M 67) nt np (nI p) a2 = (-1000001, true) := by
             unfold qSees
             first
               | rw [if_pos (by assumption)]
               | rw [if_neg (by assumption), if_pos (by assumption)]
           exact ⟨_, _, rfl, rfl, congrArg Prod.fst hq.symm, fndR_kq, by rw [hq]; exact fndR_fq⟩)
end EH
end
