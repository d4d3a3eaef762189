/-! ===== the class, exactly: days ===== -/
section PD
variable {nt np : Nat} {r q : Nat → Int32} {w : Int32}
/-- what a thing's wear asks of the row -/
def Aw (r q : Nat → Int32) (t : Nat) : Prop := (∀ f, f < 6 → q (14 + 6 * t + f) = r (14 + 6 * t + f)) ∧ ∀ j, 62 ≤ j → q j = r j
theorem Aw.env {t p : Nat} {o : Int32} (h : Aw r q t) : sEnv q w o p t = sEnv r w o p t := by
  have h0 := h.1 0 (by decide)
  have h2 := h.1 2 (by decide)
  have h3 := h.1 3 (by decide)
  have hp : sPl q p t = sPl r p t := by
    unfold sPl
    rw [h0, h3, h.2 _ (by omega)]
  have hr : sRi q o p t = sRi r o p t := by
    unfold sRi
    rw [h.2 _ (by omega), hp]
  unfold sEnv
  rw [h2, h.2 _ (by omega), hp, hr]
theorem Aw.wear {t : Nat} (h : Aw r q t) : sWear q w np t = sWear r w np t := by
  unfold sWear sWs
  rw [h.1 2 (by decide), fo_c (g := fun p s => s + (if r (62 + 7 * p + 1) = r (14 + 6 * t + 1) then sEnv r w (r (14 + 6 * t + 4)) p t else nI 0))]
  intro p s _
  rw [h.2 _ (by omega), h.1 1 (by decide), h.1 4 (by decide), h.env]
theorem sWorn_o {r0 : Nat → Int32} : ∀ (n j : Nat), (∀ t, t < n → j ≠ 14 + 6 * t + 2) → sWorn r0 w np n r j = r j := by
  intro n
  induction n with
  | zero => intro j _; rfl
  | succ n ih =>
    intro j h
    show put1 (sWorn r0 w np n r) (14 + 6 * n + 2) _ j = _
    rw [put1_o (h n (Nat.lt_succ_self n)), ih j fun t ht => h t (by omega)]
theorem sWorn_aw {k : Nat} (h8 : k < 8) : Aw r (sWorn r w np k r) k := ⟨fun f hf => sWorn_o k _ (fun t ht => by omega), fun j hj => sWorn_o k _ (fun t ht => by omega)⟩
theorem sFp1_o {n j : Nat} {z : (Nat → Int32) × Int32} (h : j ≠ 14 + 6 * n + 2) : (sFp1 n z).1 j = z.1 j := by
  unfold sFp1
  split
  · exact put1_o h
  · rfl
theorem sFp_o : ∀ (n : Nat) (z : (Nat → Int32) × Int32) (j : Nat), (∀ t, t < n → j ≠ 14 + 6 * t + 2) → (fo sFp1 n z).1 j = z.1 j := by
  intro n
  induction n with
  | zero => intro z j _; rfl
  | succ n ih =>
    intro z j h
    show (sFp1 n (fo sFp1 n z)).1 j = _
    rw [sFp1_o (h n (Nat.lt_succ_self n)), ih z j fun t ht => h t (by omega)]
theorem sFall_o {n : Nat} : ∀ (f : Nat) (r : Nat → Int32) (j : Nat), (∀ t, t < n → j ≠ 14 + 6 * t + 2) → sFall n f r j = r j := by
  intro f
  induction f with
  | zero => intro r j _; rfl
  | succ f ih =>
    intro r j h
    unfold sFall
    split
    · exact sFp_o n _ j h
    · rw [ih _ j h]
      exact sFp_o n _ j h
theorem sGo_o : ∀ (n j : Nat), (∀ p, p < n → j ≠ 62 + 7 * p + 1) → sGo n r j = r j := by
  intro n
  induction n with
  | zero => intro j _; rfl
  | succ n ih =>
    intro j h
    show put1 (sGo n r) _ _ j = _
    rw [put1_o (h n (Nat.lt_succ_self n)), ih j fun t ht => h t (by omega)]
theorem sDay_o {j : Nat} (h0 : j ≠ 0) (h1 : ∀ t, t < nt → j ≠ 14 + 6 * t + 2) (h2 : ∀ p, p < np → j ≠ 62 + 7 * p + 1) : sDay w nt np r j = r j := by
  unfold sDay sTick
  rw [put1_o h0, sGo_o np j h2, sFall_o 8 _ j h1, sWorn_o nt j h1]
theorem Vs.day (h : Vs nt np r) : Vs nt np (sDay w nt np r) := by
  have h1 := h.1
  have h2 := h.2.1
  exact h.of (fun t f ht hf => sDay_o (by omega) (fun u hu => by omega) (fun p hp => by omega)) (fun p hp => sDay_o (by omega) (fun u hu => by omega) (fun p hp => by omega))
theorem Vs.days (h : Vs nt np r) : ∀ n, Vs nt np (sDays w nt np n r) := by
  intro n
  induction n with
  | zero => exact h
  | succ n ih => exact Vs.day ih
end PD
section ED
variable {X : mSc} {Q : Option Value → mHp → Prop} {M : mM} {b nt np : Nat} {r : Nat → Int32}
theorem e34 {a1 a2 : Int32} : mT X 34 [.int a1, .int a2] (con M) (some (.int (rem16 (a1 + a2)))) (con M) := by
  refine mT.of (row := _) rfl (Nat.le_of_ble_eq_true rfl) ?_
  have hm : mMet 34 = some _ := rfl
  refine x_iload_n hm rfl rfl ?_
  refine x_iload_n hm rfl rfl ?_
  refine x_iadd hm rfl ?_
  refine x_bipush hm rfl (v := nI 16) (by decide) ?_
  refine x_irem hm rfl (by decide) ?_
  refine x_iret hm rfl rfl (by first | rfl | exact bI_nar | decide) ?_
  exact ⟨rfl, rfl⟩
theorem m31b {i : Nat} {r1 : Nat → Int32} (hb : b = 1 ∨ b = 18 ∨ b = 35) (hV : Vs nt np r) (hr1 : ∀ t, t < nt → r1 (14 + 6 * t + 5) = r (14 + 6 * t + 5)) (hout : ∀ (g : Int32) (x3 x4 : Option Value) (M1 : mM) (q : Nat → Int32), sFp nt r1 = (q, g) → Tc b nt np q M M1 → mEv X (QV (fun M' => Tc b nt np (sFall nt 8 r) M M')) 31 4 [some (.ref b), some (.int g), some (.int (nI (i + 1))), x3, x4] [] (con M1)) : ∀ (n k : Nat) (g : Int32) (x4 : Option Value) (M1 : mM) (q : Nat → Int32), nt - k < n → k ≤ nt → fo sFp1 k (r1, nI 0) = (q, g) → Tc b nt np q M M1 → mEv X (QV (fun M' => Tc b nt np (sFall nt 8 r) M M')) 31 18 [some (.ref b), some (.int g), some (.int (nI i)), some (.int (nI k)), x4] [] (con M1) := by
  have hm : mMet 31 = some _ := rfl
  intro n
  induction n with
  | zero =>
    intro k g x4 M1 q hkn hkb hf hC
    omega
  | succ n ih =>
    intro k g x4 M1 q hkn hkb hf hC
    obtain ⟨hnb, hmb, -⟩ := id hC.1
    have hR1 := hC.1
    have h8 := hV.1
    have hp8 := hV.2.1
    have hq : ∀ t, t < nt → q (14 + 6 * t + 5) = r (14 + 6 * t + 5) := fun t ht => by
      rw [← show (fo sFp1 k (r1, nI 0)).1 = q from congrArg Prod.fst hf, sFp_o k _ _ (fun u hu => by omega)]
      exact hr1 t ht
    refine x_iload_n hm rfl rfl ?_
    refine x_aload_n hm rfl rfl ?_
    refine x_getf hm rfl (gI (tO hb) rfl) ?_
    rw [hnb]
    refine x_icmp_ge hm rfl (t := 76) rfl (fun h1 => ?_) (fun h1 => ?_)
    · obtain rfl : k = nt := Nat.le_antisymm hkb ((jI_le (by omega) (by omega)).mp h1)
      refine x_iinc hm rfl rfl (v := nI 1) (by decide) rfl ?_
      rw [jI_add]
      refine x_goto hm rfl (t := 4) rfl ?_
      exact hout _ _ _ _ _ hf hC
    · have hk : k < nt := Nat.lt_of_not_le fun h => h1 (nI_le h (by omega))
      have hon := (hq k hk).symm ▸ (hV.on hk)
      refine x_aload_n hm rfl rfl ?_
      refine x_getf hm rfl (gR (tO hb) rfl) ?_
      refine x_iconst hm rfl (v := nI 5) (by decide) ?_
      refine x_aald hm rfl (by first | exact lQ 3 (Or.inr (Or.inl rfl)) (tI hb) rfl (by omega) (by decide) | exact lQ 3 (Or.inr (Or.inl rfl)) (tF hb) rfl (by omega) (by decide) | exact lQ 3 (Or.inr (Or.inl rfl)) (tI hb) (tIk (by omega)) (by omega) (by decide) | exact lQ 3 (Or.inr (Or.inl rfl)) (tF hb) (tFk (by omega)) (by omega) (by decide)) ?_
      refine x_iload_n hm rfl rfl ?_
      refine x_iald hm rfl (by first | exact lI (tRow hb (by omega)) (by omega) (by decide) | exact lI (tRowI hb (by omega)) (by omega) (by decide) | exact lI (tRowF hb (by omega)) (by omega) (by decide) | exact lI (tSp hb) (by omega) (by decide) | exact lI rfl (by omega) (by decide)) ?_
      rw [hR1.on hk]
      refine x_istore hm rfl rfl ?_
      refine x_iload hm rfl rfl ?_
      refine x_iconst hm rfl (v := (-1 : Int32)) (by decide) ?_
      refine x_icmp_eq hm rfl (t := 70) rfl (fun h2 => ?_) (fun h2 => ?_)
      · have hz := sFp_s hf (sFpF (Or.inr (Or.inl (by rw [h2]; decide))))
        refine x_iinc hm rfl rfl (v := nI 1) (by decide) rfl ?_
        rw [jI_add]
        refine x_goto hm rfl (t := 18) rfl ?_
        first
          | exact ih _ _ _ _ _ (by omega) (by omega) hz hC
          | exact ih _ _ _ _ _ (by omega) (by omega) hz (hC.pi (f := 2) h8 (by decide) hk)
      · obtain ⟨w, hw, hw2⟩ := hon.resolve_left h2
        have hneg : ¬ q (14 + 6 * k + 5) < 0 := by rw [hw2]; exact jI_nn (by omega)
        refine x_aload_n hm rfl rfl ?_
        refine x_iload hm rfl rfl ?_
        rw [hw2]
        refine x_callV hm rfl (mCallT hb (by decide) rfl rfl rfl rfl rfl) (t32 hb (by omega)) ?_
        rw [hR1.thick hw]
        refine x_if_eq hm rfl (t := 70) rfl (fun h3 => ?_) (fun h3 => ?_)
        · have hz := sFp_s hf (sFpF (Or.inr (Or.inr (by rw [hw2, jI_nat (by omega)]; exact bI_eq0.mp h3))))
          refine x_iinc hm rfl rfl (v := nI 1) (by decide) rfl ?_
          rw [jI_add]
          refine x_goto hm rfl (t := 18) rfl ?_
          first
            | exact ih _ _ _ _ _ (by omega) (by omega) hz hC
            | exact ih _ _ _ _ _ (by omega) (by omega) hz (hC.pi (f := 2) h8 (by decide) hk)
        · have hgh := bI_ne0 h3
          refine x_aload_n hm rfl rfl ?_
          refine x_iload_n hm rfl rfl ?_
          refine x_callV hm rfl (mCallT hb (by decide) rfl rfl rfl rfl rfl) (t32 hb (by omega)) ?_
          rw [hR1.thick hk]
          refine x_if_ne hm rfl (t := 70) rfl (fun h4 => ?_) (fun h4 => ?_)
          · have hz := sFp_s hf (sFpF (Or.inl (bI_ne0 h4)))
            refine x_iinc hm rfl rfl (v := nI 1) (by decide) rfl ?_
            rw [jI_add]
            refine x_goto hm rfl (t := 18) rfl ?_
            first
              | exact ih _ _ _ _ _ (by omega) (by omega) hz hC
              | exact ih _ _ _ _ _ (by omega) (by omega) hz (hC.pi (f := 2) h8 (by decide) hk)
          · have hz := sFp_s hf (sFpT (bI_eq0.mp h4) hneg (by rw [hw2, jI_nat (by omega)]; exact hgh))
            refine x_aload_n hm rfl rfl ?_
            refine x_getf hm rfl (gR (tO hb) rfl) ?_
            refine x_iconst hm rfl (v := nI 2) (by decide) ?_
            refine x_aald hm rfl (by first | exact lQ 3 (Or.inr (Or.inl rfl)) (tI hb) rfl (by omega) (by decide) | exact lQ 3 (Or.inr (Or.inl rfl)) (tF hb) rfl (by omega) (by decide) | exact lQ 3 (Or.inr (Or.inl rfl)) (tI hb) (tIk (by omega)) (by omega) (by decide) | exact lQ 3 (Or.inr (Or.inl rfl)) (tF hb) (tFk (by omega)) (by omega) (by decide)) ?_
            refine x_iload_n hm rfl rfl ?_
            refine x_iconst hm rfl (v := nI 0) (by decide) ?_
            refine x_iast hm rfl (by first | exact sI (tRow hb (by omega)) (by omega) (by decide) | exact sI (tRowI hb (by omega)) (by omega) (by decide) | exact sI (tRowF hb (by omega)) (by omega) (by decide) | exact sI (tSp hb) (by omega) (by decide) | exact sI rfl (by omega) (by decide)) ?_
            refine x_iconst hm rfl (v := nI 1) (by decide) ?_
            refine x_istore_n hm rfl rfl ?_
            refine x_iinc hm rfl rfl (v := nI 1) (by decide) rfl ?_
            rw [jI_add]
            refine x_goto hm rfl (t := 18) rfl ?_
            first
              | exact ih _ _ _ _ _ (by omega) (by omega) hz hC
              | exact ih _ _ _ _ _ (by omega) (by omega) hz (hC.pi (f := 2) h8 (by decide) hk)
theorem m31a (hb : b = 1 ∨ b = 18 ∨ b = 35) (hV : Vs nt np r) : ∀ (n i : Nat) (g : Int32) (x3 x4 : Option Value) (M1 : mM) (q : Nat → Int32), 8 - i < n → i ≤ 8 → Tc b nt np q M M1 → (∀ t, t < nt → q (14 + 6 * t + 5) = r (14 + 6 * t + 5)) → (g = 0 → q = sFall nt 8 r) → (¬ g = 0 → sFall nt (8 - i) q = sFall nt 8 r) → mEv X (QV (fun M' => Tc b nt np (sFall nt 8 r) M M')) 31 4 [some (.ref b), some (.int g), some (.int (nI i)), x3, x4] [] (con M1) := by
  have hm : mMet 31 = some _ := rfl
  intro n
  induction n with
  | zero =>
    intro i g x3 x4 M1 q hin hi hC hq hg0 hg1
    omega
  | succ n ih =>
    intro i g x3 x4 M1 q hin hi hC hq hg0 hg1
    refine x_iload_n hm rfl rfl ?_
    refine x_bipush hm rfl (v := nI 8) (by decide) ?_
    refine x_icmp_ge hm rfl (t := 82) rfl (fun h1 => ?_) (fun h1 => ?_)
    · obtain rfl : i = 8 := Nat.le_antisymm hi ((jI_le (by decide) (by omega)).mp h1)
      have hR8 : q = sFall nt 8 r := by
        by_cases e : g = 0
        · exact hg0 e
        · exact hg1 e
      refine x_ret hm rfl rfl ?_
      rw [← hR8]
      exact ⟨_, rfl, rfl, hC⟩
    · have hk : i < 8 := Nat.lt_of_not_le fun h => h1 (nI_le h (by omega))
      refine x_iload_n hm rfl rfl ?_
      refine x_if_eq hm rfl (t := 82) rfl (fun h2 => ?_) (fun h2 => ?_)
      · have hR8 := hg0 h2
        refine x_ret hm rfl rfl ?_
        rw [← hR8]
        exact ⟨_, rfl, rfl, hC⟩
      · have hR9 := hg1 h2
        refine x_iconst hm rfl (v := nI 0) (by decide) ?_
        refine x_istore_n hm rfl rfl ?_
        refine x_iconst hm rfl (v := nI 0) (by decide) ?_
        refine x_istore_n hm rfl rfl ?_
        refine m31b hb hV hq (fun g x3 x4 M2 q2 hf h => ?_) _ 0 _ _ _ _ (Nat.lt_succ_self _) (Nat.zero_le _) rfl hC
        have e8 : 8 - i = (8 - (i + 1)) + 1 := by omega
        rw [e8] at hR9
        have hR10 : (if (sFp nt q).2 = nI 0 then (sFp nt q).1 else sFall nt (8 - (i + 1)) (sFp nt q).1) = sFall nt 8 r := hR9
        rw [hf] at hR10
        refine ih _ _ _ _ _ _ (by omega) (by omega) h (fun t ht => ?_) (fun e => ?_) (fun e => ?_)
        · rw [← show (sFp nt q).1 = q2 from congrArg Prod.fst hf]
          exact (sFp_o nt _ _ (fun u hu => by omega)).trans (hq t ht)
        · rw [if_pos (show (q2, g).2 = nI 0 from e)] at hR10
          exact hR10
        · rw [if_neg (show ¬ (q2, g).2 = nI 0 from e)] at hR10
          exact hR10
theorem e31 (hb : b = 1 ∨ b = 18 ∨ b = 35) (hR : Rel b nt np M r) (hV : Vs nt np r) : ∃ M', mT X 31 [.ref b] (con M) none (con M') ∧ Tc b nt np (sFall nt 8 r) M M' := by
  refine tv_of (row := _) rfl (Nat.le_of_ble_eq_true rfl) ?_
  have hm : mMet 31 = some _ := rfl
  refine x_iconst hm rfl (v := nI 1) (by decide) ?_
  refine x_istore_n hm rfl rfl ?_
  refine x_iconst hm rfl (v := nI 0) (by decide) ?_
  refine x_istore_n hm rfl rfl ?_
  exact m31a hb hV _ 0 _ _ _ _ _ (Nat.lt_succ_self _) (Nat.zero_le _) hR.tc (fun _ _ => rfl) (fun e => absurd e (by decide)) (fun _ => rfl)
theorem m33 (hb : b = 1 ∨ b = 18 ∨ b = 35) (hV : Vs nt np r) : ∀ (n k : Nat) (M1 : mM), np - k < n → k ≤ np → Tc b nt np (sGo k r) M M1 → mEv X (QV (fun M' => Tc b nt np (sGo np r) M M')) 33 2 [some (.ref b), some (.int (nI k))] [] (con M1) := by
  have hm : mMet 33 = some _ := rfl
  intro n
  induction n with
  | zero =>
    intro k M1 hkn hkb hC
    omega
  | succ n ih =>
    intro k M1 hkn hkb hC
    obtain ⟨hnb, hmb, -⟩ := id hC.1
    have hR1 := hC.1
    have h8 := hV.1
    have hp8 := hV.2.1
    refine x_iload_n hm rfl rfl ?_
    refine x_aload_n hm rfl rfl ?_
    refine x_getf hm rfl (gI (tO hb) rfl) ?_
    rw [hmb]
    refine x_icmp_ge hm rfl (t := 43) rfl (fun h1 => ?_) (fun h1 => ?_)
    · obtain rfl : k = np := Nat.le_antisymm hkb ((jI_le (by omega) (by omega)).mp h1)
      refine x_ret hm rfl rfl ?_
      exact ⟨_, rfl, rfl, hC⟩
    · have hk : k < np := Nat.lt_of_not_le fun h => h1 (nI_le h (by omega))
      refine x_aload_n hm rfl rfl ?_
      refine x_getf hm rfl (gR (tO hb) rfl) ?_
      refine x_iconst hm rfl (v := nI 1) (by decide) ?_
      refine x_aald hm rfl (by first | exact lQ 3 (Or.inr (Or.inl rfl)) (tI hb) rfl (by omega) (by decide) | exact lQ 3 (Or.inr (Or.inl rfl)) (tF hb) rfl (by omega) (by decide) | exact lQ 3 (Or.inr (Or.inl rfl)) (tI hb) (tIk (by omega)) (by omega) (by decide) | exact lQ 3 (Or.inr (Or.inl rfl)) (tF hb) (tFk (by omega)) (by omega) (by decide)) ?_
      refine x_iload_n hm rfl rfl ?_
      refine x_aload_n hm rfl rfl ?_
      refine x_getf hm rfl (gR (tO hb) rfl) ?_
      refine x_iconst hm rfl (v := nI 1) (by decide) ?_
      refine x_aald hm rfl (by first | exact lQ 3 (Or.inr (Or.inl rfl)) (tI hb) rfl (by omega) (by decide) | exact lQ 3 (Or.inr (Or.inl rfl)) (tF hb) rfl (by omega) (by decide) | exact lQ 3 (Or.inr (Or.inl rfl)) (tI hb) (tIk (by omega)) (by omega) (by decide) | exact lQ 3 (Or.inr (Or.inl rfl)) (tF hb) (tFk (by omega)) (by omega) (by decide)) ?_
      refine x_iload_n hm rfl rfl ?_
      refine x_iald hm rfl (by first | exact lI (tRow hb (by omega)) (by omega) (by decide) | exact lI (tRowI hb (by omega)) (by omega) (by decide) | exact lI (tRowF hb (by omega)) (by omega) (by decide) | exact lI (tSp hb) (by omega) (by decide) | exact lI rfl (by omega) (by decide)) ?_
      rw [hR1.pat hk]
      refine x_aload_n hm rfl rfl ?_
      refine x_getf hm rfl (gR (tO hb) rfl) ?_
      refine x_iconst hm rfl (v := nI 2) (by decide) ?_
      refine x_aald hm rfl (by first | exact lQ 3 (Or.inr (Or.inl rfl)) (tI hb) rfl (by omega) (by decide) | exact lQ 3 (Or.inr (Or.inl rfl)) (tF hb) rfl (by omega) (by decide) | exact lQ 3 (Or.inr (Or.inl rfl)) (tI hb) (tIk (by omega)) (by omega) (by decide) | exact lQ 3 (Or.inr (Or.inl rfl)) (tF hb) (tFk (by omega)) (by omega) (by decide)) ?_
      refine x_iload_n hm rfl rfl ?_
      refine x_iald hm rfl (by first | exact lI (tRow hb (by omega)) (by omega) (by decide) | exact lI (tRowI hb (by omega)) (by omega) (by decide) | exact lI (tRowF hb (by omega)) (by omega) (by decide) | exact lI (tSp hb) (by omega) (by decide) | exact lI rfl (by omega) (by decide)) ?_
      rw [hR1.walk hk]
      refine x_callS hm rfl rfl (e34) ?_
      refine x_iast hm rfl (by first | exact sI (tRow hb (by omega)) (by omega) (by decide) | exact sI (tRowI hb (by omega)) (by omega) (by decide) | exact sI (tRowF hb (by omega)) (by omega) (by decide) | exact sI (tSp hb) (by omega) (by decide) | exact sI rfl (by omega) (by decide)) ?_
      refine x_iinc hm rfl rfl (v := nI 1) (by decide) rfl ?_
      rw [jI_add]
      refine x_goto hm rfl (t := 2) rfl ?_
      exact ih (k + 1) _ (by omega) (by omega) (hC.pf (f := 1) h8 (by decide) hk)
theorem e33 (hb : b = 1 ∨ b = 18 ∨ b = 35) (hR : Rel b nt np M r) (hV : Vs nt np r) : ∃ M', mT X 33 [.ref b] (con M) none (con M') ∧ Tc b nt np (sGo np r) M M' := by
  refine tv_of (row := _) rfl (Nat.le_of_ble_eq_true rfl) ?_
  have hm : mMet 33 = some _ := rfl
  refine x_iconst hm rfl (v := nI 0) (by decide) ?_
  refine x_istore_n hm rfl rfl ?_
  exact m33 hb hV _ 0 _ (Nat.lt_succ_self _) (Nat.zero_le _) hR.tc
theorem m30b {a i : Nat} (hb : b = 1 ∨ b = 18 ∨ b = 35) (hV : Vs nt np r) (hout : ∀ (x3 : Option Value) (M1 : mM), Tc b nt np (sDays (M b 7) nt np (i + 1) r) M M1 → mEv X (QV (fun M' => Tc b nt np (sDays (M b 7) nt np a r) M M')) 30 2 [some (.ref b), some (.int (nI a)), some (.int (nI (i + 1))), x3] [] (con M1)) : ∀ (n k : Nat) (M1 : mM), nt - k < n → k ≤ nt → Tc b nt np (sWorn (sDays (M b 7) nt np i r) (M b 7) np k (sDays (M b 7) nt np i r)) M M1 → mEv X (QV (fun M' => Tc b nt np (sDays (M b 7) nt np a r) M M')) 30 9 [some (.ref b), some (.int (nI a)), some (.int (nI i)), some (.int (nI k))] [] (con M1) := by
  have hm : mMet 30 = some _ := rfl
  intro n
  induction n with
  | zero =>
    intro k M1 hkn hkb hC
    omega
  | succ n ih =>
    intro k M1 hkn hkb hC
    obtain ⟨hnb, hmb, -⟩ := id hC.1
    have hR1 := hC.1
    have h8 := hV.1
    have hp8 := hV.2.1
    have hV0 := hV.days (w := M b 7) i
    have hV1 : Vs nt np (sWorn (sDays (M b 7) nt np i r) (M b 7) np k (sDays (M b 7) nt np i r)) := hV0.of (fun t f ht hf => sWorn_o k _ (fun u hu => by omega)) (fun p hp => sWorn_o k _ (fun u hu => by omega))
    refine x_iload_n hm rfl rfl ?_
    refine x_aload_n hm rfl rfl ?_
    refine x_getf hm rfl (gI (tO hb) rfl) ?_
    rw [hnb]
    refine x_icmp_ge hm rfl (t := 39) rfl (fun h1 => ?_) (fun h1 => ?_)
    · have hkn : k = nt := Nat.le_antisymm hkb ((jI_le (by omega) (by omega)).mp h1)
      have hV2 : Vs nt np (sFall nt 8 (sWorn (sDays (M b 7) nt np i r) (M b 7) np k (sDays (M b 7) nt np i r))) := hV1.of (fun t f ht hf => sFall_o 8 _ _ (fun u hu => by omega)) (fun p hp => sFall_o 8 _ _ (fun u hu => by omega))
      refine x_aload_n hm rfl rfl ?_
      refine x_cVv hm rfl (mCallT hb (by decide) rfl rfl rfl rfl rfl) (e31 hb hC.1 hV1) (fun M2 r2 => ?_)
      refine x_aload_n hm rfl rfl ?_
      refine x_cVv hm rfl (mCallT hb (by decide) rfl rfl rfl rfl rfl) (e33 hb r2.1 hV2) (fun M3 r3 => ?_)
      refine x_aload_n hm rfl rfl ?_
      refine x_dup hm rfl rfl ?_
      refine x_getf hm rfl (gI (tO hb) rfl) ?_
      first
        | rw [r3.1.2.2.1]
        | rw [r5.1.2.2.1]
        | rw [r4.1.2.2.1]
      refine x_iconst hm rfl (v := nI 1) (by decide) ?_
      refine x_iadd hm rfl ?_
      refine x_putf hm rfl (pI (tO hb) rfl (by decide) (by first | exact mFit_int | rfl | decide) rfl) ?_
      refine x_iinc hm rfl rfl (v := nI 1) (by decide) rfl ?_
      rw [jI_add]
      refine x_goto hm rfl (t := 2) rfl ?_
      obtain rfl := hkn
      first
        | exact hout _ _ ((hC.to (r2.to r5)).pd)
        | exact hout _ _ ((hC.to (r2.to r4)).pd)
        | exact hout _ _ ((hC.to (r2.to r3)).pd)
    · have hk : k < nt := Nat.lt_of_not_le fun h => h1 (nI_le h (by omega))
      refine x_aload_n hm rfl rfl ?_
      refine x_getf hm rfl (gR (tO hb) rfl) ?_
      refine x_iconst hm rfl (v := nI 2) (by decide) ?_
      refine x_aald hm rfl (by first | exact lQ 3 (Or.inr (Or.inl rfl)) (tI hb) rfl (by omega) (by decide) | exact lQ 3 (Or.inr (Or.inl rfl)) (tF hb) rfl (by omega) (by decide) | exact lQ 3 (Or.inr (Or.inl rfl)) (tI hb) (tIk (by omega)) (by omega) (by decide) | exact lQ 3 (Or.inr (Or.inl rfl)) (tF hb) (tFk (by omega)) (by omega) (by decide)) ?_
      refine x_iload_n hm rfl rfl ?_
      refine x_dup2 hm rfl rfl rfl ?_
      refine x_iald hm rfl (by first | exact lI (tRow hb (by omega)) (by omega) (by decide) | exact lI (tRowI hb (by omega)) (by omega) (by decide) | exact lI (tRowF hb (by omega)) (by omega) (by decide) | exact lI (tSp hb) (by omega) (by decide) | exact lI rfl (by omega) (by decide)) ?_
      rw [hR1.thick hk]
      refine x_aload_n hm rfl rfl ?_
      refine x_iload_n hm rfl rfl ?_
      refine x_callV hm rfl (mCallT hb (by decide) rfl rfl rfl rfl rfl) (e11 hb hR1 hV1 hk) ?_
      rw [hC.2.1, (sWorn_aw (by omega)).wear]
      refine x_isub hm rfl ?_
      refine x_iast hm rfl (by first | exact sI (tRow hb (by omega)) (by omega) (by decide) | exact sI (tRowI hb (by omega)) (by omega) (by decide) | exact sI (tRowF hb (by omega)) (by omega) (by decide) | exact sI (tSp hb) (by omega) (by decide) | exact sI rfl (by omega) (by decide)) ?_
      refine x_iinc hm rfl rfl (v := nI 1) (by decide) rfl ?_
      rw [jI_add]
      refine x_goto hm rfl (t := 9) rfl ?_
      exact ih (k + 1) _ (by omega) (by omega) (hC.pi (f := 2) h8 (by decide) hk)
theorem m30a {a : Nat} (hb : b = 1 ∨ b = 18 ∨ b = 35) (hV : Vs nt np r) (ha : a ≤ 1000) : ∀ (n i : Nat) (x3 : Option Value) (M1 : mM), a - i < n → i ≤ a → Tc b nt np (sDays (M b 7) nt np i r) M M1 → mEv X (QV (fun M' => Tc b nt np (sDays (M b 7) nt np a r) M M')) 30 2 [some (.ref b), some (.int (nI a)), some (.int (nI i)), x3] [] (con M1) := by
  have hm : mMet 30 = some _ := rfl
  intro n
  induction n with
  | zero =>
    intro i x3 M1 hin hi hC
    omega
  | succ n ih =>
    intro i x3 M1 hin hi hC
    refine x_iload_n hm rfl rfl ?_
    refine x_iload_n hm rfl rfl ?_
    refine x_icmp_ge hm rfl (t := 63) rfl (fun h1 => ?_) (fun h1 => ?_)
    · obtain rfl : i = a := Nat.le_antisymm hi ((jI_le (by omega) (by omega)).mp h1)
      refine x_ret hm rfl rfl ?_
      exact ⟨_, rfl, rfl, hC⟩
    · have hk : i < a := Nat.lt_of_not_le fun h => h1 (nI_le h (by omega))
      refine x_iconst hm rfl (v := nI 0) (by decide) ?_
      refine x_istore_n hm rfl rfl ?_
      exact m30b hb hV (fun x3 M2 h => ih (i + 1) _ _ (by omega) (by omega) h) _ 0 _ (Nat.lt_succ_self _) (Nat.zero_le _) hC
theorem e30 {a : Nat} (hb : b = 1 ∨ b = 18 ∨ b = 35) (hR : Rel b nt np M r) (hV : Vs nt np r) (ha : a ≤ 1000) : ∃ M', mT X 30 [.ref b, .int (nI a)] (con M) none (con M') ∧ Tc b nt np (sDays (M b 7) nt np a r) M M' := by
  refine tv_of (row := _) rfl (Nat.le_of_ble_eq_true rfl) ?_
  have hm : mMet 30 = some _ := rfl
  refine x_iconst hm rfl (v := nI 0) (by decide) ?_
  refine x_istore_n hm rfl rfl ?_
  exact m30a hb hV ha _ 0 _ _ (Nat.lt_succ_self _) (Nat.zero_le _) hR.tc
end ED
