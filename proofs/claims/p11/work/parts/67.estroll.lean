/-! ===== strolls ===== -/
def sDr (z : Int32) : Int32 := z * nI 1103515245 + nI 12345
def sSc1 (p : Nat) (q : Nat → Int32) : Nat → Int32 := put1 (put1 q 3 (sDr (q 3))) (62 + 7 * p + 1) (rem16 (ush (sDr (q 3)) (nI 8)))
def sScat (np : Nat) (r : Nat → Int32) : Nat → Int32 := fo sSc1 np r
def sStr (nt np n : Nat) (r : Nat → Int32) : Nat → Int32 := fo (fun _ q => sDay (-1) nt np (sScat np q)) n r
def fStrolls (nt np : Nat) (r : Nat → Int32) (a1 : Int32) : Sq4 :=
  if bI (nI 1 ≤ a1 ∧ a1 ≤ nI 20) = 0 then (-1000001, nt, np, r) else if nI 99999 < r 0 + a1 then (-1000005, nt, np, r) else (sThick r nt - sThick (sStr nt np a1.toNatClampNeg r) nt, nt, np, sStr nt np a1.toNatClampNeg r)
theorem ush8 (z : Int32) : ∃ k, k < 16777216 ∧ ush z (nI 8) = nI k := by
  refine ⟨(z.toUInt32 >>> 8).toNat, ?_, ?_⟩
  · rw [UInt32.toNat_shiftRight, Nat.shiftRight_eq_div_pow]
    have := z.toUInt32.toNat_lt
    have e : (8 : UInt32).toNat % 32 = 8 := by decide +kernel
    rw [e]
    omega
  · have e : (nI 8).toUInt32 &&& Int32.toUInt32 31 = 8 := by decide +kernel
    unfold ush
    rw [e]
    exact congrArg UInt32.toInt32 UInt32.ofNat_toNat.symm
theorem div16 {k : Nat} (h : k < 2147483648) : nI k / nI 16 = nI (k / 16) := by
  apply Int32.toInt_inj.mp
  rw [Int32.toInt_div, jI_int h, jI_int (by decide), jI_int (by omega), Int.tdiv_eq_ediv_of_nonneg (by omega), Int.bmod_def]
  omega
theorem rem16_k {k : Nat} (h : k < 2147483648) : Le 15 (rem16 (nI k)) := by
  refine ⟨k % 16, by omega, ?_⟩
  unfold rem16
  rw [div16 h, jI_mul, sub_le (by omega)]
  congr 1
  omega
theorem sScat_o {np : Nat} {r : Nat → Int32} : ∀ (n j : Nat), n ≤ np → j ≠ 3 → (∀ p, p < n → j ≠ 62 + 7 * p + 1) → fo sSc1 n r j = r j := by
  intro n
  induction n with
  | zero => intro j _ _ _; rfl
  | succ n ih =>
    intro j hn h3 h
    show put1 (put1 (fo sSc1 n r) 3 _) (62 + 7 * n + 1) _ j = r j
    rw [put1_o (h n (Nat.lt_succ_self n)), put1_o h3]
    exact ih j (by omega) h3 fun p hp => h p (by omega)
theorem sScat_at {np : Nat} {r : Nat → Int32} (h : ∀ p, p < np → Le 15 (r (62 + 7 * p + 1))) : ∀ p, p < np → Le 15 (sScat np r (62 + 7 * p + 1)) := by
  refine fo_p (P := fun z : Nat → Int32 => ∀ p, p < np → Le 15 (z (62 + 7 * p + 1))) np r h (fun k z hk hz => ?_)
  intro p hp
  unfold sSc1
  by_cases e : p = k
  · subst e
    rw [put1_s]
    obtain ⟨m, hm, em⟩ := ush8 (sDr (z 3))
    rw [em]
    exact rem16_k (by omega)
  · rw [put1_o (by omega), put1_o (by omega)]
    exact hz p hp
section ES
variable {nt np : Nat} {r : Nat → Int32}
theorem Vs.scat (h : Vs nt np r) : Vs nt np (sScat np r) := h.of (fun t f ht hf => sScat_o np _ (Nat.le_refl _) (by omega) (fun p hp => by have := h.1; omega)) (fun p hp => sScat_o np _ (Nat.le_refl _) (by omega) (fun q hq => by omega))
theorem Gd.scat (h : Gd nt np r) : Gd nt np (sScat np r) := by
  obtain ⟨h1, h2, hV, hr⟩ := h
  have t8 := hV.1
  have p8 := hV.2.1
  have o : ∀ j, j ≠ 3 → (∀ p, p < np → j ≠ 62 + 7 * p + 1) → sScat np r j = r j := fun j a b => sScat_o np j (Nat.le_refl _) a b
  refine ⟨(o 1 (by decide) (fun _ _ => by omega)).trans h1, (o 2 (by decide) (fun _ _ => by omega)).trans h2, hV.scat, ?_, fun s hs => ?_, fun t ht => ?_, fun p hp => ?_⟩
  · rw [o 0 (by decide) (fun _ _ => by omega)]; exact hr.1
  · rw [o _ (by omega) (fun _ _ => by omega)]; exact hr.2.1 s hs
  · rw [o _ (by omega) (fun _ _ => by omega), o _ (by omega) (fun _ _ => by omega), o _ (by omega) (fun _ _ => by omega)]; exact hr.2.2.1 t ht
  · obtain ⟨g1, g2, g3⟩ := hr.2.2.2 p hp
    exact ⟨sScat_at (fun q hq => (hr.2.2.2 q hq).1) p hp, by rw [o _ (by omega) (fun _ _ => by omega)]; exact g2, fun s hs => by rw [o _ (by omega) (fun _ _ => by omega)]; exact g3 s hs⟩
theorem Gd.str (h : Gd nt np r) {d : Nat} (hd : r 0 = nI d) : ∀ n, d + n ≤ 99999 → Gd nt np (sStr nt np n r) ∧ sStr nt np n r 0 = nI (d + n) := by
  intro n
  induction n with
  | zero => intro _; exact ⟨h, hd⟩
  | succ n ih =>
    intro hn
    obtain ⟨g1, g2⟩ := ih (by omega)
    have g0 : sScat np (sStr nt np n r) 0 = nI (d + n) := (sScat_o np 0 (Nat.le_refl _) (by decide) (fun _ _ => by omega)).trans g2
    exact g1.scat.day g0 (by omega)
theorem Vs.str (h : Vs nt np r) : ∀ n, Vs nt np (sStr nt np n r) := by
  intro n
  induction n with
  | zero => exact h
  | succ n ih => exact ih.scat.day
theorem Gd.strolls {a1 : Int32} (h : Gd nt np r) : Gd (fStrolls nt np r a1).2.1 (fStrolls nt np r a1).2.2.1 (fStrolls nt np r a1).2.2.2 := by
  unfold fStrolls
  split
  · exact h
  · rename_i h1
    obtain ⟨a, ha, ha1, rfl⟩ := le1_k (by decide) (bI_ne0 h1)
    split
    · exact h
    · rename_i h2
      rw [jI_nat (by omega)]
      obtain ⟨d, hd, ed⟩ := h.2.2.2.1
      refine (h.str ed a ?_).1
      rw [ed, jI_add] at h2
      rcases Nat.lt_or_ge 99999 (d + a) with g | g
      · exact absurd ((jI_lt (by omega) (by omega)).mpr g) h2
      · exact g
end ES
section ET
variable {X : mSc} {Q : Option Value → mHp → Prop} {M : mM} {b nt np : Nat} {r : Nat → Int32}
theorem m83 (hb : b = 1 ∨ b = 18 ∨ b = 35) (hV : Vs nt np r) : ∀ (n k : Nat) (M1 : mM), np - k < n → k ≤ np → Tc b nt np (fo sSc1 k r) M M1 → mEv X (QV (fun M' => Tc b nt np (sScat np r) M M')) 83 2 [some (.ref b), some (.int (nI k))] [] (con M1) := by
  have hm : mMet 83 = some _ := rfl
  intro n
  induction n with
  | zero =>
    intro k M1 hkn hkb hC
    omega
  | succ n ih =>
    intro k M1 hkn hkb hC
    obtain ⟨hnb, hmb, -⟩ := id hC.1
    have hR1 := hC.1
    have h8 := hV.1
    have hp8 := hV.2.1
    refine x_iload_n hm rfl rfl ?_
    refine x_aload_n hm rfl rfl ?_
    refine x_getf hm rfl (gI (tO hb) rfl) ?_
    rw [hmb]
    refine x_icmp_ge hm rfl (t := 49) rfl (fun h1 => ?_) (fun h1 => ?_)
    · obtain rfl : k = np := Nat.le_antisymm hkb ((jI_le (by omega) (by omega)).mp h1)
      refine x_ret hm rfl rfl ?_
      exact ⟨_, rfl, rfl, hC⟩
    · have hk : k < np := Nat.lt_of_not_le fun h => h1 (nI_le h (by omega))
      refine x_aload_n hm rfl rfl ?_
      refine x_aload_n hm rfl rfl ?_
      refine x_getf hm rfl (gI (tO hb) rfl) ?_
      rw [hC.1.2.2.2.1]
      refine x_ldcI hm rfl (v := nI 1103515245) (by decide +kernel) ?_
      refine x_imul hm rfl ?_
      refine x_sipush hm rfl (v := nI 12345) (by decide) ?_
      refine x_iadd hm rfl ?_
      refine x_putf hm rfl (pI (tO hb) rfl (by decide) (by first | exact mFit_int | rfl | decide) rfl) ?_
      refine x_aload_n hm rfl rfl ?_
      refine x_getf hm rfl (gR (tO hb) rfl) ?_
      refine x_iconst hm rfl (v := nI 1) (by decide) ?_
      refine x_aald hm rfl (by first | exact lQ 3 (Or.inr (Or.inl rfl)) (tI hb) rfl (by omega) (by decide) | exact lQ 3 (Or.inr (Or.inl rfl)) (tF hb) rfl (by omega) (by decide) | exact lQ 3 (Or.inr (Or.inl rfl)) (tI hb) (tIk (by omega)) (by omega) (by decide) | exact lQ 3 (Or.inr (Or.inl rfl)) (tF hb) (tFk (by omega)) (by omega) (by decide)) ?_
      refine x_iload_n hm rfl rfl ?_
      refine x_aload_n hm rfl rfl ?_
      refine x_getf hm rfl (gI (tO hb) rfl) ?_
      rw [mp0]
      refine x_bipush hm rfl (v := nI 8) (by decide) ?_
      refine x_iushr hm rfl ?_
      refine x_bipush hm rfl (v := nI 16) (by decide) ?_
      refine x_irem hm rfl (by decide) ?_
      refine x_iast hm rfl (by first | exact sI (tRow hb (by omega)) (by omega) (by decide) | exact sI (tRowI hb (by omega)) (by omega) (by decide) | exact sI (tRowF hb (by omega)) (by omega) (by decide) | exact sI (tSp hb) (by omega) (by decide) | exact sI rfl (by omega) (by decide)) ?_
      refine x_iinc hm rfl rfl (v := nI 1) (by decide) rfl ?_
      rw [jI_add]
      refine x_goto hm rfl (t := 2) rfl ?_
      exact ih (k + 1) _ (by omega) (by omega) (hC.pz.pf (f := 1) h8 (by decide) hk)
theorem e83 (hb : b = 1 ∨ b = 18 ∨ b = 35) (hR : Rel b nt np M r) (hV : Vs nt np r) : ∃ M', mT X 83 [.ref b] (con M) none (con M') ∧ Tc b nt np (sScat np r) M M' := by
  refine tv_of (row := _) rfl (Nat.le_of_ble_eq_true rfl) ?_
  have hm : mMet 83 = some _ := rfl
  refine x_iconst hm rfl (v := nI 0) (by decide) ?_
  refine x_istore_n hm rfl rfl ?_
  exact m83 hb hV _ 0 _ (Nat.lt_succ_self _) (Nat.zero_le _) hR.tc
theorem sDays_1 {w : Int32} {q : Nat → Int32} : sDays w nt np 1 q = sDay w nt np q := rfl
theorem sStr_s {k : Nat} : sStr nt np (k + 1) r = sDay (-1) nt np (sScat np (sStr nt np k r)) := rfl
theorem m82 {a : Nat} {c : Int32} (ha : a ≤ 1000) (hV : Vs nt np r) (hc : M 1 7 = -1) : ∀ (n k : Nat) (M1 : mM), a - k < n → k ≤ a → Tc 1 nt np (sStr nt np k r) M M1 → mEv X (QI (fun v M' => v = c - sThick (sStr nt np a r) nt ∧ Tc 1 nt np (sStr nt np a r) M M')) 82 48 [some (.ref 0), some (.int (nI a)), some (.int c), some (.int (nI k))] [] (con M1) := by
  have hm : mMet 82 = some _ := rfl
  intro n
  induction n with
  | zero =>
    intro k M1 hkn hkb hC
    omega
  | succ n ih =>
    intro k M1 hkn hkb hC
    refine x_iload_n hm rfl rfl ?_
    refine x_iload_n hm rfl rfl ?_
    refine x_icmp_ge hm rfl (t := 74) rfl (fun h1 => ?_) (fun h1 => ?_)
    · obtain rfl : k = a := Nat.le_antisymm hkb ((jI_le (by omega) (by omega)).mp h1)
      refine x_iload_n hm rfl rfl ?_
      refine x_aload_n hm rfl rfl ?_
      refine x_getf hm rfl (gR rfl rfl) ?_
      refine x_callV hm rfl rfl (e38 (by decide) hC.1 (hV.str _)) ?_
      refine x_isub hm rfl ?_
      refine x_iret hm rfl rfl (by first | rfl | exact bI_nar | decide) ?_
      exact ⟨_, _, rfl, rfl, rfl, hC⟩
    · have hk : k < a := Nat.lt_of_not_le fun h => h1 (nI_le h (by omega))
      refine x_aload_n hm rfl rfl ?_
      refine x_getf hm rfl (gR rfl rfl) ?_
      refine x_cVv hm rfl rfl (e83 (by decide) hC.1 (hV.str k)) (fun M2 r2 => ?_)
      refine x_aload_n hm rfl rfl ?_
      refine x_getf hm rfl (gR rfl rfl) ?_
      refine x_iconst hm rfl (v := nI 1) (by decide) ?_
      refine x_cVv hm rfl rfl (e30 (a := 1) (by decide) r2.1 (hV.str k).scat (by decide)) (fun M3 r3 => ?_)
      rw [r2.2.1, hC.2.1, hc, sDays_1, ← sStr_s] at r3
      refine x_iinc hm rfl rfl (v := nI 1) (by decide) rfl ?_
      rw [jI_add]
      refine x_goto hm rfl (t := 48) rfl ?_
      exact ih (k + 1) _ (by omega) (by omega) (hC.to (r2.to r3))
theorem g82 {a1 : Int32} (hR : Rel 1 nt np M r) (hn8 : nt ≤ 8) (hp8 : np ≤ 8) (hV : Vs nt np r) (hc : M 1 7 = -1) : ∃ v M', mT X 82 [.ref 0, .int a1] (con M) (some (.int v)) (con M') ∧ Tq (fStrolls nt np r a1) v M M' := by
  refine ti_of (row := _) rfl (Nat.le_of_ble_eq_true rfl) ?_
  have hm : mMet 82 = some _ := rfl
  refine x_iload_n hm rfl rfl ?_
  refine x_iconst hm rfl (v := nI 1) (by decide) ?_
  refine x_bipush hm rfl (v := nI 20) (by decide) ?_
  refine x_callS hm rfl rfl (t6) ?_
  refine x_if_ne hm rfl (t := 17) rfl (fun h1 => ?_) (fun h1 => ?_)
  · obtain ⟨a, ha, ha1, rfl⟩ := le1_k (by omega) (bI_ne0 h1)
    refine x_aload_n hm rfl rfl ?_
    refine x_getf hm rfl (gR rfl rfl) ?_
    refine x_getf hm rfl (gI rfl rfl) ?_
    rw [hR.2.2.1]
    refine x_iload_n hm rfl rfl ?_
    refine x_iadd hm rfl ?_
    refine x_ldcI hm rfl (v := nI 99999) (by decide +kernel) ?_
    refine x_icmp_le hm rfl (t := 38) rfl (fun h2 => ?_) (fun h2 => ?_)
    · have hng : ¬ nI 99999 < r 0 + nI a := Int32.not_lt.mpr h2
      refine x_aload_n hm rfl rfl ?_
      refine x_getf hm rfl (gR rfl rfl) ?_
      refine x_callV hm rfl rfl (e38 (by decide) hR hV) ?_
      refine x_istore_n hm rfl rfl ?_
      refine x_iconst hm rfl (v := nI 0) (by decide) ?_
      refine x_istore_n hm rfl rfl ?_
      have hq : fStrolls nt np r (nI a) = (sThick r nt - sThick (sStr nt np a r) nt, nt, np, sStr nt np a r) := by
        unfold fStrolls
        rw [if_neg (by assumption), if_neg (by assumption)]
        rw [jI_nat (k := a) (by omega)]
      exact ev_mono (m82 (by omega) hV hc _ 0 _ (Nat.lt_succ_self _) (Nat.zero_le _) hR.tc) (fun r0 D ⟨v, M2, g1, g2, g3, g4⟩ => ⟨v, M2, g1, g2, by rw [hq]; exact ⟨g3, g4.tm⟩⟩)
    · have hps : nI 99999 < r 0 + nI a := Int32.not_le.mp h2
      refine x_aload_n hm rfl rfl ?_
      refine x_ldcI hm rfl (v := (-1000005 : Int32)) (by decide +kernel) ?_
      refine x_cVi hm rfl rfl (t7 (by decide +kernel)) (fun v3 M3 r3 => ?_)
      refine x_iret hm rfl rfl (by first | rfl | exact bI_nar | decide) ?_
      first
        | (have hq : fStrolls nt np r (nI a) = (-1000005, nt, np, r) := by
             unfold fStrolls
             rw [if_neg (by assumption), if_pos (by assumption)]
           exact ⟨_, _, rfl, rfl, by rw [hq]; exact ⟨r3.1, hR.bq r3.2⟩⟩)
        | (have hq : fStrolls nt np r (nI a) = (-1000005, nt, np, r) := by
             unfold fStrolls
             rw [if_neg (by assumption), if_pos (by assumption)]
           exact ⟨_, _, rfl, rfl, by rw [hq]; exact ⟨r1.1, hR.bq r1.2⟩⟩)
        | (have hq : fStrolls nt np r (nI a) = (-1000005, nt, np, r) := by
             unfold fStrolls
             rw [if_neg (by assumption), if_pos (by assumption)]
           exact ⟨_, _, rfl, rfl, by rw [hq]; exact ⟨r2.1, hR.bq r2.2⟩⟩)
        | (have hq : fStrolls nt np r (nI a) = (-1000005, nt, np, r) := by
             unfold fStrolls
             rw [if_neg (by assumption), if_pos (by assumption)]
           exact ⟨_, _, rfl, rfl, by rw [hq]; exact ⟨r4.1, hR.bq r4.2⟩⟩)
        | (have hq : fStrolls nt np r (nI a) = (-1000005, nt, np, r) := by
             unfold fStrolls
             rw [if_neg (by assumption), if_pos (by assumption)]
           exact ⟨_, _, rfl, rfl, by rw [hq]; exact ⟨r5.1, hR.bq r5.2⟩⟩)
        | (have hq : fStrolls nt np r (nI a) = (-1000005, nt, np, r) := by
             unfold fStrolls
             rw [if_neg (by assumption), if_pos (by assumption)]
           exact ⟨_, _, rfl, rfl, by rw [hq]; exact ⟨r6.1, hR.bq r6.2⟩⟩)
        | (have hq : fStrolls nt np r (nI a) = (-1000005, nt, np, r) := by
             unfold fStrolls
             rw [if_neg (by assumption), if_pos (by assumption)]
           exact ⟨_, _, rfl, rfl, by rw [hq]; exact ⟨r7.1, hR.bq r7.2⟩⟩)
        | (have hq : fStrolls nt np r (nI a) = (-1000005, nt, np, r) := by
             unfold fStrolls
             rw [if_neg (by assumption), if_pos (by assumption)]
           exact ⟨_, _, rfl, rfl, by rw [hq]; exact ⟨r8.1, hR.bq r8.2⟩⟩)
  · refine x_aload_n hm rfl rfl ?_
    refine x_ldcI hm rfl (v := (-1000001 : Int32)) (by decide +kernel) ?_
    refine x_cVi hm rfl rfl (t7 (by decide +kernel)) (fun v4 M4 r4 => ?_)
    refine x_iret hm rfl rfl (by first | rfl | exact bI_nar | decide) ?_
    first
      | (have hq : fStrolls nt np r a1 = (-1000001, nt, np, r) := by
           unfold fStrolls
           rw [if_pos (by assumption)]
         exact ⟨_, _, rfl, rfl, by rw [hq]; exact ⟨r4.1, hR.bq r4.2⟩⟩)
      | (have hq : fStrolls nt np r a1 = (-1000001, nt, np, r) := by
           unfold fStrolls
           rw [if_pos (by assumption)]
         exact ⟨_, _, rfl, rfl, by rw [hq]; exact ⟨r1.1, hR.bq r1.2⟩⟩)
      | (have hq : fStrolls nt np r a1 = (-1000001, nt, np, r) := by
           unfold fStrolls
           rw [if_pos (by assumption)]
         exact ⟨_, _, rfl, rfl, by rw [hq]; exact ⟨r2.1, hR.bq r2.2⟩⟩)
      | (have hq : fStrolls nt np r a1 = (-1000001, nt, np, r) := by
           unfold fStrolls
           rw [if_pos (by assumption)]
         exact ⟨_, _, rfl, rfl, by rw [hq]; exact ⟨r3.1, hR.bq r3.2⟩⟩)
      | (have hq : fStrolls nt np r a1 = (-1000001, nt, np, r) := by
           unfold fStrolls
           rw [if_pos (by assumption)]
         exact ⟨_, _, rfl, rfl, by rw [hq]; exact ⟨r5.1, hR.bq r5.2⟩⟩)
      | (have hq : fStrolls nt np r a1 = (-1000001, nt, np, r) := by
           unfold fStrolls
           rw [if_pos (by assumption)]
         exact ⟨_, _, rfl, rfl, by rw [hq]; exact ⟨r6.1, hR.bq r6.2⟩⟩)
      | (have hq : fStrolls nt np r a1 = (-1000001, nt, np, r) := by
           unfold fStrolls
           rw [if_pos (by assumption)]
         exact ⟨_, _, rfl, rfl, by rw [hq]; exact ⟨r7.1, hR.bq r7.2⟩⟩)
      | (have hq : fStrolls nt np r a1 = (-1000001, nt, np, r) := by
           unfold fStrolls
           rw [if_pos (by assumption)]
         exact ⟨_, _, rfl, rfl, by rw [hq]; exact ⟨r8.1, hR.bq r8.2⟩⟩)
theorem g215 : mT X 215 [.ref 66] (con M) (some (.int (ush (sDr (M 67 3)) (nI 8)))) (con (mput M 67 3 (sDr (M 67 3)))) := by
  refine mT.of (row := _) rfl (Nat.le_of_ble_eq_true rfl) ?_
  have hm : mMet 215 = some _ := rfl
  refine x_aload_n hm rfl rfl ?_
  refine x_getf hm rfl (gR rfl rfl) ?_
  refine x_iconst hm rfl (v := nI 3) (by decide) ?_
  refine x_aload_n hm rfl rfl ?_
  refine x_getf hm rfl (gR rfl rfl) ?_
  refine x_iconst hm rfl (v := nI 3) (by decide) ?_
  refine x_iald hm rfl (lI rfl (by omega) (by decide)) ?_
  refine x_ldcI hm rfl (v := nI 1103515245) (by decide +kernel) ?_
  refine x_imul hm rfl ?_
  refine x_sipush hm rfl (v := nI 12345) (by decide) ?_
  refine x_iadd hm rfl ?_
  refine x_iast hm rfl (sI rfl (by omega) (by decide)) ?_
  refine x_aload_n hm rfl rfl ?_
  refine x_getf hm rfl (gR rfl rfl) ?_
  refine x_iconst hm rfl (v := nI 3) (by decide) ?_
  refine x_iald hm rfl (lI rfl (by omega) (by decide)) ?_
  rw [mp0]
  refine x_bipush hm rfl (v := nI 8) (by decide) ?_
  refine x_iushr hm rfl ?_
  refine x_iret hm rfl rfl (by first | rfl | exact bI_nar | decide) ?_
  exact ⟨rfl, rfl⟩
theorem m214b {a j : Nat} {c : Int32} (hW : Wf M) (hnt : M 67 1 = nI nt) (hn8 : nt ≤ 8) (hnp : M 67 2 = nI np) (hp8 : np ≤ 8) (h6 : M 66 6 = -1) (hout : ∀ (M1 : mM) (x : Option Value), Dy M M1 → Dd (sStr nt np (j + 1) (M 67)) M M1 → mEv X (QI (fun v M' => v = c - sThick (sStr nt np a (M 67)) nt ∧ Dd (sStr nt np a (M 67)) M M')) 214 44 [some (.ref 66), some (.int (nI a)), some (.int c), some (.int (nI (j + 1))), x] [] (con M1)) : ∀ (n k : Nat) (M1 : mM), np - k < n → k ≤ np → Dy M M1 → Dd (fo sSc1 k (sStr nt np j (M 67))) M M1 → mEv X (QI (fun v M' => v = c - sThick (sStr nt np a (M 67)) nt ∧ Dd (sStr nt np a (M 67)) M M')) 214 52 [some (.ref 66), some (.int (nI a)), some (.int c), some (.int (nI j)), some (.int (nI k))] [] (con M1) := by
  have hm : mMet 214 = some _ := rfl
  intro n
  induction n with
  | zero =>
    intro k M1 hkn hkb hD hd
    omega
  | succ n ih =>
    intro k M1 hkn hkb hD hd
    have hn1 : M1 67 2 = nI np := hD.1.2.2.1.trans hnp
    refine x_iload hm rfl rfl ?_
    refine x_aload_n hm rfl rfl ?_
    refine x_getf hm rfl (gR rfl rfl) ?_
    refine x_iconst hm rfl (v := nI 2) (by decide) ?_
    refine x_iald hm rfl (lI rfl (by omega) (by decide)) ?_
    rw [hn1]
    refine x_icmp_ge hm rfl (t := 87) rfl (fun h1 => ?_) (fun h1 => ?_)
    · have hkn2 : k = np := Nat.le_antisymm hkb ((jI_le (by omega) (by omega)).mp h1)
      rw [hkn2] at hd
      refine x_aload_n hm rfl rfl ?_
      refine x_cVv hm rfl rfl (e165 (hD.1.1 hW) (hD.1.2.1.trans hnt) hn8 (hD.1.2.2.1.trans hnp) hp8) (fun M2 r2 => ?_)
      refine x_iinc hm rfl rfl (v := nI 1) (by decide) rfl ?_
      rw [jI_add]
      refine x_goto hm rfl (t := 44) rfl ?_
      have hs := hd.to r2.2
      rw [hd.1, hd.2 66 (by decide) (by decide), h6] at hs
      exact hout _ _ (hD.trans r2.1) hs
    · have hk : k < np := Nat.lt_of_not_le fun h => h1 (nI_le h (by omega))
      refine x_aload_n hm rfl rfl ?_
      refine x_getf hm rfl (gR rfl rfl) ?_
      refine x_iload hm rfl rfl ?_
      refine x_iconst hm rfl (v := nI 1) (by decide) ?_
      refine x_callS hm rfl rfl (t142) ?_
      refine x_aload_n hm rfl rfl ?_
      refine x_callV hm rfl rfl (g215) ?_
      refine x_bipush hm rfl (v := nI 16) (by decide) ?_
      refine x_irem hm rfl (by decide) ?_
      refine x_iast hm rfl (sI rfl (by omega) (by decide)) ?_
      refine x_iinc hm rfl rfl (v := nI 1) (by decide) rfl ?_
      rw [jI_add]
      refine x_goto hm rfl (t := 52) rfl ?_
      exact ih (k + 1) _ (by omega) (by omega) ((hD.trans (Dy.put Sf.draw (by decide))).trans (Dy.put (Sf.person (by omega) (by decide)) (by decide))) (by rw [hd.1]; exact hd.p67.p67)
theorem m214a {a : Nat} {c : Int32} (hW : Wf M) (hnt : M 67 1 = nI nt) (hn8 : nt ≤ 8) (hnp : M 67 2 = nI np) (hp8 : np ≤ 8) (h6 : M 66 6 = -1) (ha : a ≤ 1000) : ∀ (n k : Nat) (x : Option Value) (M1 : mM), a - k < n → k ≤ a → Dy M M1 → Dd (sStr nt np k (M 67)) M M1 → mEv X (QI (fun v M' => v = c - sThick (sStr nt np a (M 67)) nt ∧ Dd (sStr nt np a (M 67)) M M')) 214 44 [some (.ref 66), some (.int (nI a)), some (.int c), some (.int (nI k)), x] [] (con M1) := by
  have hm : mMet 214 = some _ := rfl
  intro n
  induction n with
  | zero =>
    intro k x M1 hkn hkb hD hd
    omega
  | succ n ih =>
    intro k x M1 hkn hkb hD hd
    refine x_iload_n hm rfl rfl ?_
    refine x_iload_n hm rfl rfl ?_
    refine x_icmp_ge hm rfl (t := 97) rfl (fun h1 => ?_) (fun h1 => ?_)
    · obtain rfl : k = a := Nat.le_antisymm hkb ((jI_le (by omega) (by omega)).mp h1)
      refine x_iload_n hm rfl rfl ?_
      refine x_aload_n hm rfl rfl ?_
      refine x_callV hm rfl rfl (e170 (hD.1.2.1.trans hnt) hn8) ?_
      refine x_isub hm rfl ?_
      refine x_iret hm rfl rfl (by first | rfl | exact bI_nar | decide) ?_
      exact ⟨_, _, rfl, rfl, by rw [hd.1], hd⟩
    · have hk : k < a := Nat.lt_of_not_le fun h => h1 (nI_le h (by omega))
      refine x_iconst hm rfl (v := nI 0) (by decide) ?_
      refine x_istore hm rfl rfl ?_
      exact m214b hW hnt hn8 hnp hp8 h6 (fun M2 x g1 g2 => ih (k + 1) x M2 (by omega) (by omega) g1 g2) _ 0 _ (Nat.lt_succ_self _) (Nat.zero_le _) hD hd
theorem g214 {a1 : Int32} (h67 : M 67 = r) (hnt : M 67 1 = nI nt) (hn8 : nt ≤ 8) (hnp : M 67 2 = nI np) (hp8 : np ≤ 8) (hW : Wf M) (h6 : M 66 6 = -1) : ∃ v M', mT X 214 [.ref 66, .int a1] (con M) (some (.int v)) (con M') ∧ Uq (fStrolls nt np r a1) v M M' := by
  refine ti_of (row := _) rfl (Nat.le_of_ble_eq_true rfl) ?_
  have hm : mMet 214 = some _ := rfl
  refine x_iload_n hm rfl rfl ?_
  refine x_iconst hm rfl (v := nI 1) (by decide) ?_
  refine x_bipush hm rfl (v := nI 20) (by decide) ?_
  refine x_callS hm rfl rfl (t133) ?_
  refine x_if_ne hm rfl (t := 17) rfl (fun h1 => ?_) (fun h1 => ?_)
  · obtain ⟨a, ha, ha1, rfl⟩ := le1_k (by omega) (bI_ne0 h1)
    refine x_aload_n hm rfl rfl ?_
    refine x_getf hm rfl (gR rfl rfl) ?_
    refine x_iconst hm rfl (v := nI 0) (by decide) ?_
    refine x_iald hm rfl (lI rfl (by omega) (by decide)) ?_
    rw [h67]
    refine x_iload_n hm rfl rfl ?_
    refine x_iadd hm rfl ?_
    refine x_ldcI hm rfl (v := nI 99999) (by decide +kernel) ?_
    refine x_icmp_le hm rfl (t := 37) rfl (fun h2 => ?_) (fun h2 => ?_)
    · have hng : ¬ nI 99999 < r 0 + nI a := Int32.not_lt.mpr h2
      refine x_aload_n hm rfl rfl ?_
      refine x_callV hm rfl rfl (e170 hnt hn8) ?_
      refine x_istore_n hm rfl rfl ?_
      refine x_iconst hm rfl (v := nI 0) (by decide) ?_
      refine x_istore_n hm rfl rfl ?_
      have hq : fStrolls nt np r (nI a) = (sThick r nt - sThick (sStr nt np a r) nt, nt, np, sStr nt np a r) := by
        unfold fStrolls
        rw [if_neg (by assumption), if_neg (by assumption)]
        rw [jI_nat (k := a) (by omega)]
      have hm := m214a (X := X) (a := a) (c := sThick (M 67) nt) hW hnt hn8 hnp hp8 h6 (by omega) _ 0 none M (Nat.lt_succ_self _) (Nat.zero_le _) Dy.rf Dd.rf
      rw [h67] at hm ⊢
      exact ev_mono (hm) (fun r0 D ⟨v, M2, g1, g2, g3, g4⟩ => ⟨v, M2, g1, g2, by rw [hq]; exact ⟨g3, g4.1, fun a h1 _ _ h4 => g4.2 a h1 h4⟩⟩)
    · have hps : nI 99999 < r 0 + nI a := Int32.not_le.mp h2
      refine x_aload_n hm rfl rfl ?_
      refine x_ldcI hm rfl (v := (-1000005 : Int32)) (by decide +kernel) ?_
      refine x_callV hm rfl rfl (e135 (by decide +kernel)) ?_
      refine x_iret hm rfl rfl (by first | rfl | exact bI_nar | decide) ?_
      have hq : fStrolls nt np r (nI a) = (-1000005, nt, np, r) := by
        unfold fStrolls
        rw [if_neg (by assumption), if_pos (by assumption)]
      exact ⟨_, _, rfl, rfl, by rw [hq]; exact ⟨rfl, fnd_rm h67⟩⟩
  · refine x_aload_n hm rfl rfl ?_
    refine x_ldcI hm rfl (v := (-1000001 : Int32)) (by decide +kernel) ?_
    refine x_callV hm rfl rfl (e135 (by decide +kernel)) ?_
    refine x_iret hm rfl rfl (by first | rfl | exact bI_nar | decide) ?_
    have hq : fStrolls nt np r a1 = (-1000001, nt, np, r) := by
      unfold fStrolls
      rw [if_pos (by assumption)]
    exact ⟨_, _, rfl, rfl, by rw [hq]; exact ⟨rfl, fnd_rm h67⟩⟩
theorem j_strolls {a1 : Int32} (hJ : J M) : JJ X 82 214 [.ref 0, .int a1] [.ref 66, .int a1] M Eq := by
  obtain ⟨nt, np, hR, h1, h2, hV, hr, hc⟩ := hJ.2.2.1
  exact J.join hJ (t82 hJ.1.1) (g82 hR hV.1 hV.2.1 hV hc) (fun M1 i => t214 i) (fun M1 i k => g214 (k 67 (by decide)) (by rw [k 67 (by decide)]; exact h1) hV.1 (by rw [k 67 (by decide)]; exact h2) hV.2.1 i.1 (by rw [k 66 (by decide)]; exact hJ.2.2.2.2.2.2)) (Gd.strolls ⟨h1, h2, hV, hr⟩)
end ET
