/-! ===== the reference: days ===== -/
/-- what days, findings and trials leave as it was -/
def Sf (M M' : mM) : Prop := (Wf M → Wf M') ∧ M' 67 1 = M 67 1 ∧ M' 67 2 = M 67 2 ∧ (∀ t, t < 8 → M' 67 (14 + 6 * t + 5) = M 67 (14 + 6 * t + 5)) ∧ M' 68 = M 68
theorem Sf.rf {M : mM} : Sf M M := ⟨fun h => h, rfl, rfl, fun _ _ => rfl, rfl⟩
theorem Sf.trans {M M1 M2 : mM} (h : Sf M M1) (g : Sf M1 M2) : Sf M M2 := ⟨fun w => g.1 (h.1 w), g.2.1.trans h.2.1, g.2.2.1.trans h.2.2.1, fun t ht => (g.2.2.2.1 t ht).trans (h.2.2.2.1 t ht), g.2.2.2.2.trans h.2.2.2.2⟩
theorem Ac.of {r r' : Nat → Int32} (h : Ac r) (h1 : r' 1 = r 1) (ht : ∀ t, t < 8 → r' (14 + 6 * t + 5) = r (14 + 6 * t + 5)) : Ac r' := by
  intro n hn e
  rw [h1] at e
  obtain ⟨rk, hk⟩ := h n hn e
  refine ⟨rk, fun t u htn hu he => ?_⟩
  rw [ht t (by omega)] at he
  exact hk t u htn hu he
theorem Sf.inv {M M' : mM} (h : Sf M M') (hI : Inv M) : Inv M' := ⟨h.1 hI.1, hI.2.1.of h.2.1 h.2.2.2.1, by rw [h.2.2.2.2]; exact hI.2.2⟩
theorem Fnd.sf {M M' : mM} (h : Fnd M M') : Sf M M' := ⟨h.1, by rw [h.2 67 (by decide)], by rw [h.2 67 (by decide)], fun t _ => by rw [h.2 67 (by decide)], h.2 68 (by decide)⟩
theorem Sf.put {M : mM} {a b : Nat} {v : Int32} (hv : okx (kd a b) v) (ha : a ≠ 68) (hb : a = 67 → b ≠ 1 ∧ b ≠ 2 ∧ ∀ t, t < 8 → b ≠ 14 + 6 * t + 5) : Sf M (mput M a b v) := by
  refine ⟨fun h => h.put hv, ?_, ?_, fun t ht => ?_, ?_⟩
  · unfold mput
    rw [if_neg]
    rintro ⟨e, e2⟩
    exact (hb e.symm).1 e2.symm
  · unfold mput
    rw [if_neg]
    rintro ⟨e, e2⟩
    exact (hb e.symm).2.1 e2.symm
  · unfold mput
    rw [if_neg]
    rintro ⟨e, e2⟩
    exact (hb e.symm).2.2 t ht e2.symm
  · funext j
    unfold mput
    rw [if_neg]
    rintro ⟨e, -⟩
    exact ha e.symm
theorem Sf.put0 {M : mM} {a b : Nat} {v : Int32} (hk : kd a b = 0) (ha : a ≠ 68) (ha7 : a ≠ 67) : Sf M (mput M a b v) := Sf.put (by rw [hk]; trivial) ha (fun e => absurd e ha7)
theorem kd_p : ∀ p, p < 8 → ∀ f, f < 7 → kd 67 (62 + 7 * p + f) = 0 := by decide +kernel
theorem Sf.person {M : mM} {p f : Nat} {v : Int32} (hp : p < 8) (hf : f < 7) : Sf M (mput M 67 (62 + 7 * p + f) v) := Sf.put (by rw [kd_p p hp f hf]; trivial) (by decide) (fun _ => ⟨by omega, by omega, fun t ht => by omega⟩)
theorem Sf.thing {M : mM} {t f : Nat} {v : Int32} (ht : t < 8) (hf : f < 5) (h0 : f ≠ 0) (h4 : f ≠ 4) : Sf M (mput M 67 (14 + 6 * t + f) v) := Sf.put (by
    rw [kd_t t ht f (by omega), if_neg h0, if_neg (by omega)]
    trivial) (by decide) (fun _ => ⟨by omega, by omega, fun t ht => by omega⟩)
theorem Sf.owner {M : mM} {t : Nat} {v : Int32} (ht : t < 8) (hv : okx 2 v) : Sf M (mput M 67 (14 + 6 * t + 4) v) := Sf.put (by
    rw [kd_t t ht 4 (by omega)]
    exact hv) (by decide) (fun _ => ⟨by omega, by omega, fun t ht => by omega⟩)
theorem Sf.sort {M : mM} {t : Nat} {v : Int32} (ht : t < 8) (hv : okx 3 v) : Sf M (mput M 67 (14 + 6 * t + 0) v) := Sf.put (by
    rw [kd_t t ht 0 (by omega)]
    exact hv) (by decide) (fun _ => ⟨by omega, by omega, fun t ht => by omega⟩)
theorem Sf.day {M : mM} {v : Int32} : Sf M (mput M 67 0 v) := Sf.put (by trivial) (by decide) (fun _ => ⟨by omega, by omega, fun t ht => by omega⟩)
theorem Sf.draw {M : mM} {v : Int32} : Sf M (mput M 67 3 v) := Sf.put (by trivial) (by decide) (fun _ => ⟨by omega, by omega, fun t ht => by omega⟩)
def Dy (M M' : mM) : Prop := Sf M M' ∧ M' 69 = M 69
theorem Dy.rf {M : mM} : Dy M M := ⟨Sf.rf, rfl⟩
theorem Dy.trans {M M1 M2 : mM} (h : Dy M M1) (g : Dy M1 M2) : Dy M M2 := ⟨h.1.trans g.1, g.2.trans h.2⟩
theorem Dy.put {M : mM} {a b : Nat} {v : Int32} (h : Sf M (mput M a b v)) (ha : a ≠ 69) : Dy M (mput M a b v) := ⟨h, by
  funext j
  unfold mput
  rw [if_neg]
  rintro ⟨e, -⟩
  exact ha e.symm⟩
/-- how many are not gone -/
def cnt (f : Nat → Int32) : Nat → Nat
  | 0 => 0
  | n + 1 => cnt f n + if f (14 + 6 * n + 2) = 0 then 0 else 1
theorem cnt_same {f g : Nat → Int32} : ∀ n, (∀ t, t < n → f (14 + 6 * t + 2) = g (14 + 6 * t + 2)) → cnt f n = cnt g n := by
  intro n
  induction n with
  | zero => intro _; rfl
  | succ n ih =>
    intro h
    unfold cnt
    rw [ih fun t ht => h t (by omega), h n (by omega)]
theorem cnt_zero {M : mM} {t : Nat} : ∀ n, t < n → ¬ M 67 (14 + 6 * t + 2) = 0 → cnt (mput M 67 (14 + 6 * t + 2) (nI 0) 67) n < cnt (M 67) n := by
  intro n
  induction n with
  | zero => intro h; omega
  | succ n ih =>
    intro h h0
    unfold cnt
    by_cases e : t = n
    · subst e
      have e1 : mput M 67 (14 + 6 * t + 2) (nI 0) 67 (14 + 6 * t + 2) = 0 := by
        unfold mput
        rw [if_pos ⟨rfl, rfl⟩]
        rfl
      rw [if_pos e1, if_neg h0, cnt_same (g := M 67) t fun u hu => by
        unfold mput
        rw [if_neg]
        rintro ⟨-, e2⟩
        omega]
      omega
    · have := ih (by omega) h0
      have e1 : mput M 67 (14 + 6 * t + 2) (nI 0) 67 (14 + 6 * n + 2) = M 67 (14 + 6 * n + 2) := by
        unfold mput
        rw [if_neg]
        rintro ⟨-, e2⟩
        omega
      rw [e1]
      omega
/-- a row copied, up to i -/
def cp (M : mM) (a b i : Nat) : mM := fun x j => if x = b ∧ j < i then M a j else M x j
theorem cp_0 {M : mM} {a b : Nat} : cp M a b 0 = M := by
  funext x j
  simp [cp]
theorem cp_s {M : mM} {a b i : Nat} (h : a ≠ b) : mput (cp M a b i) b i (cp M a b i a i) = cp M a b (i + 1) := by
  funext x j
  unfold mput cp
  by_cases hx : x = b
  · subst hx
    by_cases hj : j = i
    · subst hj
      simp [h]
    · by_cases hl : j < i
      · have h2 : j < i + 1 := by omega
        simp [hj, hl, h2]
      · have h2 : ¬ j < i + 1 := by omega
        simp [hj, hl, h2]
  · simp [hx]
theorem kd_row (b j : Nat) (h : b = 67 ∨ b = 68 ∨ b = 69) : kd b j = kd 67 j := by
  rcases h with rfl | rfl | rfl <;> rfl
theorem Wf.ofcp {M : mM} {a b i : Nat} (h : Wf M) (ha : a = 67 ∨ a = 68 ∨ a = 69) (hb : b = 67 ∨ b = 68 ∨ b = 69) : Wf (cp M a b i) := by
  intro x j
  show okx (kd x j) (if x = b ∧ j < i then M a j else M x j)
  by_cases hx : x = b ∧ j < i
  · rw [if_pos hx, hx.1, kd_row b j hb, ← kd_row a j ha]
    exact h a j
  · rw [if_neg hx]
    exact h x j

theorem nar01 {v : Int32} (h : v = nI 0 ∨ v = nI 1) : narrow .boolean (.int v) = .int v := by
  rcases h with rfl | rfl <;> rfl
theorem and_dec {l : Int32} (h : ¬ l = 0) : (l &&& (l - nI 1)).toBitVec.toNat < l.toBitVec.toNat := by
  have h0 : l.toBitVec.toNat ≠ 0 := fun e => h (Int32.toBitVec_inj.mp (BitVec.eq_of_toNat_eq (by rw [e]; rfl)))
  have h1 : (l - nI 1).toBitVec.toNat = l.toBitVec.toNat - 1 := by
    rw [Int32.toBitVec_sub, BitVec.toNat_sub]
    have e : (nI 1).toBitVec.toNat = 1 := rfl
    have hl := l.toBitVec.isLt
    rw [e]
    omega
  rw [Int32.toBitVec_and, BitVec.toNat_and, h1]
  have := Nat.and_le_right (n := l.toBitVec.toNat) (m := l.toBitVec.toNat - 1)
  omega
section RD
variable {X : mSc} {Q : Option Value → mHp → Prop} {M : mM}
theorem l170  {nb : Nat} (hnb : M 67 1 = nI nb) (h8 : nb ≤ 8) : ∀ (n k : Nat) (s : Int32), nb - k < n → k ≤ nb → mEv X (QE M (fun _ => True)) 170 4 [some (.ref 66), some (.int s), some (.int (nI k))] [] (con M) := by
  have hm : mMet 170 = some _ := rfl
  intro n
  induction n with
  | zero =>
    intro k s hkn hkb
    omega
  | succ n ih =>
    intro k s hkn hkb
    refine x_iload_n hm rfl rfl ?_
    refine x_aload_n hm rfl rfl ?_
    refine x_getf hm rfl (gR rfl rfl) ?_
    refine x_iconst hm rfl (v := nI 1) (by decide) ?_
    refine x_iald hm rfl (lI rfl (by omega) (by decide)) ?_
    rw [hnb]
    refine x_icmp_ge hm rfl (t := 29) rfl (fun h1 => ?_) (fun h1 => ?_)
    · refine x_iload_n hm rfl rfl ?_
      refine x_iret hm rfl rfl (by first | rfl | exact bI_nar | decide) ?_
      exact ⟨_, rfl, rfl, trivial⟩
    · have hk : k < nb := Nat.lt_of_not_le fun h => h1 (nI_le h (by omega))
      refine x_iload_n hm rfl rfl ?_
      refine x_aload_n hm rfl rfl ?_
      refine x_iload_n hm rfl rfl ?_
      refine x_iconst hm rfl (v := nI 2) (by decide) ?_
      refine x_callV hm rfl rfl (t143 (by omega) (by omega)) ?_
      refine x_iadd hm rfl ?_
      refine x_istore_n hm rfl rfl ?_
      refine x_iinc hm rfl rfl (v := nI 1) (by decide) rfl ?_
      rw [jI_add]
      refine x_goto hm rfl (t := 4) rfl ?_
      exact ih _ _ (by omega) (by omega)
theorem t170 (hW : Wf M) : ∃ v, mT X 170 [.ref 66] (con M) (some (.int v)) (con M) ∧ True := by
  refine te_of (row := _) rfl (Nat.le_of_ble_eq_true rfl) ?_
  have hm : mMet 170 = some _ := rfl
  obtain ⟨nb, h8, hnb⟩ := hW.nt
  refine x_iconst hm rfl (v := nI 0) (by decide) ?_
  refine x_istore_n hm rfl rfl ?_
  refine x_iconst hm rfl (v := nI 0) (by decide) ?_
  refine x_istore_n hm rfl rfl ?_
  exact l170 hnb h8 _ 0 _ (Nat.lt_succ_self _) (Nat.zero_le _)
theorem l167  {nb : Nat} (hnb : M 67 1 = nI nb) (h8 : nb ≤ 8) : ∀ (n k : Nat) (s : Int32), nb - k < n → k ≤ nb → mEv X (QE M (fun _ => True)) 167 4 [some (.ref 66), some (.int s), some (.int (nI k))] [] (con M) := by
  have hm : mMet 167 = some _ := rfl
  intro n
  induction n with
  | zero =>
    intro k s hkn hkb
    omega
  | succ n ih =>
    intro k s hkn hkb
    refine x_iload_n hm rfl rfl ?_
    refine x_aload_n hm rfl rfl ?_
    refine x_getf hm rfl (gR rfl rfl) ?_
    refine x_iconst hm rfl (v := nI 1) (by decide) ?_
    refine x_iald hm rfl (lI rfl (by omega) (by decide)) ?_
    rw [hnb]
    refine x_icmp_ge hm rfl (t := 38) rfl (fun h1 => ?_) (fun h1 => ?_)
    · refine x_iload_n hm rfl rfl ?_
      refine x_iret hm rfl rfl (by first | rfl | exact bI_nar | decide) ?_
      exact ⟨_, rfl, rfl, trivial⟩
    · have hk : k < nb := Nat.lt_of_not_le fun h => h1 (nI_le h (by omega))
      refine x_iload_n hm rfl rfl ?_
      refine x_aload_n hm rfl rfl ?_
      refine x_iload_n hm rfl rfl ?_
      refine x_callV hm rfl rfl (t146 (by omega)) ?_
      refine x_if_eq hm rfl (t := 29) rfl (fun h2 => ?_) (fun h2 => ?_)
      · refine x_iconst hm rfl (v := nI 0) (by decide) ?_
        refine x_ior hm rfl ?_
        refine x_istore_n hm rfl rfl ?_
        refine x_iinc hm rfl rfl (v := nI 1) (by decide) rfl ?_
        rw [jI_add]
        refine x_goto hm rfl (t := 4) rfl ?_
        exact ih _ _ (by omega) (by omega)
      · refine x_iconst hm rfl (v := nI 1) (by decide) ?_
        refine x_iload_n hm rfl rfl ?_
        refine x_ishl hm rfl ?_
        refine x_goto hm rfl (t := 30) rfl ?_
        refine x_ior hm rfl ?_
        refine x_istore_n hm rfl rfl ?_
        refine x_iinc hm rfl rfl (v := nI 1) (by decide) rfl ?_
        rw [jI_add]
        refine x_goto hm rfl (t := 4) rfl ?_
        exact ih _ _ (by omega) (by omega)
theorem t167 (hW : Wf M) : ∃ v, mT X 167 [.ref 66] (con M) (some (.int v)) (con M) ∧ True := by
  refine te_of (row := _) rfl (Nat.le_of_ble_eq_true rfl) ?_
  have hm : mMet 167 = some _ := rfl
  obtain ⟨nb, h8, hnb⟩ := hW.nt
  refine x_iconst hm rfl (v := nI 0) (by decide) ?_
  refine x_istore_n hm rfl rfl ?_
  refine x_iconst hm rfl (v := nI 0) (by decide) ?_
  refine x_istore_n hm rfl rfl ?_
  exact l167 hnb h8 _ 0 _ (Nat.lt_succ_self _) (Nat.zero_le _)
theorem l160 {a1 : Int32} {nb : Nat} (hnb : M 67 1 = nI nb) (h8 : nb ≤ 8) : ∀ (n k : Nat) (s : Int32), nb - k < n → k ≤ nb → mEv X (QE M (fun _ => True)) 160 4 [some (.ref 66), some (.int a1), some (.int s), some (.int (nI k))] [] (con M) := by
  have hm : mMet 160 = some _ := rfl
  intro n
  induction n with
  | zero =>
    intro k s hkn hkb
    omega
  | succ n ih =>
    intro k s hkn hkb
    refine x_iload_n hm rfl rfl ?_
    refine x_aload_n hm rfl rfl ?_
    refine x_getf hm rfl (gR rfl rfl) ?_
    refine x_iconst hm rfl (v := nI 1) (by decide) ?_
    refine x_iald hm rfl (lI rfl (by omega) (by decide)) ?_
    rw [hnb]
    refine x_icmp_ge hm rfl (t := 40) rfl (fun h1 => ?_) (fun h1 => ?_)
    · refine x_iload_n hm rfl rfl ?_
      refine x_iret hm rfl rfl (by first | rfl | exact bI_nar | decide) ?_
      exact ⟨_, rfl, rfl, trivial⟩
    · have hk : k < nb := Nat.lt_of_not_le fun h => h1 (nI_le h (by omega))
      refine x_iload_n hm rfl rfl ?_
      refine x_aload_n hm rfl rfl ?_
      refine x_iload_n hm rfl rfl ?_
      refine x_iconst hm rfl (v := nI 4) (by decide) ?_
      refine x_callV hm rfl rfl (t143 (by omega) (by omega)) ?_
      refine x_iload_n hm rfl rfl ?_
      refine x_icmp_ne hm rfl (t := 31) rfl (fun h2 => ?_) (fun h2 => ?_)
      · refine x_iconst hm rfl (v := nI 0) (by decide) ?_
        refine x_ior hm rfl ?_
        refine x_istore_n hm rfl rfl ?_
        refine x_iinc hm rfl rfl (v := nI 1) (by decide) rfl ?_
        rw [jI_add]
        refine x_goto hm rfl (t := 4) rfl ?_
        exact ih _ _ (by omega) (by omega)
      · refine x_iconst hm rfl (v := nI 1) (by decide) ?_
        refine x_iload_n hm rfl rfl ?_
        refine x_ishl hm rfl ?_
        refine x_goto hm rfl (t := 32) rfl ?_
        refine x_ior hm rfl ?_
        refine x_istore_n hm rfl rfl ?_
        refine x_iinc hm rfl rfl (v := nI 1) (by decide) rfl ?_
        rw [jI_add]
        refine x_goto hm rfl (t := 4) rfl ?_
        exact ih _ _ (by omega) (by omega)
theorem t160 {a1 : Int32} (hW : Wf M) : ∃ v, mT X 160 [.ref 66, .int a1] (con M) (some (.int v)) (con M) ∧ True := by
  refine te_of (row := _) rfl (Nat.le_of_ble_eq_true rfl) ?_
  have hm : mMet 160 = some _ := rfl
  obtain ⟨nb, h8, hnb⟩ := hW.nt
  refine x_iconst hm rfl (v := nI 0) (by decide) ?_
  refine x_istore_n hm rfl rfl ?_
  refine x_iconst hm rfl (v := nI 0) (by decide) ?_
  refine x_istore_n hm rfl rfl ?_
  exact l160 hnb h8 _ 0 _ (Nat.lt_succ_self _) (Nat.zero_le _)
theorem l171 {a1 : Int32} {nb : Nat} (hnb : M 67 2 = nI nb) (h8 : nb ≤ 8) : ∀ (n k : Nat) (s : Int32), nb - k < n → k ≤ nb → (s = nI 0 ∨ s = nI 1) → mEv X (QE M (fun _ => True)) 171 4 [some (.ref 66), some (.int a1), some (.int s), some (.int (nI k))] [] (con M) := by
  have hm : mMet 171 = some _ := rfl
  intro n
  induction n with
  | zero =>
    intro k s hkn hkb h01
    omega
  | succ n ih =>
    intro k s hkn hkb h01
    refine x_iload_n hm rfl rfl ?_
    refine x_aload_n hm rfl rfl ?_
    refine x_getf hm rfl (gR rfl rfl) ?_
    refine x_iconst hm rfl (v := nI 2) (by decide) ?_
    refine x_iald hm rfl (lI rfl (by omega) (by decide)) ?_
    rw [hnb]
    refine x_icmp_ge hm rfl (t := 40) rfl (fun h1 => ?_) (fun h1 => ?_)
    · refine x_iload_n hm rfl rfl ?_
      refine x_iret hm rfl rfl (nar01 h01) ?_
      exact ⟨_, rfl, rfl, trivial⟩ --stop
    · have hk : k < nb := Nat.lt_of_not_le fun h => h1 (nI_le h (by omega))
      refine x_iload_n hm rfl rfl ?_
      refine x_if_ne hm rfl (t := 28) rfl (fun h2 => ?_) (fun h2 => ?_)
      · refine x_iconst hm rfl (v := nI 1) (by decide) ?_
        refine x_goto hm rfl (t := 33) rfl ?_
        refine x_istore_n hm rfl rfl ?_
        refine x_iinc hm rfl rfl (v := nI 1) (by decide) rfl ?_
        rw [jI_add]
        refine x_goto hm rfl (t := 4) rfl ?_
        exact ih _ _ (by omega) (by omega) (by first | exact Or.inl rfl | exact Or.inr rfl)
      · refine x_aload_n hm rfl rfl ?_
        refine x_iload_n hm rfl rfl ?_
        refine x_iconst hm rfl (v := nI 1) (by decide) ?_
        refine x_callV hm rfl rfl (t141 (by omega) (by omega)) ?_
        refine x_iload_n hm rfl rfl ?_
        refine x_icmp_ne hm rfl (t := 32) rfl (fun h3 => ?_) (fun h3 => ?_)
        · refine x_iconst hm rfl (v := nI 0) (by decide) ?_
          refine x_istore_n hm rfl rfl ?_
          refine x_iinc hm rfl rfl (v := nI 1) (by decide) rfl ?_
          rw [jI_add]
          refine x_goto hm rfl (t := 4) rfl ?_
          exact ih _ _ (by omega) (by omega) (by first | exact Or.inl rfl | exact Or.inr rfl)
        · refine x_iconst hm rfl (v := nI 1) (by decide) ?_
          refine x_goto hm rfl (t := 33) rfl ?_
          refine x_istore_n hm rfl rfl ?_
          refine x_iinc hm rfl rfl (v := nI 1) (by decide) rfl ?_
          rw [jI_add]
          refine x_goto hm rfl (t := 4) rfl ?_
          exact ih _ _ (by omega) (by omega) (by first | exact Or.inl rfl | exact Or.inr rfl)
theorem t171 {a1 : Int32} (hW : Wf M) : ∃ v, mT X 171 [.ref 66, .int a1] (con M) (some (.int v)) (con M) ∧ True := by
  refine te_of (row := _) rfl (Nat.le_of_ble_eq_true rfl) ?_
  have hm : mMet 171 = some _ := rfl
  obtain ⟨nb, h8, hnb⟩ := hW.np
  refine x_iconst hm rfl (v := nI 0) (by decide) ?_
  refine x_istore_n hm rfl rfl ?_
  refine x_iconst hm rfl (v := nI 0) (by decide) ?_
  refine x_istore_n hm rfl rfl ?_
  exact l171 hnb h8 _ 0 _ (Nat.lt_succ_self _) (Nat.zero_le _) (Or.inl rfl)
theorem l168 {a1 : Int32} : ∀ (n : Nat) (s l : Int32), l.toBitVec.toNat < n → mEv X (QE M (fun _ => True)) 168 4 [some (.int a1), some (.int s), some (.int l)] [] (con M) := by
  have hm : mMet 168 = some _ := rfl
  intro n
  induction n with
  | zero =>
    intro s l hl
    omega
  | succ n ih =>
    intro s l hl
    refine x_iload_n hm rfl rfl ?_
    refine x_if_eq hm rfl (t := 20) rfl (fun h1 => ?_) (fun h1 => ?_)
    · refine x_iload_n hm rfl rfl ?_
      refine x_iret hm rfl rfl (by first | rfl | exact bI_nar | decide) ?_
      exact ⟨_, rfl, rfl, trivial⟩
    · refine x_iinc hm rfl rfl (v := nI 1) (by decide) rfl ?_
      refine x_iload_n hm rfl rfl ?_
      refine x_iload_n hm rfl rfl ?_
      refine x_iconst hm rfl (v := nI 1) (by decide) ?_
      refine x_isub hm rfl ?_
      refine x_iand hm rfl ?_
      refine x_istore_n hm rfl rfl ?_
      refine x_goto hm rfl (t := 4) rfl ?_
      exact ih _ _ (by have := and_dec h1; omega)
theorem t168 {a1 : Int32} : ∃ v, mT X 168 [.int a1] (con M) (some (.int v)) (con M) ∧ True := by
  refine te_of (row := _) rfl (Nat.le_of_ble_eq_true rfl) ?_
  have hm : mMet 168 = some _ := rfl
  refine x_iconst hm rfl (v := nI 0) (by decide) ?_
  refine x_istore_n hm rfl rfl ?_
  refine x_iload_n hm rfl rfl ?_
  refine x_istore_n hm rfl rfl ?_
  exact l168 _ _ _ (Nat.lt_succ_self _)
theorem l174 {a b : Nat} (ha : mSp[a]? = some (0, 118, [])) (hb : mSp[b]? = some (0, 118, [])) (hab : a ≠ b) : ∀ (n i : Nat), 118 - i < n → i ≤ 118 → mEv X (fun r1 D1 => r1 = none ∧ D1 = con (cp M a b 118)) 174 2 [some (.ref a), some (.ref b), some (.int (nI i))] [] (con (cp M a b i)) := by
  have hm : mMet 174 = some _ := rfl
  intro n
  induction n with
  | zero =>
    intro i hin hi
    omega
  | succ n ih =>
    intro i hin hi
    refine x_iload_n hm rfl rfl ?_
    refine x_bipush hm rfl (v := nI 118) (by decide) ?_
    refine x_icmp_ge hm rfl (t := 20) rfl (fun h1 => ?_) (fun h1 => ?_)
    · obtain rfl : i = 118 := Nat.le_antisymm hi ((jI_le (by decide) (by omega)).mp h1)
      refine x_ret hm rfl rfl ?_
      exact ⟨rfl, rfl⟩
    · have hk : i < 118 := Nat.lt_of_not_le fun h => h1 (nI_le h (by omega))
      refine x_aload_n hm rfl rfl ?_
      refine x_iload_n hm rfl rfl ?_
      refine x_aload_n hm rfl rfl ?_
      refine x_iload_n hm rfl rfl ?_
      refine x_iald hm rfl (lI ha hk (by decide)) ?_
      refine x_iast hm rfl (sI hb hk (by decide)) ?_
      rw [cp_s hab]
      refine x_iinc hm rfl rfl (v := nI 1) (by decide) rfl ?_
      rw [jI_add]
      refine x_goto hm rfl (t := 2) rfl ?_
      exact ih _ (by omega) (by omega)
theorem t174 {a b : Nat} (ha : mSp[a]? = some (0, 118, [])) (hb : mSp[b]? = some (0, 118, [])) (hab : a ≠ b) : mT X 174 [.ref a, .ref b] (con M) none (con (cp M a b 118)) := by
  refine mT.of (row := _) rfl (Nat.le_of_ble_eq_true rfl) ?_
  have hm : mMet 174 = some _ := rfl
  refine x_iconst hm rfl (v := nI 0) (by decide) ?_
  refine x_istore_n hm rfl rfl ?_
  have h9 := l174 (X := X) (M := M) ha hb hab _ 0 (Nat.lt_succ_self _) (Nat.zero_le _)
  rw [cp_0] at h9
  exact h9
theorem t175 {v : Int32} : mT X 175 [.ref 66, .int v] (con M) (some (.int v)) (con (cp M 69 67 118)) := by
  refine mT.of (row := _) rfl (Nat.le_of_ble_eq_true rfl) ?_
  have hm : mMet 175 = some _ := rfl
  refine x_aload_n hm rfl rfl ?_
  refine x_getf hm rfl (gR rfl rfl) ?_
  refine x_aload_n hm rfl rfl ?_
  refine x_getf hm rfl (gR rfl rfl) ?_
  refine x_callS hm rfl rfl (t174 rfl rfl (by decide)) ?_
  refine x_iload_n hm rfl rfl ?_
  refine x_iret hm rfl rfl (by first | rfl | exact bI_nar | decide) ?_
  exact ⟨rfl, rfl⟩
end RD
section RE
variable {X : mSc} {Q : Option Value → mHp → Prop} {M : mM}
theorem l166 {nb : Nat} (hW : Wf M) (hnb : M 67 1 = nI nb) (h8 : nb ≤ 8) : ∀ (n k : Nat) (s : Int32) (M1 : mM), nb - k < n → k ≤ nb → Dy M M1 → ((s = nI 0 ∧ cnt (M1 67) nb ≤ cnt (M 67) nb) ∨ (s = nI 1 ∧ cnt (M1 67) nb < cnt (M 67) nb)) → mEv X (QI (fun v M' => Dy M M' ∧ ((v = nI 0 ∧ cnt (M' 67) nb ≤ cnt (M 67) nb) ∨ (v = nI 1 ∧ cnt (M' 67) nb < cnt (M 67) nb)))) 166 4 [some (.ref 66), some (.int s), some (.int (nI k))] [] (con M1) := by
  have hm : mMet 166 = some _ := rfl
  intro n
  induction n with
  | zero =>
    intro k s M1 hkn hkb hD hc
    omega
  | succ n ih =>
    intro k s M1 hkn hkb hD hc
    have hW1 := hD.1.1 hW
    have hn1 : M1 67 1 = nI nb := hD.1.2.1.trans hnb
    have h01 : s = nI 0 ∨ s = nI 1 := hc.elim (fun h => Or.inl h.1) (fun h => Or.inr h.1)
    refine x_iload_n hm rfl rfl ?_
    refine x_aload_n hm rfl rfl ?_
    refine x_getf hm rfl (gR rfl rfl) ?_
    refine x_iconst hm rfl (v := nI 1) (by decide) ?_
    refine x_iald hm rfl (lI rfl (by omega) (by decide)) ?_
    rw [hn1]
    refine x_icmp_ge hm rfl (t := 63) rfl (fun h1 => ?_) (fun h1 => ?_)
    · refine x_iload_n hm rfl rfl ?_
      refine x_iret hm rfl rfl (nar01 h01) ?_
      exact ⟨_, _, rfl, rfl, hD, hc⟩ --stop
    · have hk : k < nb := Nat.lt_of_not_le fun h => h1 (nI_le h (by omega))
      refine x_aload_n hm rfl rfl ?_
      refine x_iload_n hm rfl rfl ?_
      refine x_callV hm rfl rfl (t146 (by omega)) ?_
      refine x_if_ne hm rfl (t := 57) rfl (fun h2 => ?_) (fun h2 => ?_)
      · refine x_iinc hm rfl rfl (v := nI 1) (by decide) rfl ?_
        rw [jI_add]
        refine x_goto hm rfl (t := 4) rfl ?_
        first
          | exact ih _ _ _ (by omega) (by omega) hD hc
          | exact ih _ _ _ (by omega) (by omega) (hD.trans (Dy.put (Sf.thing (by omega) (by decide) (by decide) (by decide)) (by decide))) (Or.inr ⟨rfl, by have := cnt_zero (M := M1) nb hk hg; omega⟩)
      · have hg : ¬ M1 67 (14 + 6 * k + 2) = 0 := bI_eq0.mp h2
        refine x_aload_n hm rfl rfl ?_
        refine x_iload_n hm rfl rfl ?_
        refine x_iconst hm rfl (v := nI 5) (by decide) ?_
        refine x_callV hm rfl rfl (t143 (by omega) (by omega)) ?_
        refine x_if_lt hm rfl (t := 57) rfl (fun h3 => ?_) (fun h3 => ?_)
        · refine x_iinc hm rfl rfl (v := nI 1) (by decide) rfl ?_
          rw [jI_add]
          refine x_goto hm rfl (t := 4) rfl ?_
          first
            | exact ih _ _ _ (by omega) (by omega) hD hc
            | exact ih _ _ _ (by omega) (by omega) (hD.trans (Dy.put (Sf.thing (by omega) (by decide) (by decide) (by decide)) (by decide))) (Or.inr ⟨rfl, by have := cnt_zero (M := M1) nb hk hg; omega⟩)
        · obtain ⟨w, hw, hw2⟩ := tsm1 h3 (hW1.on (by omega))
          refine x_aload_n hm rfl rfl ?_
          refine x_aload_n hm rfl rfl ?_
          refine x_iload_n hm rfl rfl ?_
          refine x_iconst hm rfl (v := nI 5) (by decide) ?_
          refine x_callV hm rfl rfl (t143 (by omega) (by omega)) ?_
          rw [hw2]
          refine x_callV hm rfl rfl (t146 (by omega)) ?_
          refine x_if_eq hm rfl (t := 57) rfl (fun h4 => ?_) (fun h4 => ?_)
          · refine x_iinc hm rfl rfl (v := nI 1) (by decide) rfl ?_
            rw [jI_add]
            refine x_goto hm rfl (t := 4) rfl ?_
            first
              | exact ih _ _ _ (by omega) (by omega) hD hc
              | exact ih _ _ _ (by omega) (by omega) (hD.trans (Dy.put (Sf.thing (by omega) (by decide) (by decide) (by decide)) (by decide))) (Or.inr ⟨rfl, by have := cnt_zero (M := M1) nb hk hg; omega⟩)
          · refine x_aload_n hm rfl rfl ?_
            refine x_getf hm rfl (gR rfl rfl) ?_
            refine x_iload_n hm rfl rfl ?_
            refine x_iconst hm rfl (v := nI 2) (by decide) ?_
            refine x_callS hm rfl rfl (t137) ?_
            refine x_iconst hm rfl (v := nI 0) (by decide) ?_
            refine x_iast hm rfl (sI rfl (by omega) (by decide)) ?_
            refine x_iconst hm rfl (v := nI 1) (by decide) ?_
            refine x_istore_n hm rfl rfl ?_
            refine x_iinc hm rfl rfl (v := nI 1) (by decide) rfl ?_
            rw [jI_add]
            refine x_goto hm rfl (t := 4) rfl ?_
            first
              | exact ih _ _ _ (by omega) (by omega) hD hc
              | exact ih _ _ _ (by omega) (by omega) (hD.trans (Dy.put (Sf.thing (by omega) (by decide) (by decide) (by decide)) (by decide))) (Or.inr ⟨rfl, by have := cnt_zero (M := M1) nb hk hg; omega⟩)
theorem t166 {nb : Nat} (hW : Wf M) (hnb : M 67 1 = nI nb) (h8 : nb ≤ 8) : ∃ v M', mT X 166 [.ref 66] (con M) (some (.int v)) (con M') ∧ (fun v M' => Dy M M' ∧ ((v = nI 0 ∧ cnt (M' 67) nb ≤ cnt (M 67) nb) ∨ (v = nI 1 ∧ cnt (M' 67) nb < cnt (M 67) nb))) v M' := by
  refine ti_of (row := _) rfl (Nat.le_of_ble_eq_true rfl) ?_
  have hm : mMet 166 = some _ := rfl
  refine x_iconst hm rfl (v := nI 0) (by decide) ?_
  refine x_istore_n hm rfl rfl ?_
  refine x_iconst hm rfl (v := nI 0) (by decide) ?_
  refine x_istore_n hm rfl rfl ?_
  exact l166 hW hnb h8 _ 0 _ _ (Nat.lt_succ_self _) (Nat.zero_le _) Dy.rf (Or.inl ⟨rfl, Nat.le_refl _⟩)
theorem l165d {nb np : Nat} (hW : Wf M) (hnb : M 67 1 = nI nb) (h8 : nb ≤ 8) (hnp : M 67 2 = nI np) (hp8 : np ≤ 8) {s : Int32} : ∀ (n k : Nat) (M1 : mM), np - k < n → k ≤ np → Dy M M1 → mEv X (QV (fun M' => Dy M M')) 165 82 [some (.ref 66), some (.int s), some (.int (nI k))] [] (con M1) := by
  have hm : mMet 165 = some _ := rfl
  intro n
  induction n with
  | zero =>
    intro k M1 hkn hkb hD
    omega
  | succ n ih =>
    intro k M1 hkn hkb hD
    have hW1 := hD.1.1 hW
    have hn1 : M1 67 1 = nI nb := hD.1.2.1.trans hnb
    have hp1 : M1 67 2 = nI np := hD.1.2.2.1.trans hnp
    refine x_iload_n hm rfl rfl ?_
    refine x_aload_n hm rfl rfl ?_
    refine x_getf hm rfl (gR rfl rfl) ?_
    refine x_iconst hm rfl (v := nI 2) (by decide) ?_
    refine x_iald hm rfl (lI rfl (by omega) (by decide)) ?_
    rw [hp1]
    refine x_icmp_ge hm rfl (t := 124) rfl (fun h1 => ?_) (fun h1 => ?_)
    · refine x_aload_n hm rfl rfl ?_
      refine x_getf hm rfl (gR rfl rfl) ?_
      refine x_iconst hm rfl (v := nI 0) (by decide) ?_
      refine x_dup2 hm rfl rfl rfl ?_
      refine x_iald hm rfl (lI rfl (by omega) (by decide)) ?_
      refine x_iconst hm rfl (v := nI 1) (by decide) ?_
      refine x_iadd hm rfl ?_
      refine x_iast hm rfl (sI rfl (by omega) (by decide)) ?_
      refine x_ret hm rfl rfl ?_
      exact ⟨_, rfl, rfl, hD.trans (Dy.put Sf.day (by decide))⟩
    · have hk : k < np := Nat.lt_of_not_le fun h => h1 (nI_le h (by omega))
      refine x_aload_n hm rfl rfl ?_
      refine x_getf hm rfl (gR rfl rfl) ?_
      refine x_iload_n hm rfl rfl ?_
      refine x_iconst hm rfl (v := nI 1) (by decide) ?_
      refine x_callS hm rfl rfl (t142) ?_
      refine x_aload_n hm rfl rfl ?_
      refine x_iload_n hm rfl rfl ?_
      refine x_iconst hm rfl (v := nI 1) (by decide) ?_
      refine x_callV hm rfl rfl (t141 (by omega) (by omega)) ?_
      refine x_aload_n hm rfl rfl ?_
      refine x_iload_n hm rfl rfl ?_
      refine x_iconst hm rfl (v := nI 2) (by decide) ?_
      refine x_callV hm rfl rfl (t141 (by omega) (by omega)) ?_
      refine x_iadd hm rfl ?_
      refine x_bipush hm rfl (v := nI 16) (by decide) ?_
      refine x_irem hm rfl (by decide) ?_
      refine x_iast hm rfl (sI rfl (by omega) (by decide)) ?_
      refine x_iinc hm rfl rfl (v := nI 1) (by decide) rfl ?_
      rw [jI_add]
      refine x_goto hm rfl (t := 82) rfl ?_
      exact ih _ _ (by omega) (by omega) (hD.trans (Dy.put (Sf.person (by omega) (by decide)) (by decide)))
theorem l165c {nb np : Nat} (hW : Wf M) (hnb : M 67 1 = nI nb) (h8 : nb ≤ 8) (hnp : M 67 2 = nI np) (hp8 : np ≤ 8) : ∀ (n : Nat) (s : Int32) (M1 : mM), (s = nI 0 ∨ (s = nI 1 ∧ cnt (M1 67) nb + 1 < n)) → 0 < n → Dy M M1 → mEv X (QV (fun M' => Dy M M')) 165 68 [some (.ref 66), some (.int s), none] [] (con M1) := by
  have hm : mMet 165 = some _ := rfl
  intro n
  induction n with
  | zero =>
    intro s M1 hs hn hD
    omega
  | succ n ih =>
    intro s M1 hs hn hD
    have hW1 := hD.1.1 hW
    have hn1 : M1 67 1 = nI nb := hD.1.2.1.trans hnb
    have hp1 : M1 67 2 = nI np := hD.1.2.2.1.trans hnp
    refine x_iload_n hm rfl rfl ?_
    refine x_if_eq hm rfl (t := 80) rfl (fun h1 => ?_) (fun h1 => ?_)
    · refine x_iconst hm rfl (v := nI 0) (by decide) ?_
      refine x_istore_n hm rfl rfl ?_
      exact l165d hW hnb h8 hnp hp8 _ 0 _ (Nat.lt_succ_self _) (Nat.zero_le _) hD
    · have hs2 : cnt (M1 67) nb + 1 < n + 1 := hs.elim (fun e => absurd e h1) (fun e => e.2)
      refine x_aload_n hm rfl rfl ?_
      refine x_cVi hm rfl rfl (t166 hW1 hn1 h8) (fun v2 M2 r2 => ?_)
      refine x_istore_n hm rfl rfl ?_
      refine x_goto hm rfl (t := 68) rfl ?_
      exact ih _ _ (r2.2.elim (fun e => Or.inl e.1) (fun e => Or.inr ⟨e.1, by omega⟩)) (by omega) (hD.trans r2.1)
theorem l165b {nb np : Nat} (hW : Wf M) (hnb : M 67 1 = nI nb) (h8 : nb ≤ 8) (hnp : M 67 2 = nI np) (hp8 : np ≤ 8) : ∀ (n k : Nat) (M1 : mM), nb - k < n → k ≤ nb → Dy M M1 → mEv X (QV (fun M' => Dy M M')) 165 31 [some (.ref 66), some (.int (nI k)), none] [] (con M1) := by
  have hm : mMet 165 = some _ := rfl
  intro n
  induction n with
  | zero =>
    intro k M1 hkn hkb hD
    omega
  | succ n ih =>
    intro k M1 hkn hkb hD
    have hW1 := hD.1.1 hW
    have hn1 : M1 67 1 = nI nb := hD.1.2.1.trans hnb
    have hp1 : M1 67 2 = nI np := hD.1.2.2.1.trans hnp
    refine x_iload_n hm rfl rfl ?_
    refine x_aload_n hm rfl rfl ?_
    refine x_getf hm rfl (gR rfl rfl) ?_
    refine x_iconst hm rfl (v := nI 1) (by decide) ?_
    refine x_iald hm rfl (lI rfl (by omega) (by decide)) ?_
    rw [hn1]
    refine x_icmp_ge hm rfl (t := 66) rfl (fun h1 => ?_) (fun h1 => ?_)
    · refine x_iconst hm rfl (v := nI 1) (by decide) ?_
      refine x_istore_n hm rfl rfl ?_
      exact l165c hW hnb h8 hnp hp8 _ _ _ (Or.inr ⟨rfl, Nat.lt_succ_self _⟩) (Nat.succ_pos _) hD
    · have hk : k < nb := Nat.lt_of_not_le fun h => h1 (nI_le h (by omega))
      refine x_aload_n hm rfl rfl ?_
      refine x_getf hm rfl (gR rfl rfl) ?_
      refine x_iload_n hm rfl rfl ?_
      refine x_iconst hm rfl (v := nI 2) (by decide) ?_
      refine x_callS hm rfl rfl (t137) ?_
      refine x_dup2 hm rfl rfl rfl ?_
      refine x_iald hm rfl (lI rfl (by omega) (by decide)) ?_
      refine x_aload_n hm rfl rfl ?_
      refine x_getf hm rfl (gR rfl rfl) ?_
      refine x_iload_n hm rfl rfl ?_
      refine x_iald hm rfl (lI rfl (by omega) (by decide)) ?_
      refine x_isub hm rfl ?_
      refine x_iast hm rfl (sI rfl (by omega) (by decide)) ?_
      refine x_iinc hm rfl rfl (v := nI 1) (by decide) rfl ?_
      rw [jI_add]
      refine x_goto hm rfl (t := 31) rfl ?_
      exact ih _ _ (by omega) (by omega) (hD.trans (Dy.put (Sf.thing (by omega) (by decide) (by decide) (by decide)) (by decide)))
theorem l165a {nb np : Nat} (hW : Wf M) (hnb : M 67 1 = nI nb) (h8 : nb ≤ 8) (hnp : M 67 2 = nI np) (hp8 : np ≤ 8) : ∀ (n k : Nat) (M1 : mM), nb - k < n → k ≤ nb → Dy M M1 → mEv X (QV (fun M' => Dy M M')) 165 2 [some (.ref 66), some (.int (nI k)), none] [] (con M1) := by
  have hm : mMet 165 = some _ := rfl
  intro n
  induction n with
  | zero =>
    intro k M1 hkn hkb hD
    omega
  | succ n ih =>
    intro k M1 hkn hkb hD
    have hW1 := hD.1.1 hW
    have hn1 : M1 67 1 = nI nb := hD.1.2.1.trans hnb
    have hp1 : M1 67 2 = nI np := hD.1.2.2.1.trans hnp
    refine x_iload_n hm rfl rfl ?_
    refine x_aload_n hm rfl rfl ?_
    refine x_getf hm rfl (gR rfl rfl) ?_
    refine x_iconst hm rfl (v := nI 1) (by decide) ?_
    refine x_iald hm rfl (lI rfl (by omega) (by decide)) ?_
    rw [hn1]
    refine x_icmp_ge hm rfl (t := 29) rfl (fun h1 => ?_) (fun h1 => ?_)
    · refine x_iconst hm rfl (v := nI 0) (by decide) ?_
      refine x_istore_n hm rfl rfl ?_
      exact l165b hW hnb h8 hnp hp8 _ 0 _ (Nat.lt_succ_self _) (Nat.zero_le _) hD
    · have hk : k < nb := Nat.lt_of_not_le fun h => h1 (nI_le h (by omega))
      refine x_aload_n hm rfl rfl ?_
      refine x_getf hm rfl (gR rfl rfl) ?_
      refine x_iload_n hm rfl rfl ?_
      refine x_aload_n hm rfl rfl ?_
      refine x_iload_n hm rfl rfl ?_
      refine x_cVe hm rfl rfl (t140 hW1 (by omega)) (fun v2 r2 => ?_)
      refine x_iast hm rfl (sI rfl (by omega) (by decide)) ?_
      refine x_iinc hm rfl rfl (v := nI 1) (by decide) rfl ?_
      rw [jI_add]
      refine x_goto hm rfl (t := 2) rfl ?_
      exact ih _ _ (by omega) (by omega) (hD.trans (Dy.put (Sf.put0 (kd71 _) (by decide) (by decide)) (by decide)))
theorem t165 (hW : Wf M) : ∃ M', mT X 165 [.ref 66] (con M) none (con M') ∧ Dy M M' := by
  refine tv_of (row := _) rfl (Nat.le_of_ble_eq_true rfl) ?_
  have hm : mMet 165 = some _ := rfl
  obtain ⟨nb, h8, hnb⟩ := hW.nt
  obtain ⟨np, hp8, hnp⟩ := hW.np
  refine x_iconst hm rfl (v := nI 0) (by decide) ?_
  refine x_istore_n hm rfl rfl ?_
  exact l165a hW hnb h8 hnp hp8 _ 0 _ (Nat.lt_succ_self _) (Nat.zero_le _) Dy.rf
theorem l164 {a : Nat} (hW : Wf M) (ha : a ≤ 1000) : ∀ (n k : Nat) (M1 : mM), a - k < n → k ≤ a → Dy M M1 → mEv X (QV (fun M' => Dy M M')) 164 2 [some (.ref 66), some (.int (nI a)), some (.int (nI k))] [] (con M1) := by
  have hm : mMet 164 = some _ := rfl
  intro n
  induction n with
  | zero =>
    intro k M1 hkn hkb hD
    omega
  | succ n ih =>
    intro k M1 hkn hkb hD
    refine x_iload_n hm rfl rfl ?_
    refine x_iload_n hm rfl rfl ?_
    refine x_icmp_ge hm rfl (t := 17) rfl (fun h1 => ?_) (fun h1 => ?_)
    · refine x_ret hm rfl rfl ?_
      exact ⟨_, rfl, rfl, hD⟩
    · have hk : k < a := Nat.lt_of_not_le fun h => h1 (nI_le h (by omega))
      refine x_aload_n hm rfl rfl ?_
      refine x_cVv hm rfl rfl (t165 (hD.1.1 hW)) (fun M2 r2 => ?_)
      refine x_iinc hm rfl rfl (v := nI 1) (by decide) rfl ?_
      rw [jI_add]
      refine x_goto hm rfl (t := 2) rfl ?_
      exact ih _ _ (by omega) (by omega) (hD.trans r2)
theorem t164 {a : Nat} (hW : Wf M) (ha : a ≤ 1000) : ∃ M', mT X 164 [.ref 66, .int (nI a)] (con M) none (con M') ∧ Dy M M' := by
  refine tv_of (row := _) rfl (Nat.le_of_ble_eq_true rfl) ?_
  have hm : mMet 164 = some _ := rfl
  refine x_iconst hm rfl (v := nI 0) (by decide) ?_
  refine x_istore_n hm rfl rfl ?_
  exact l164 hW ha _ 0 _ (Nat.lt_succ_self _) (Nat.zero_le _) Dy.rf
end RE
