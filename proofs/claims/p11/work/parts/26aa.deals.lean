/-! ===== the reference: what hangs, deals ===== -/
section RH
variable {X : mSc} {Q : Option Value → mHp → Prop} {M : mM}
theorem ev_iqe {m pc : Nat} {L : mLoc} {st : List Value} {D : mHp} (hI : Inv M) (h : mEv X (QI (fun _ M' => M' = M)) m pc L st D) : mEv X (QI (fun _ M' => Iq M M')) m pc L st D := by
  obtain ⟨n, r, D', g1, v, M2, g2, g3, g4⟩ := h
  exact ⟨n, r, D', g1, v, M2, g2, g3, by rw [g4]; exact Iq.rf hI⟩
def Rch (r : Nat → Int32) (o u : Nat) : Prop := ∃ f, hr r o f u
theorem ev_mono {Q' : Option Value → mHp → Prop} {m pc : Nat} {L : mLoc} {st : List Value} {D : mHp} (h : mEv X Q m pc L st D) (hq : ∀ r D', Q r D' → Q' r D') : mEv X Q' m pc L st D := by
  obtain ⟨n, r, D', g1, g2⟩ := h
  exact ⟨n, r, D', g1, hq r D' g2⟩
theorem hang_next {nt : Nat} {rk : Nat → Nat} (hW : Wf M) (h8 : nt ≤ 8) (hrk : ∀ t u, t < nt → u ≤ 7 → M 67 (14 + 6 * t + 5) = nI u → u < nt ∧ rk u < rk t) {k n : Nat} (hk : k < nt) (hm : rk k + 1 < n + 1) : M 67 (14 + 6 * k + 5) < 0 ∨ ∃ w, w < nt ∧ M 67 (14 + 6 * k + 5) = nI w ∧ rk w + 1 < n := by
  rcases ok2 (hW.on (t := k) (by omega)) with e | ⟨w, hw, e⟩
  · exact Or.inl (by rw [e]; decide)
  · obtain ⟨g1, g2⟩ := hrk k w hk hw e
    exact Or.inr ⟨w, g1, e, by omega⟩
theorem nneg {k : Nat} (hk : k < 1000) {P : Prop} (h : nI k < 0) : P := absurd h (jI_nn (by omega))
theorem l154 {t0 o : Nat} (ho : o < 8) {nt : Nat} {rk : Nat → Nat} (hW : Wf M) (h8 : nt ≤ 8) (hrk : ∀ t u, t < nt → u ≤ 7 → M 67 (14 + 6 * t + 5) = nI u → u < nt ∧ rk u < rk t) : ∀ (n : Nat) (x : Int32), (x < 0 ∨ ∃ k, k < nt ∧ x = nI k ∧ rk k + 1 < n) → 0 < n → mEv X (QE M (fun v => (v = nI 0 ∨ v = nI 1) ∧ (v = nI 0 → ∀ k, k < nt → x = nI k → ¬ Rch (M 67) o k))) 154 2 [some (.ref 66), some (.int (nI t0)), some (.int (nI o)), some (.int x)] [] (con M) := by
  have hm : mMet 154 = some _ := rfl
  intro n
  induction n with
  | zero =>
    intro x hx hn
    exact absurd hn (by omega)
  | succ n ih =>
    intro x hx hn
    refine x_iload_n hm rfl rfl ?_
    refine x_if_lt hm rfl (t := 21) rfl (fun h1 => ?_) (fun h1 => ?_)
    · refine x_iload_n hm rfl rfl ?_
      refine x_if_lt hm rfl (t := 29) rfl (fun h2 => ?_) (fun h2 => ?_)
      · refine x_iconst hm rfl (v := nI 0) (by decide) ?_
        refine x_iret hm rfl rfl (by first | rfl | exact bI_nar | decide) ?_
        exact ⟨_, rfl, rfl, by first | exact Or.inl rfl | exact Or.inr rfl, fun e k hk he => by first | exact absurd e (by decide) | (subst he; exact absurd (by assumption : nI k < 0) (jI_nn (by omega)))⟩
      · refine x_iconst hm rfl (v := nI 1) (by decide) ?_
        refine x_goto hm rfl (t := 30) rfl ?_
        refine x_iret hm rfl rfl (by first | rfl | exact bI_nar | decide) ?_
        exact ⟨_, rfl, rfl, by first | exact Or.inl rfl | exact Or.inr rfl, fun e k hk he => by first | exact absurd e (by decide) | (subst he; exact absurd (by assumption : nI k < 0) (jI_nn (by omega)))⟩
    · refine x_iload_n hm rfl rfl ?_
      refine x_iload_n hm rfl rfl ?_
      refine x_icmp_eq hm rfl (t := 21) rfl (fun h3 => ?_) (fun h3 => ?_)
      · refine x_iload_n hm rfl rfl ?_
        refine x_if_lt hm rfl (t := 29) rfl (fun h4 => ?_) (fun h4 => ?_)
        · refine x_iconst hm rfl (v := nI 0) (by decide) ?_
          refine x_iret hm rfl rfl (by first | rfl | exact bI_nar | decide) ?_
          exact ⟨_, rfl, rfl, by first | exact Or.inl rfl | exact Or.inr rfl, fun e k hk he => by first | exact absurd e (by decide) | (subst he; exact absurd (by assumption : nI k < 0) (jI_nn (by omega)))⟩
        · refine x_iconst hm rfl (v := nI 1) (by decide) ?_
          refine x_goto hm rfl (t := 30) rfl ?_
          refine x_iret hm rfl rfl (by first | rfl | exact bI_nar | decide) ?_
          exact ⟨_, rfl, rfl, by first | exact Or.inl rfl | exact Or.inr rfl, fun e k hk he => by first | exact absurd e (by decide) | (subst he; exact absurd (by assumption : nI k < 0) (jI_nn (by omega)))⟩
      · obtain ⟨k, hk, rfl, hm2⟩ := hx.resolve_left h1
        have hno := h3
        refine x_aload_n hm rfl rfl ?_
        refine x_iload_n hm rfl rfl ?_
        refine x_iconst hm rfl (v := nI 5) (by decide) ?_
        refine x_callV hm rfl rfl (t143 (by omega) (by omega)) ?_
        refine x_istore_n hm rfl rfl ?_
        refine x_goto hm rfl (t := 2) rfl ?_
        refine ev_mono (ih _ (hang_next hW h8 hrk hk hm2) (by omega)) ?_
        rintro r D ⟨v, e1, e2, h01, hnr⟩
        refine ⟨v, e1, e2, h01, fun e j hj he hR => ?_⟩
        obtain rfl := jI_inj (by omega) (by omega) he
        obtain ⟨f, hf⟩ := hR
        cases f with
        | zero => exact hf
        | succ f =>
          rcases hf with e3 | ⟨w, hw, e3, hf⟩
          · exact hno (by rw [e3])
          · exact hnr e w (hrk _ w hk hw e3).1 e3 ⟨f, hf⟩
theorem t154 {t o nt : Nat} (hI : Inv M) (hnt : M 67 1 = nI nt) (h8 : nt ≤ 8) (ht : t < nt) (ho : o < 8) : ∃ v, mT X 154 [.ref 66, .int (nI t), .int (nI o)] (con M) (some (.int v)) (con M) ∧ ((v = nI 0 ∨ v = nI 1) ∧ (v = nI 0 → ¬ Rch (M 67) o t)) := by
  refine te_of (row := _) rfl (Nat.le_of_ble_eq_true rfl) ?_
  have hm : mMet 154 = some _ := rfl
  obtain ⟨rk, hrk⟩ := hI.2.1 nt h8 hnt
  refine x_iload_n hm rfl rfl ?_
  refine x_istore_n hm rfl rfl ?_
  refine ev_mono (l154 ho hI.1 h8 hrk (rk t + 2) _ (Or.inr ⟨t, ht, rfl, by omega⟩) (by omega)) ?_
  rintro r D ⟨v, e1, e2, h01, hnr⟩
  exact ⟨v, e1, e2, h01, fun e => hnr e t ht rfl⟩
theorem l195 {t0 : Int32} {nt : Nat} {rk : Nat → Nat} (hW : Wf M) (h8 : nt ≤ 8) (hrk : ∀ t u, t < nt → u ≤ 7 → M 67 (14 + 6 * t + 5) = nI u → u < nt ∧ rk u < rk t) : ∀ (n : Nat) (x s : Int32), (x < 0 ∨ ∃ k, k < nt ∧ x = nI k ∧ rk k + 1 < n) → 0 < n → mEv X (QI (fun _ M' => M' = M)) 195 24 [some (.ref 66), some (.int t0), some (.int s), some (.int x)] [] (con M) := by
  have hm : mMet 195 = some _ := rfl
  intro n
  induction n with
  | zero =>
    intro x s hx hn
    exact absurd hn (by omega)
  | succ n ih =>
    intro x s hx hn
    refine x_iload_n hm rfl rfl ?_
    refine x_if_lt hm rfl (t := 41) rfl (fun h1 => ?_) (fun h1 => ?_)
    · refine x_iload_n hm rfl rfl ?_
      refine x_iret hm rfl rfl (by first | rfl | exact bI_nar | decide) ?_
      exact ⟨_, _, rfl, rfl, rfl⟩
    · obtain ⟨k, hk, rfl, hm2⟩ := hx.resolve_left h1
      refine x_iinc hm rfl rfl (v := nI 1) (by decide) rfl ?_
      refine x_aload_n hm rfl rfl ?_
      refine x_iload_n hm rfl rfl ?_
      refine x_iconst hm rfl (v := nI 5) (by decide) ?_
      refine x_callV hm rfl rfl (t143 (by omega) (by omega)) ?_
      refine x_istore_n hm rfl rfl ?_
      refine x_goto hm rfl (t := 24) rfl ?_
      exact ih _ _ (hang_next hW h8 hrk hk hm2) (by omega)
theorem t195 {a1 : Int32} (hI : Inv M) : ∃ v M', mT X 195 [.ref 66, .int a1] (con M) (some (.int v)) (con M') ∧ Iq M M' := by
  refine ti_of (row := _) rfl (Nat.le_of_ble_eq_true rfl) ?_
  have hm : mMet 195 = some _ := rfl
  obtain ⟨nt, hn8, hnt⟩ := hI.1.nt
  obtain ⟨rk, hrk⟩ := hI.2.1 nt hn8 hnt
  refine x_aload_n hm rfl rfl ?_
  refine x_iload_n hm rfl rfl ?_
  refine x_callV hm rfl rfl (t139) ?_
  refine x_if_ne hm rfl (t := 15) rfl (fun h1 => ?_) (fun h1 => ?_)
  · obtain ⟨t, ht, rfl⟩ := in_k hnt (by omega) (bI_ne0 h1)
    refine x_iconst hm rfl (v := nI 0) (by decide) ?_
    refine x_istore_n hm rfl rfl ?_
    refine x_aload_n hm rfl rfl ?_
    refine x_iload_n hm rfl rfl ?_
    refine x_iconst hm rfl (v := nI 5) (by decide) ?_
    refine x_callV hm rfl rfl (t143 (by omega) (by omega)) ?_
    refine x_istore_n hm rfl rfl ?_
    exact ev_iqe hI (l195 hI.1 hn8 hrk (rk t + 2) _ _ (hang_next hI.1 hn8 hrk ht (by omega)) (by omega))
  · refine x_aload_n hm rfl rfl ?_
    refine x_ldcI hm rfl (v := (-1000001 : Int32)) (by decide +kernel) ?_
    refine x_cVi hm rfl rfl (t135 (by decide +kernel)) (fun v2 M2 r2 => ?_)
    refine x_iret hm rfl rfl (by first | rfl | exact bI_nar | decide) ?_
    exact ⟨_, _, rfl, rfl, by first | exact Iq.rf hI | exact (r1.2.iq hI) | exact (r2.2.iq hI) | exact (r3.2.iq hI) | exact (r4.2.iq hI) | exact (r1.iq hI) | exact (r2.iq hI) | exact (r3.iq hI) | exact (r4.iq hI)⟩
theorem l194 {t : Nat} (hI : Inv M) (ht : t < 8) {nb : Nat} (hnb : M 67 1 = nI nb) (h8 : nb ≤ 8) : ∀ (n k : Nat) (s : Int32), nb - k < n → k ≤ nb → mEv X (QE M (fun _ => True)) 194 4 [some (.ref 66), some (.int (nI t)), some (.int s), some (.int (nI k))] [] (con M) := by
  have hm : mMet 194 = some _ := rfl
  intro n
  induction n with
  | zero =>
    intro k s hkn hkb
    omega
  | succ n ih =>
    intro k s hkn hkb
    refine x_iload_n hm rfl rfl ?_
    refine x_aload_n hm rfl rfl ?_
    refine x_getf hm rfl (gR rfl rfl) ?_
    refine x_iconst hm rfl (v := nI 1) (by decide) ?_
    refine x_iald hm rfl (lI rfl (by omega) (by decide)) ?_
    rw [hnb]
    refine x_icmp_ge hm rfl (t := 39) rfl (fun h1 => ?_) (fun h1 => ?_)
    · refine x_iload_n hm rfl rfl ?_
      refine x_iret hm rfl rfl (by first | rfl | exact bI_nar | decide) ?_
      exact ⟨_, rfl, rfl, trivial⟩
    · have hk : k < nb := Nat.lt_of_not_le fun h => h1 (nI_le h (by omega))
      refine x_iload_n hm rfl rfl ?_
      refine x_aload_n hm rfl rfl ?_
      refine x_iload_n hm rfl rfl ?_
      refine x_iload_n hm rfl rfl ?_
      refine x_cVe hm rfl rfl (t154 hI hnb h8 hk (by omega)) (fun v2 r2 => ?_)
      refine x_if_eq hm rfl (t := 30) rfl (fun h3 => ?_) (fun h3 => ?_)
      · refine x_iconst hm rfl (v := nI 0) (by decide) ?_
        refine x_ior hm rfl ?_
        refine x_istore_n hm rfl rfl ?_
        refine x_iinc hm rfl rfl (v := nI 1) (by decide) rfl ?_
        rw [jI_add]
        refine x_goto hm rfl (t := 4) rfl ?_
        exact ih _ _ (by omega) (by omega)
      · refine x_iconst hm rfl (v := nI 1) (by decide) ?_
        refine x_iload_n hm rfl rfl ?_
        refine x_ishl hm rfl ?_
        refine x_goto hm rfl (t := 31) rfl ?_
        refine x_ior hm rfl ?_
        refine x_istore_n hm rfl rfl ?_
        refine x_iinc hm rfl rfl (v := nI 1) (by decide) rfl ?_
        rw [jI_add]
        refine x_goto hm rfl (t := 4) rfl ?_
        exact ih _ _ (by omega) (by omega)
theorem t194 {t : Nat} (hI : Inv M) (ht : t < 8) : ∃ v, mT X 194 [.ref 66, .int (nI t)] (con M) (some (.int v)) (con M) ∧ True := by
  refine te_of (row := _) rfl (Nat.le_of_ble_eq_true rfl) ?_
  have hm : mMet 194 = some _ := rfl
  obtain ⟨nb, h8, hnb⟩ := hI.1.nt
  refine x_iconst hm rfl (v := nI 0) (by decide) ?_
  refine x_istore_n hm rfl rfl ?_
  refine x_iconst hm rfl (v := nI 0) (by decide) ?_
  refine x_istore_n hm rfl rfl ?_
  exact l194 hI ht hnb h8 _ 0 _ (Nat.lt_succ_self _) (Nat.zero_le _)
theorem t193 {a1 : Int32} (hI : Inv M) : ∃ v M', mT X 193 [.ref 66, .int a1] (con M) (some (.int v)) (con M') ∧ Iq M M' := by
  refine ti_of (row := _) rfl (Nat.le_of_ble_eq_true rfl) ?_
  have hm : mMet 193 = some _ := rfl
  obtain ⟨nt, hn8, hnt⟩ := hI.1.nt
  refine x_aload_n hm rfl rfl ?_
  refine x_iload_n hm rfl rfl ?_
  refine x_callV hm rfl rfl (t139) ?_
  refine x_if_eq hm rfl (t := 16) rfl (fun h1 => ?_) (fun h1 => ?_)
  · refine x_aload_n hm rfl rfl ?_
    refine x_ldcI hm rfl (v := (-1000001 : Int32)) (by decide +kernel) ?_
    refine x_cVi hm rfl rfl (t135 (by decide +kernel)) (fun v2 M2 r2 => ?_)
    refine x_iret hm rfl rfl (by first | rfl | exact bI_nar | decide) ?_
    exact ⟨_, _, rfl, rfl, by first | exact Iq.rf hI | exact (r1.2.iq hI) | exact (r2.2.iq hI) | exact (r3.2.iq hI) | exact (r4.2.iq hI) | exact (r1.iq hI) | exact (r2.iq hI) | exact (r3.iq hI) | exact (r4.iq hI)⟩
  · obtain ⟨t, ht, rfl⟩ := in_k hnt (by omega) (bI_ne0 h1)
    refine x_aload_n hm rfl rfl ?_
    refine x_iload_n hm rfl rfl ?_
    refine x_cVe hm rfl rfl (t194 hI (by omega)) (fun v3 r3 => ?_)
    refine x_goto hm rfl (t := 22) rfl ?_
    refine x_iret hm rfl rfl (by first | rfl | exact bI_nar | decide) ?_
    exact ⟨_, _, rfl, rfl, by first | exact Iq.rf hI | exact (r1.2.iq hI) | exact (r2.2.iq hI) | exact (r3.2.iq hI) | exact (r4.2.iq hI) | exact (r1.iq hI) | exact (r2.iq hI) | exact (r3.iq hI) | exact (r4.iq hI)⟩
theorem l196 (hI : Inv M) {nb : Nat} (hnb : M 67 1 = nI nb) (h8 : nb ≤ 8) : ∀ (n k : Nat) (b s : Int32) (x4 : Option Value), nb - k < n → k ≤ nb → mEv X (QI (fun _ M' => Iq M M')) 196 6 [some (.ref 66), some (.int b), some (.int s), some (.int (nI k)), x4] [] (con M) := by
  have hm : mMet 196 = some _ := rfl
  intro n
  induction n with
  | zero =>
    intro k b s x4 hkn hkb
    omega
  | succ n ih =>
    intro k b s x4 hkn hkb
    refine x_iload_n hm rfl rfl ?_
    refine x_aload_n hm rfl rfl ?_
    refine x_getf hm rfl (gR rfl rfl) ?_
    refine x_iconst hm rfl (v := nI 1) (by decide) ?_
    refine x_iald hm rfl (lI rfl (by omega) (by decide)) ?_
    rw [hnb]
    refine x_icmp_ge hm rfl (t := 51) rfl (fun h1 => ?_) (fun h1 => ?_)
    · refine x_aload_n hm rfl rfl ?_
      refine x_iload_n hm rfl rfl ?_
      refine x_cVi hm rfl rfl (t177) (fun v2 M2 r2 => ?_)
      refine x_iret hm rfl rfl (by first | rfl | exact bI_nar | decide) ?_
      exact ⟨_, _, rfl, rfl, by first | exact Iq.rf hI | exact (r1.2.iq hI) | exact (r2.2.iq hI) | exact (r3.2.iq hI) | exact (r4.2.iq hI) | exact (r1.iq hI) | exact (r2.iq hI) | exact (r3.iq hI) | exact (r4.iq hI)⟩
    · have hk : k < nb := Nat.lt_of_not_le fun h => h1 (nI_le h (by omega))
      refine x_aload_n hm rfl rfl ?_
      refine x_iload_n hm rfl rfl ?_
      refine x_cVe hm rfl rfl (t194 hI (by omega)) (fun v3 r3 => ?_)
      refine x_cSe hm rfl rfl (t168) (fun v4 r4 => ?_)
      refine x_istore hm rfl rfl ?_
      refine x_iload hm rfl rfl ?_
      refine x_iload_n hm rfl rfl ?_
      refine x_icmp_le hm rfl (t := 36) rfl (fun h5 => ?_) (fun h5 => ?_)
      · refine x_iload_n hm rfl rfl ?_
        refine x_istore_n hm rfl rfl ?_
        refine x_iload_n hm rfl rfl ?_
        refine x_iload hm rfl rfl ?_
        refine x_lib hm rfl rfl ?_
        dsimp only
        refine x_istore_n hm rfl rfl ?_
        refine x_iinc hm rfl rfl (v := nI 1) (by decide) rfl ?_
        rw [jI_add]
        refine x_goto hm rfl (t := 6) rfl ?_
        exact ih _ _ _ _ (by omega) (by omega)
      · refine x_iload_n hm rfl rfl ?_
        refine x_goto hm rfl (t := 37) rfl ?_
        refine x_istore_n hm rfl rfl ?_
        refine x_iload_n hm rfl rfl ?_
        refine x_iload hm rfl rfl ?_
        refine x_lib hm rfl rfl ?_
        dsimp only
        refine x_istore_n hm rfl rfl ?_
        refine x_iinc hm rfl rfl (v := nI 1) (by decide) rfl ?_
        rw [jI_add]
        refine x_goto hm rfl (t := 6) rfl ?_
        exact ih _ _ _ _ (by omega) (by omega)
theorem t196  (hI : Inv M) : ∃ v M', mT X 196 [.ref 66] (con M) (some (.int v)) (con M') ∧ Iq M M' := by
  refine ti_of (row := _) rfl (Nat.le_of_ble_eq_true rfl) ?_
  have hm : mMet 196 = some _ := rfl
  obtain ⟨nb, h8, hnb⟩ := hI.1.nt
  refine x_iconst hm rfl (v := (-1 : Int32)) (by decide) ?_
  refine x_istore_n hm rfl rfl ?_
  refine x_iconst hm rfl (v := nI 0) (by decide) ?_
  refine x_istore_n hm rfl rfl ?_
  refine x_iconst hm rfl (v := nI 0) (by decide) ?_
  refine x_istore_n hm rfl rfl ?_
  exact l196 hI hnb h8 _ 0 _ _ _ (Nat.lt_succ_self _) (Nat.zero_le _)
theorem l197 (hW : Wf M) {nb : Nat} (hnb : M 67 1 = nI nb) (h8 : nb ≤ 8) : ∀ (n k : Nat) (s : Int32), nb - k < n → k ≤ nb → mEv X (QE M (fun _ => True)) 197 4 [some (.ref 66), some (.int s), some (.int (nI k))] [] (con M) := by
  have hm : mMet 197 = some _ := rfl
  intro n
  induction n with
  | zero =>
    intro k s hkn hkb
    omega
  | succ n ih =>
    intro k s hkn hkb
    refine x_iload_n hm rfl rfl ?_
    refine x_aload_n hm rfl rfl ?_
    refine x_getf hm rfl (gR rfl rfl) ?_
    refine x_iconst hm rfl (v := nI 1) (by decide) ?_
    refine x_iald hm rfl (lI rfl (by omega) (by decide)) ?_
    rw [hnb]
    refine x_icmp_ge hm rfl (t := 39) rfl (fun h1 => ?_) (fun h1 => ?_)
    · refine x_iload_n hm rfl rfl ?_
      refine x_iret hm rfl rfl (by first | rfl | exact bI_nar | decide) ?_
      exact ⟨_, rfl, rfl, trivial⟩
    · have hk : k < nb := Nat.lt_of_not_le fun h => h1 (nI_le h (by omega))
      refine x_iload_n hm rfl rfl ?_
      refine x_aload_n hm rfl rfl ?_
      refine x_iload_n hm rfl rfl ?_
      refine x_iconst hm rfl (v := nI 5) (by decide) ?_
      refine x_callV hm rfl rfl (t143 (by omega) (by omega)) ?_
      refine x_if_ge hm rfl (t := 30) rfl (fun h2 => ?_) (fun h2 => ?_)
      · refine x_iconst hm rfl (v := nI 0) (by decide) ?_
        refine x_ior hm rfl ?_
        refine x_istore_n hm rfl rfl ?_
        refine x_iinc hm rfl rfl (v := nI 1) (by decide) rfl ?_
        rw [jI_add]
        refine x_goto hm rfl (t := 4) rfl ?_
        exact ih _ _ (by omega) (by omega)
      · refine x_iconst hm rfl (v := nI 1) (by decide) ?_
        refine x_iload_n hm rfl rfl ?_
        refine x_ishl hm rfl ?_
        refine x_goto hm rfl (t := 31) rfl ?_
        refine x_ior hm rfl ?_
        refine x_istore_n hm rfl rfl ?_
        refine x_iinc hm rfl rfl (v := nI 1) (by decide) rfl ?_
        rw [jI_add]
        refine x_goto hm rfl (t := 4) rfl ?_
        exact ih _ _ (by omega) (by omega)
theorem t197 (hW : Wf M) : ∃ v, mT X 197 [.ref 66] (con M) (some (.int v)) (con M) ∧ True := by
  refine te_of (row := _) rfl (Nat.le_of_ble_eq_true rfl) ?_
  have hm : mMet 197 = some _ := rfl
  obtain ⟨nb, h8, hnb⟩ := hW.nt
  refine x_iconst hm rfl (v := nI 0) (by decide) ?_
  refine x_istore_n hm rfl rfl ?_
  refine x_iconst hm rfl (v := nI 0) (by decide) ?_
  refine x_istore_n hm rfl rfl ?_
  exact l197 hW hnb h8 _ 0 _ (Nat.lt_succ_self _) (Nat.zero_le _)
theorem l200 {p : Nat} {a2 : Int32} (hW : Wf M) (hp : p < 8) {nb : Nat} (hnb : M 67 1 = nI nb) (h8 : nb ≤ 8) : ∀ (n k : Nat) (s : Int32), nb - k < n → k ≤ nb → mEv X (QE M (fun _ => True)) 200 5 [some (.ref 66), some (.int (nI p)), some (.int a2), some (.int s), some (.int (nI k))] [] (con M) := by
  have hm : mMet 200 = some _ := rfl
  intro n
  induction n with
  | zero =>
    intro k s hkn hkb
    omega
  | succ n ih =>
    intro k s hkn hkb
    refine x_iload hm rfl rfl ?_
    refine x_aload_n hm rfl rfl ?_
    refine x_getf hm rfl (gR rfl rfl) ?_
    refine x_iconst hm rfl (v := nI 1) (by decide) ?_
    refine x_iald hm rfl (lI rfl (by omega) (by decide)) ?_
    rw [hnb]
    refine x_icmp_ge hm rfl (t := 46) rfl (fun h1 => ?_) (fun h1 => ?_)
    · refine x_iload_n hm rfl rfl ?_
      refine x_iret hm rfl rfl (by first | rfl | exact bI_nar | decide) ?_
      exact ⟨_, rfl, rfl, trivial⟩
    · have hk : k < nb := Nat.lt_of_not_le fun h => h1 (nI_le h (by omega))
      refine x_iload_n hm rfl rfl ?_
      refine x_iload_n hm rfl rfl ?_
      refine x_iload hm rfl rfl ?_
      refine x_cSe hm rfl rfl (t191) (fun v2 r2 => ?_)
      refine x_if_eq hm rfl (t := 37) rfl (fun h3 => ?_) (fun h3 => ?_)
      · refine x_iconst hm rfl (v := nI 0) (by decide) ?_
        refine x_iadd hm rfl ?_
        refine x_istore_n hm rfl rfl ?_
        refine x_iinc hm rfl rfl (v := nI 1) (by decide) rfl ?_
        rw [jI_add]
        refine x_goto hm rfl (t := 5) rfl ?_
        exact ih _ _ (by omega) (by omega)
      · refine x_aload_n hm rfl rfl ?_
        refine x_iload_n hm rfl rfl ?_
        refine x_iload hm rfl rfl ?_
        refine x_iconst hm rfl (v := (-1 : Int32)) (by decide) ?_
        refine x_cVe hm rfl rfl (t145 hW (by omega) (by omega) okM1) (fun v4 r4 => ?_)
        refine x_goto hm rfl (t := 38) rfl ?_
        refine x_iadd hm rfl ?_
        refine x_istore_n hm rfl rfl ?_
        refine x_iinc hm rfl rfl (v := nI 1) (by decide) rfl ?_
        rw [jI_add]
        refine x_goto hm rfl (t := 5) rfl ?_
        exact ih _ _ (by omega) (by omega)
theorem t200 {p : Nat} {a2 : Int32} (hW : Wf M) (hp : p < 8) : ∃ v, mT X 200 [.ref 66, .int (nI p), .int a2] (con M) (some (.int v)) (con M) ∧ True := by
  refine te_of (row := _) rfl (Nat.le_of_ble_eq_true rfl) ?_
  have hm : mMet 200 = some _ := rfl
  obtain ⟨nb, h8, hnb⟩ := hW.nt
  refine x_iconst hm rfl (v := nI 0) (by decide) ?_
  refine x_istore_n hm rfl rfl ?_
  refine x_iconst hm rfl (v := nI 0) (by decide) ?_
  refine x_istore hm rfl rfl ?_
  exact l200 hW hp hnb h8 _ 0 _ (Nat.lt_succ_self _) (Nat.zero_le _)
theorem t199 {v : Int32} {nt : Nat} (hnt : M 67 1 = nI nt) (h8 : nt ≤ 8) : mT X 199 [.ref 66, .int v] (con M) (some (.int (bI (nI 0 ≤ v ∧ v ≤ nI (2 ^ nt) - nI 1)))) (con M) := by
  refine mT.of (row := _) rfl (Nat.le_of_ble_eq_true rfl) ?_
  have hm : mMet 199 = some _ := rfl
  refine x_iload_n hm rfl rfl ?_
  refine x_iconst hm rfl (v := nI 0) (by decide) ?_
  refine x_iconst hm rfl (v := nI 1) (by decide) ?_
  refine x_aload_n hm rfl rfl ?_
  refine x_getf hm rfl (gR rfl rfl) ?_
  refine x_iconst hm rfl (v := nI 1) (by decide) ?_
  refine x_iald hm rfl (lI rfl (by omega) (by decide)) ?_
  rw [hnt]
  refine x_ishl hm rfl ?_
  rw [shl_k nt h8]
  refine x_iconst hm rfl (v := nI 1) (by decide) ?_
  refine x_isub hm rfl ?_
  refine x_callS hm rfl rfl (t133) ?_
  refine x_iret hm rfl rfl (by first | rfl | exact bI_nar | decide) ?_
  exact qt rfl
theorem t198 {a1 a2 : Int32} (hI : Inv M) : ∃ v M', mT X 198 [.ref 66, .int a1, .int a2] (con M) (some (.int v)) (con M') ∧ Iq M M' := by
  refine ti_of (row := _) rfl (Nat.le_of_ble_eq_true rfl) ?_
  have hm : mMet 198 = some _ := rfl
  obtain ⟨np, hp8, hnp⟩ := hI.1.np
  obtain ⟨nt, hn8, hnt⟩ := hI.1.nt
  have hpw := pow_k hn8
  refine x_aload_n hm rfl rfl ?_
  refine x_iload_n hm rfl rfl ?_
  refine x_callV hm rfl rfl (t153) ?_
  refine x_if_eq hm rfl (t := 25) rfl (fun h1 => ?_) (fun h1 => ?_)
  · refine x_aload_n hm rfl rfl ?_
    refine x_ldcI hm rfl (v := (-1000001 : Int32)) (by decide +kernel) ?_
    refine x_cVi hm rfl rfl (t135 (by decide +kernel)) (fun v2 M2 r2 => ?_)
    refine x_iret hm rfl rfl (by first | rfl | exact bI_nar | decide) ?_
    exact ⟨_, _, rfl, rfl, by first | exact Iq.rf hI | exact (r1.2.iq hI) | exact (r2.2.iq hI) | exact (r3.2.iq hI) | exact (r4.2.iq hI) | exact (r1.iq hI) | exact (r2.iq hI) | exact (r3.iq hI) | exact (r4.iq hI)⟩
  · obtain ⟨p, hp, rfl⟩ := in_k hnp (by omega) (bI_ne0 h1)
    refine x_aload_n hm rfl rfl ?_
    refine x_iload_n hm rfl rfl ?_
    refine x_callV hm rfl rfl (t199 hnt hn8) ?_
    refine x_if_eq hm rfl (t := 25) rfl (fun h3 => ?_) (fun h3 => ?_)
    · refine x_aload_n hm rfl rfl ?_
      refine x_ldcI hm rfl (v := (-1000001 : Int32)) (by decide +kernel) ?_
      refine x_cVi hm rfl rfl (t135 (by decide +kernel)) (fun v4 M4 r4 => ?_)
      refine x_iret hm rfl rfl (by first | rfl | exact bI_nar | decide) ?_
      exact ⟨_, _, rfl, rfl, by first | exact Iq.rf hI | exact (r1.2.iq hI) | exact (r2.2.iq hI) | exact (r3.2.iq hI) | exact (r4.2.iq hI) | exact (r1.iq hI) | exact (r2.iq hI) | exact (r3.iq hI) | exact (r4.iq hI)⟩
    · obtain ⟨s, hs, rfl⟩ := in_k rfl (by omega) (bI_ne0 h3)
      refine x_aload_n hm rfl rfl ?_
      refine x_iload_n hm rfl rfl ?_
      refine x_iload_n hm rfl rfl ?_
      refine x_cVe hm rfl rfl (t200 hI.1 (by omega)) (fun v5 r5 => ?_)
      refine x_goto hm rfl (t := 31) rfl ?_
      refine x_iret hm rfl rfl (by first | rfl | exact bI_nar | decide) ?_
      exact ⟨_, _, rfl, rfl, by first | exact Iq.rf hI | exact (r1.2.iq hI) | exact (r2.2.iq hI) | exact (r3.2.iq hI) | exact (r4.2.iq hI) | exact (r1.iq hI) | exact (r2.iq hI) | exact (r3.iq hI) | exact (r4.iq hI)⟩
theorem t202 {a1 a2 a3 : Int32} (hI : Inv M) : ∃ v, mT X 202 [.ref 66, .int a1, .int a2, .int a3] (con M) (some (.int v)) (con M) ∧ (v = nI 0 ∨ (v = nI 1 ∧ ∃ p q s, p < 8 ∧ q < 8 ∧ s < 256 ∧ a1 = nI p ∧ a2 = nI q ∧ a3 = nI s)) := by
  refine te_of (row := _) rfl (Nat.le_of_ble_eq_true rfl) ?_
  have hm : mMet 202 = some _ := rfl
  obtain ⟨np, hp8, hnp⟩ := hI.1.np
  obtain ⟨nt, hn8, hnt⟩ := hI.1.nt
  have hpw := pow_k hn8
  refine x_aload_n hm rfl rfl ?_
  refine x_iload_n hm rfl rfl ?_
  refine x_callV hm rfl rfl (t153) ?_
  refine x_if_eq hm rfl (t := 33) rfl (fun h1 => ?_) (fun h1 => ?_)
  · refine x_iconst hm rfl (v := nI 0) (by decide) ?_
    refine x_iret hm rfl rfl (by first | rfl | exact bI_nar | decide) ?_
    exact ⟨_, rfl, rfl, by first | exact Or.inl rfl | exact Or.inr ⟨rfl, p, q, s, by omega, by omega, by omega, rfl, rfl, rfl⟩⟩
  · obtain ⟨p, hp, rfl⟩ := in_k hnp (by omega) (bI_ne0 h1)
    refine x_aload_n hm rfl rfl ?_
    refine x_iload_n hm rfl rfl ?_
    refine x_callV hm rfl rfl (t153) ?_
    refine x_if_eq hm rfl (t := 33) rfl (fun h2 => ?_) (fun h2 => ?_)
    · refine x_iconst hm rfl (v := nI 0) (by decide) ?_
      refine x_iret hm rfl rfl (by first | rfl | exact bI_nar | decide) ?_
      exact ⟨_, rfl, rfl, by first | exact Or.inl rfl | exact Or.inr ⟨rfl, p, q, s, by omega, by omega, by omega, rfl, rfl, rfl⟩⟩
    · obtain ⟨q, hq, rfl⟩ := in_k hnp (by omega) (bI_ne0 h2)
      refine x_iload_n hm rfl rfl ?_
      refine x_iload_n hm rfl rfl ?_
      refine x_icmp_eq hm rfl (t := 33) rfl (fun h3 => ?_) (fun h3 => ?_)
      · refine x_iconst hm rfl (v := nI 0) (by decide) ?_
        refine x_iret hm rfl rfl (by first | rfl | exact bI_nar | decide) ?_
        exact ⟨_, rfl, rfl, by first | exact Or.inl rfl | exact Or.inr ⟨rfl, p, q, s, by omega, by omega, by omega, rfl, rfl, rfl⟩⟩
      · refine x_aload_n hm rfl rfl ?_
        refine x_iload_n hm rfl rfl ?_
        refine x_callV hm rfl rfl (t199 hnt hn8) ?_
        refine x_if_eq hm rfl (t := 33) rfl (fun h4 => ?_) (fun h4 => ?_)
        · refine x_iconst hm rfl (v := nI 0) (by decide) ?_
          refine x_iret hm rfl rfl (by first | rfl | exact bI_nar | decide) ?_
          exact ⟨_, rfl, rfl, by first | exact Or.inl rfl | exact Or.inr ⟨rfl, p, q, s, by omega, by omega, by omega, rfl, rfl, rfl⟩⟩
        · obtain ⟨s, hs, rfl⟩ := in_k rfl (by omega) (bI_ne0 h4)
          refine x_iconst hm rfl (v := nI 1) (by decide) ?_
          refine x_goto hm rfl (t := 34) rfl ?_
          refine x_iret hm rfl rfl (by first | rfl | exact bI_nar | decide) ?_
          exact ⟨_, rfl, rfl, by first | exact Or.inl rfl | exact Or.inr ⟨rfl, p, q, s, by omega, by omega, by omega, rfl, rfl, rfl⟩⟩
end RH
