section EA
variable {X : mSc} {Q : Option Value → mHp → Prop} {M : mM}
theorem e144 {p t : Nat} (hW : Wf M) (hp : p < 8) (ht : t < 8) : mT X 144 [.ref 66, .int (nI p), .int (nI t)] (con M) (some (.int (sEnv (M 67) (M 66 6) (M 67 (14 + 6 * t + 4)) p t))) (con M) := by
  refine mT.of (row := _) rfl (Nat.le_of_ble_eq_true rfl) ?_
  have hm : mMet 144 = some _ := rfl
  refine x_aload_n hm rfl rfl ?_
  refine x_iload_n hm rfl rfl ?_
  refine x_iload_n hm rfl rfl ?_
  refine x_aload_n hm rfl rfl ?_
  refine x_iload_n hm rfl rfl ?_
  refine x_iconst hm rfl (v := nI 4) (by decide) ?_
  refine x_callV hm rfl rfl (t143 (by omega) (by omega)) ?_
  refine x_callV hm rfl rfl (e145 hW (by omega) (by omega) (hW.owner (by omega))) ?_
  refine x_iret hm rfl rfl (by first | rfl | exact bI_nar | decide) ?_
  exact ⟨rfl, rfl⟩
theorem m140 {t : Nat} (hW : Wf M) (ht : t < 8) {nb : Nat} (hnb : M 67 2 = nI nb) (h8 : nb ≤ 8) : ∀ (n k : Nat) (s : Int32), nb - k < n → k ≤ nb → s = sWs (M 67) (M 66 6) t k → mEv X (fun z D => z = some (.int (sWear (M 67) (M 66 6) nb t)) ∧ D = con M) 140 4 [some (.ref 66), some (.int (nI t)), some (.int s), some (.int (nI k))] [] (con M) := by
  have hm : mMet 140 = some _ := rfl
  intro n
  induction n with
  | zero =>
    intro k s hkn hkb hs
    omega
  | succ n ih =>
    intro k s hkn hkb hs
    refine x_iload_n hm rfl rfl ?_
    refine x_aload_n hm rfl rfl ?_
    refine x_getf hm rfl (gR rfl rfl) ?_
    refine x_iconst hm rfl (v := nI 2) (by decide) ?_
    refine x_iald hm rfl (lI rfl (by omega) (by decide)) ?_
    rw [hnb]
    refine x_icmp_ge hm rfl (t := 48) rfl (fun h1 => ?_) (fun h1 => ?_)
    · obtain rfl : k = nb := Nat.le_antisymm hkb ((jI_le (by omega) (by omega)).mp h1)
      refine x_iload_n hm rfl rfl ?_
      refine x_aload_n hm rfl rfl ?_
      refine x_iload_n hm rfl rfl ?_
      refine x_iconst hm rfl (v := nI 2) (by decide) ?_
      refine x_callV hm rfl rfl (t143 (by omega) (by omega)) ?_
      refine x_lib hm rfl rfl ?_
      dsimp only
      refine x_iret hm rfl rfl (by first | rfl | exact bI_nar | decide) ?_
      rw [hs]
      exact ⟨rfl, rfl⟩
    · have hk : k < nb := Nat.lt_of_not_le fun h => h1 (nI_le h (by omega))
      refine x_iload_n hm rfl rfl ?_
      refine x_aload_n hm rfl rfl ?_
      refine x_iload_n hm rfl rfl ?_
      refine x_iconst hm rfl (v := nI 1) (by decide) ?_
      refine x_callV hm rfl rfl (t141 (by omega) (by omega)) ?_
      refine x_aload_n hm rfl rfl ?_
      refine x_iload_n hm rfl rfl ?_
      refine x_iconst hm rfl (v := nI 1) (by decide) ?_
      refine x_callV hm rfl rfl (t143 (by omega) (by omega)) ?_
      refine x_icmp_ne hm rfl (t := 39) rfl (fun h2 => ?_) (fun h2 => ?_)
      · refine x_iconst hm rfl (v := nI 0) (by decide) ?_
        refine x_iadd hm rfl ?_
        refine x_istore_n hm rfl rfl ?_
        refine x_iinc hm rfl rfl (v := nI 1) (by decide) rfl ?_
        rw [jI_add]
        refine x_goto hm rfl (t := 4) rfl ?_
        first
          | exact ih _ _ (by omega) (by omega) (by rw [hs]; exact congrArg (fun z => sWs (M 67) (M 66 6) t k + z) (ifp (by assumption)))
          | exact ih _ _ (by omega) (by omega) (by rw [hs]; exact congrArg (fun z => sWs (M 67) (M 66 6) t k + z) (ifn (by assumption)))
      · refine x_aload_n hm rfl rfl ?_
        refine x_iload_n hm rfl rfl ?_
        refine x_iload_n hm rfl rfl ?_
        refine x_callV hm rfl rfl (e144 hW (by omega) (by omega)) ?_
        refine x_goto hm rfl (t := 40) rfl ?_
        refine x_iadd hm rfl ?_
        refine x_istore_n hm rfl rfl ?_
        refine x_iinc hm rfl rfl (v := nI 1) (by decide) rfl ?_
        rw [jI_add]
        refine x_goto hm rfl (t := 4) rfl ?_
        first
          | exact ih _ _ (by omega) (by omega) (by rw [hs]; exact congrArg (fun z => sWs (M 67) (M 66 6) t k + z) (ifp (by assumption)))
          | exact ih _ _ (by omega) (by omega) (by rw [hs]; exact congrArg (fun z => sWs (M 67) (M 66 6) t k + z) (ifn (by assumption)))
theorem e140 {t np : Nat} (hW : Wf M) (hnp : M 67 2 = nI np) (hp8 : np ≤ 8) (ht : t < 8) : mT X 140 [.ref 66, .int (nI t)] (con M) (some (.int (sWear (M 67) (M 66 6) np t))) (con M) := by
  refine mT.of (row := _) rfl (Nat.le_of_ble_eq_true rfl) ?_
  have hm : mMet 140 = some _ := rfl
  refine x_iconst hm rfl (v := nI 0) (by decide) ?_
  refine x_istore_n hm rfl rfl ?_
  refine x_iconst hm rfl (v := nI 0) (by decide) ?_
  refine x_istore_n hm rfl rfl ?_
  exact m140 hW ht hnp hp8 _ 0 _ (Nat.lt_succ_self _) (Nat.zero_le _) rfl
theorem m170  {nb : Nat} (hnb : M 67 1 = nI nb) (h8 : nb ≤ 8) : ∀ (n k : Nat) (s : Int32), nb - k < n → k ≤ nb → s = sThick (M 67) k → mEv X (fun z D => z = some (.int (sThick (M 67) nb)) ∧ D = con M) 170 4 [some (.ref 66), some (.int s), some (.int (nI k))] [] (con M) := by
  have hm : mMet 170 = some _ := rfl
  intro n
  induction n with
  | zero =>
    intro k s hkn hkb hs
    omega
  | succ n ih =>
    intro k s hkn hkb hs
    refine x_iload_n hm rfl rfl ?_
    refine x_aload_n hm rfl rfl ?_
    refine x_getf hm rfl (gR rfl rfl) ?_
    refine x_iconst hm rfl (v := nI 1) (by decide) ?_
    refine x_iald hm rfl (lI rfl (by omega) (by decide)) ?_
    rw [hnb]
    refine x_icmp_ge hm rfl (t := 29) rfl (fun h1 => ?_) (fun h1 => ?_)
    · obtain rfl : k = nb := Nat.le_antisymm hkb ((jI_le (by omega) (by omega)).mp h1)
      refine x_iload_n hm rfl rfl ?_
      refine x_iret hm rfl rfl (by first | rfl | exact bI_nar | decide) ?_
      rw [hs]
      exact ⟨rfl, rfl⟩
    · have hk : k < nb := Nat.lt_of_not_le fun h => h1 (nI_le h (by omega))
      refine x_iload_n hm rfl rfl ?_
      refine x_aload_n hm rfl rfl ?_
      refine x_iload_n hm rfl rfl ?_
      refine x_iconst hm rfl (v := nI 2) (by decide) ?_
      refine x_callV hm rfl rfl (t143 (by omega) (by omega)) ?_
      refine x_iadd hm rfl ?_
      refine x_istore_n hm rfl rfl ?_
      refine x_iinc hm rfl rfl (v := nI 1) (by decide) rfl ?_
      rw [jI_add]
      refine x_goto hm rfl (t := 4) rfl ?_
      exact ih _ _ (by omega) (by omega) (by rw [hs]; rfl)
theorem e170 {nt : Nat} (hnt : M 67 1 = nI nt) (hn8 : nt ≤ 8) : mT X 170 [.ref 66] (con M) (some (.int (sThick (M 67) nt))) (con M) := by
  refine mT.of (row := _) rfl (Nat.le_of_ble_eq_true rfl) ?_
  have hm : mMet 170 = some _ := rfl
  refine x_iconst hm rfl (v := nI 0) (by decide) ?_
  refine x_istore_n hm rfl rfl ?_
  refine x_iconst hm rfl (v := nI 0) (by decide) ?_
  refine x_istore_n hm rfl rfl ?_
  exact m170 hnt hn8 _ 0 _ (Nat.lt_succ_self _) (Nat.zero_le _) rfl
theorem m167  {nb : Nat} (hnb : M 67 1 = nI nb) (h8 : nb ≤ 8) : ∀ (n k : Nat) (s : Int32), nb - k < n → k ≤ nb → s = sGone (M 67) k → mEv X (fun z D => z = some (.int (sGone (M 67) nb)) ∧ D = con M) 167 4 [some (.ref 66), some (.int s), some (.int (nI k))] [] (con M) := by
  have hm : mMet 167 = some _ := rfl
  intro n
  induction n with
  | zero =>
    intro k s hkn hkb hs
    omega
  | succ n ih =>
    intro k s hkn hkb hs
    refine x_iload_n hm rfl rfl ?_
    refine x_aload_n hm rfl rfl ?_
    refine x_getf hm rfl (gR rfl rfl) ?_
    refine x_iconst hm rfl (v := nI 1) (by decide) ?_
    refine x_iald hm rfl (lI rfl (by omega) (by decide)) ?_
    rw [hnb]
    refine x_icmp_ge hm rfl (t := 38) rfl (fun h1 => ?_) (fun h1 => ?_)
    · obtain rfl : k = nb := Nat.le_antisymm hkb ((jI_le (by omega) (by omega)).mp h1)
      refine x_iload_n hm rfl rfl ?_
      refine x_iret hm rfl rfl (by first | rfl | exact bI_nar | decide) ?_
      rw [hs]
      exact ⟨rfl, rfl⟩
    · have hk : k < nb := Nat.lt_of_not_le fun h => h1 (nI_le h (by omega))
      refine x_iload_n hm rfl rfl ?_
      refine x_aload_n hm rfl rfl ?_
      refine x_iload_n hm rfl rfl ?_
      refine x_callV hm rfl rfl (t146 (by omega)) ?_
      refine x_if_eq hm rfl (t := 29) rfl (fun h2 => ?_) (fun h2 => ?_)
      · refine x_iconst hm rfl (v := nI 0) (by decide) ?_
        refine x_ior hm rfl ?_
        refine x_istore_n hm rfl rfl ?_
        refine x_iinc hm rfl rfl (v := nI 1) (by decide) rfl ?_
        rw [jI_add]
        refine x_goto hm rfl (t := 4) rfl ?_
        first
          | exact ih _ _ (by omega) (by omega) (by rw [hs]; exact congrArg (fun z => sGone (M 67) k ||| z) (ifp (by first | assumption | exact bI_ne0 (by assumption))))
          | exact ih _ _ (by omega) (by omega) (by rw [hs]; exact congrArg (fun z => sGone (M 67) k ||| z) (ifn (by first | assumption | exact bI_eq0.mp (by assumption))))
      · refine x_iconst hm rfl (v := nI 1) (by decide) ?_
        refine x_iload_n hm rfl rfl ?_
        refine x_ishl hm rfl ?_
        refine x_goto hm rfl (t := 30) rfl ?_
        refine x_ior hm rfl ?_
        refine x_istore_n hm rfl rfl ?_
        refine x_iinc hm rfl rfl (v := nI 1) (by decide) rfl ?_
        rw [jI_add]
        refine x_goto hm rfl (t := 4) rfl ?_
        first
          | exact ih _ _ (by omega) (by omega) (by rw [hs]; exact congrArg (fun z => sGone (M 67) k ||| z) (ifp (by first | assumption | exact bI_ne0 (by assumption))))
          | exact ih _ _ (by omega) (by omega) (by rw [hs]; exact congrArg (fun z => sGone (M 67) k ||| z) (ifn (by first | assumption | exact bI_eq0.mp (by assumption))))
theorem e167 {nt : Nat} (hnt : M 67 1 = nI nt) (hn8 : nt ≤ 8) : mT X 167 [.ref 66] (con M) (some (.int (sGone (M 67) nt))) (con M) := by
  refine mT.of (row := _) rfl (Nat.le_of_ble_eq_true rfl) ?_
  have hm : mMet 167 = some _ := rfl
  refine x_iconst hm rfl (v := nI 0) (by decide) ?_
  refine x_istore_n hm rfl rfl ?_
  refine x_iconst hm rfl (v := nI 0) (by decide) ?_
  refine x_istore_n hm rfl rfl ?_
  exact m167 hnt hn8 _ 0 _ (Nat.lt_succ_self _) (Nat.zero_le _) rfl
theorem m160 {a1 : Int32} {nb : Nat} (hnb : M 67 1 = nI nb) (h8 : nb ≤ 8) : ∀ (n k : Nat) (s : Int32), nb - k < n → k ≤ nb → s = sOwned (M 67) a1 k → mEv X (fun z D => z = some (.int (sOwned (M 67) a1 nb)) ∧ D = con M) 160 4 [some (.ref 66), some (.int a1), some (.int s), some (.int (nI k))] [] (con M) := by
  have hm : mMet 160 = some _ := rfl
  intro n
  induction n with
  | zero =>
    intro k s hkn hkb hs
    omega
  | succ n ih =>
    intro k s hkn hkb hs
    refine x_iload_n hm rfl rfl ?_
    refine x_aload_n hm rfl rfl ?_
    refine x_getf hm rfl (gR rfl rfl) ?_
    refine x_iconst hm rfl (v := nI 1) (by decide) ?_
    refine x_iald hm rfl (lI rfl (by omega) (by decide)) ?_
    rw [hnb]
    refine x_icmp_ge hm rfl (t := 40) rfl (fun h1 => ?_) (fun h1 => ?_)
    · obtain rfl : k = nb := Nat.le_antisymm hkb ((jI_le (by omega) (by omega)).mp h1)
      refine x_iload_n hm rfl rfl ?_
      refine x_iret hm rfl rfl (by first | rfl | exact bI_nar | decide) ?_
      rw [hs]
      exact ⟨rfl, rfl⟩
    · have hk : k < nb := Nat.lt_of_not_le fun h => h1 (nI_le h (by omega))
      refine x_iload_n hm rfl rfl ?_
      refine x_aload_n hm rfl rfl ?_
      refine x_iload_n hm rfl rfl ?_
      refine x_iconst hm rfl (v := nI 4) (by decide) ?_
      refine x_callV hm rfl rfl (t143 (by omega) (by omega)) ?_
      refine x_iload_n hm rfl rfl ?_
      refine x_icmp_ne hm rfl (t := 31) rfl (fun h2 => ?_) (fun h2 => ?_)
      · refine x_iconst hm rfl (v := nI 0) (by decide) ?_
        refine x_ior hm rfl ?_
        refine x_istore_n hm rfl rfl ?_
        refine x_iinc hm rfl rfl (v := nI 1) (by decide) rfl ?_
        rw [jI_add]
        refine x_goto hm rfl (t := 4) rfl ?_
        first
          | exact ih _ _ (by omega) (by omega) (by rw [hs]; exact congrArg (fun z => sOwned (M 67) a1 k ||| z) (ifp (by first | assumption | exact bI_ne0 (by assumption))))
          | exact ih _ _ (by omega) (by omega) (by rw [hs]; exact congrArg (fun z => sOwned (M 67) a1 k ||| z) (ifn (by first | assumption | exact bI_eq0.mp (by assumption))))
      · refine x_iconst hm rfl (v := nI 1) (by decide) ?_
        refine x_iload_n hm rfl rfl ?_
        refine x_ishl hm rfl ?_
        refine x_goto hm rfl (t := 32) rfl ?_
        refine x_ior hm rfl ?_
        refine x_istore_n hm rfl rfl ?_
        refine x_iinc hm rfl rfl (v := nI 1) (by decide) rfl ?_
        rw [jI_add]
        refine x_goto hm rfl (t := 4) rfl ?_
        first
          | exact ih _ _ (by omega) (by omega) (by rw [hs]; exact congrArg (fun z => sOwned (M 67) a1 k ||| z) (ifp (by first | assumption | exact bI_ne0 (by assumption))))
          | exact ih _ _ (by omega) (by omega) (by rw [hs]; exact congrArg (fun z => sOwned (M 67) a1 k ||| z) (ifn (by first | assumption | exact bI_eq0.mp (by assumption))))
theorem e160 {a1 : Int32} {nt : Nat} (hnt : M 67 1 = nI nt) (hn8 : nt ≤ 8) : mT X 160 [.ref 66, .int a1] (con M) (some (.int (sOwned (M 67) a1 nt))) (con M) := by
  refine mT.of (row := _) rfl (Nat.le_of_ble_eq_true rfl) ?_
  have hm : mMet 160 = some _ := rfl
  refine x_iconst hm rfl (v := nI 0) (by decide) ?_
  refine x_istore_n hm rfl rfl ?_
  refine x_iconst hm rfl (v := nI 0) (by decide) ?_
  refine x_istore_n hm rfl rfl ?_
  exact m160 hnt hn8 _ 0 _ (Nat.lt_succ_self _) (Nat.zero_le _) rfl
end EA
