section RR
variable {X : mSc} {Q : Option Value → mHp → Prop} {M : mM}
theorem t144 {p t : Nat} (hW : Wf M) (hp : p < 8) (ht : t < 8) : ∃ v, mT X 144 [.ref 66, .int (nI p), .int (nI t)] (con M) (some (.int v)) (con M) ∧ True := by
  refine te_of (row := _) rfl (Nat.le_of_ble_eq_true rfl) ?_
  have hm : mMet 144 = some _ := rfl
  refine x_aload_n hm rfl rfl ?_
  refine x_iload_n hm rfl rfl ?_
  refine x_iload_n hm rfl rfl ?_
  refine x_aload_n hm rfl rfl ?_
  refine x_iload_n hm rfl rfl ?_
  refine x_iconst hm rfl (v := nI 4) (by decide) ?_
  refine x_callV hm rfl rfl (t143 (by omega) (by omega)) ?_
  refine x_cVe hm rfl rfl (t145 hW hp ht (hW.owner ht)) (fun v1 r1 => ?_)
  refine x_iret hm rfl rfl (by first | rfl | exact bI_nar | decide) ?_
  exact ⟨_, rfl, rfl, trivial⟩
theorem l140 {t np : Nat} (hW : Wf M) (hnp : M 67 2 = nI np) (h8 : np ≤ 8) (ht : t < 8) : ∀ (n p : Nat) (s : Int32), np - p < n → p ≤ np → mEv X (QE M (fun _ => True)) 140 4 [some (.ref 66), some (.int (nI t)), some (.int s), some (.int (nI p))] [] (con M) := by
  have hm : mMet 140 = some _ := rfl
  intro n
  induction n with
  | zero =>
    intro p s hp hpn
    omega
  | succ n ih =>
    intro p s hp hpn
    refine x_iload_n hm rfl rfl ?_
    refine x_aload_n hm rfl rfl ?_
    refine x_getf hm rfl (gR rfl rfl) ?_
    refine x_iconst hm rfl (v := nI 2) (by decide) ?_
    refine x_iald hm rfl (lI rfl (by omega) (by decide)) ?_
    rw [hnp]
    refine x_icmp_ge hm rfl (t := 48) rfl (fun h1 => ?_) (fun h1 => ?_)
    · refine x_iload_n hm rfl rfl ?_
      refine x_aload_n hm rfl rfl ?_
      refine x_iload_n hm rfl rfl ?_
      refine x_iconst hm rfl (v := nI 2) (by decide) ?_
      refine x_callV hm rfl rfl (t143 (by omega) (by omega)) ?_
      refine x_lib hm rfl rfl ?_
      dsimp only
      refine x_iret hm rfl rfl (by first | rfl | exact bI_nar | decide) ?_
      exact ⟨_, rfl, rfl, trivial⟩
    · have hlt : p < np := Nat.lt_of_not_le fun h => h1 (nI_le h (by omega))
      refine x_iload_n hm rfl rfl ?_
      refine x_aload_n hm rfl rfl ?_
      refine x_iload_n hm rfl rfl ?_
      refine x_iconst hm rfl (v := nI 1) (by decide) ?_
      refine x_callV hm rfl rfl (t141 (by omega) (by omega)) ?_
      refine x_aload_n hm rfl rfl ?_
      refine x_iload_n hm rfl rfl ?_
      refine x_iconst hm rfl (v := nI 1) (by decide) ?_
      refine x_callV hm rfl rfl (t143 (by omega) (by omega)) ?_
      refine x_icmp_ne hm rfl (t := 39) rfl (fun h2 => ?_) (fun h2 => ?_)
      · refine x_iconst hm rfl (v := nI 0) (by decide) ?_
        refine x_iadd hm rfl ?_
        refine x_istore_n hm rfl rfl ?_
        refine x_iinc hm rfl rfl (v := nI 1) (by decide) rfl ?_
        rw [jI_add]
        refine x_goto hm rfl (t := 4) rfl ?_
        exact ih _ _ (by omega) (by omega)
      · refine x_aload_n hm rfl rfl ?_
        refine x_iload_n hm rfl rfl ?_
        refine x_iload_n hm rfl rfl ?_
        refine x_cVe hm rfl rfl (t144 hW (by omega) (by omega)) (fun v3 r3 => ?_)
        refine x_goto hm rfl (t := 40) rfl ?_
        refine x_iadd hm rfl ?_
        refine x_istore_n hm rfl rfl ?_
        refine x_iinc hm rfl rfl (v := nI 1) (by decide) rfl ?_
        rw [jI_add]
        refine x_goto hm rfl (t := 4) rfl ?_
        exact ih _ _ (by omega) (by omega)
theorem t140 {t : Nat} (hW : Wf M) (ht : t < 8) : ∃ v, mT X 140 [.ref 66, .int (nI t)] (con M) (some (.int v)) (con M) ∧ True := by
  refine te_of (row := _) rfl (Nat.le_of_ble_eq_true rfl) ?_
  have hm : mMet 140 = some _ := rfl
  obtain ⟨np, h8, hnp⟩ := hW.np
  refine x_iconst hm rfl (v := nI 0) (by decide) ?_
  refine x_istore_n hm rfl rfl ?_
  refine x_iconst hm rfl (v := nI 0) (by decide) ?_
  refine x_istore_n hm rfl rfl ?_
  exact l140 hW hnp h8 ht _ 0 _ (Nat.lt_succ_self _) (Nat.zero_le _)
theorem t135 {v : Int32} (hv : FD v) : ∃ v' M', mT X 135 [.ref 66, .int v] (con M) (some (.int v')) (con M') ∧ v' = v ∧ Fnd M M' := by
  refine ti_of (row := _) rfl (Nat.le_of_ble_eq_true rfl) ?_
  have hm : mMet 135 = some _ := rfl
  obtain ⟨k, hk, he⟩ := FD_k hv
  refine x_aload_n hm rfl rfl ?_
  refine x_getf hm rfl (gR rfl rfl) ?_
  refine x_ldcI hm rfl (v := (-1000001 : Int32)) (by decide +kernel) ?_
  refine x_iload_n hm rfl rfl ?_
  refine x_isub hm rfl ?_
  refine x_iconst hm rfl (v := nI 1) (by decide) ?_
  refine x_iadd hm rfl ?_
  rw [he]
  refine x_dup2 hm rfl rfl rfl ?_
  refine x_iald hm rfl (lI rfl (by omega) (by decide)) ?_
  refine x_iconst hm rfl (v := nI 1) (by decide) ?_
  refine x_iadd hm rfl ?_
  refine x_iast hm rfl (sI rfl (by omega) (by decide)) ?_
  refine x_aload_n hm rfl rfl ?_
  refine x_getf hm rfl (gR rfl rfl) ?_
  refine x_iconst hm rfl (v := nI 0) (by decide) ?_
  refine x_dup2 hm rfl rfl rfl ?_
  refine x_iald hm rfl (lI rfl (by omega) (by decide)) ?_
  refine x_iconst hm rfl (v := nI 1) (by decide) ?_
  refine x_iadd hm rfl ?_
  refine x_iast hm rfl (sI rfl (by omega) (by decide)) ?_
  refine x_iload_n hm rfl rfl ?_
  refine x_iret hm rfl rfl (by first | rfl | exact bI_nar | decide) ?_
  exact ⟨_, _, rfl, rfl, rfl, fun h => (h.put0 (kd70 _)).put0 (kd70 _), fun a ha => by funext b; simp [mput, ha]⟩
/-- what is only asked changes but the findings -/
def Iq (M M' : mM) : Prop := Inv M' ∧ ∀ a, a ≠ 70 → M' a = M a
theorem Iq.rf (hI : Inv M) : Iq M M := ⟨hI, fun _ _ => rfl⟩
theorem Fnd.iq {M' : mM} (h : Fnd M M') (hI : Inv M) : Iq M M' := ⟨h.inv hI, h.2⟩
theorem t138 {a1 a2 : Int32} (hI : Inv M) : ∃ v M', mT X 138 [.ref 66, .int a1, .int a2] (con M) (some (.int v)) (con M') ∧ Iq M M' := by
  refine ti_of (row := _) rfl (Nat.le_of_ble_eq_true rfl) ?_
  have hm : mMet 138 = some _ := rfl
  obtain ⟨nt, hn8, hnt⟩ := hI.1.nt
  refine x_aload_n hm rfl rfl ?_
  refine x_iload_n hm rfl rfl ?_
  refine x_callV hm rfl rfl (t139) ?_
  refine x_if_eq hm rfl (t := 18) rfl (fun h1 => ?_) (fun h1 => ?_)
  · refine x_aload_n hm rfl rfl ?_
    refine x_ldcI hm rfl (v := (-1000001 : Int32)) (by decide +kernel) ?_
    refine x_cVi hm rfl rfl (t135 (by decide +kernel)) (fun v2 M2 r2 => ?_)
    refine x_iret hm rfl rfl (by first | rfl | exact bI_nar | decide) ?_
    exact ⟨_, _, rfl, rfl, by first | exact Iq.rf hI | exact (r1.2.iq hI) | exact (r2.2.iq hI) | exact (r3.2.iq hI) | exact (r4.2.iq hI) | exact (r5.2.iq hI) | exact (r6.2.iq hI) | exact (r7.2.iq hI) | exact (r8.2.iq hI)⟩
  · obtain ⟨t, ht, rfl⟩ := in_k hnt (by omega) (bI_ne0 h1)
    refine x_iload_n hm rfl rfl ?_
    refine x_iconst hm rfl (v := nI 0) (by decide) ?_
    refine x_bipush hm rfl (v := nI 6) (by decide) ?_
    refine x_callS hm rfl rfl (t133) ?_
    refine x_if_ne hm rfl (t := 25) rfl (fun h3 => ?_) (fun h3 => ?_)
    · obtain ⟨w, hw, rfl⟩ := le_k (by omega) (bI_ne0 h3)
      refine x_iload_n hm rfl rfl ?_
      refine x_bipush hm rfl (v := nI 6) (by decide) ?_
      refine x_icmp_ne hm rfl (t := 39) rfl (fun h4 => ?_) (fun h4 => ?_)
      · have hw6 : w ≠ 6 := fun e => h4 (by rw [e])
        refine x_aload_n hm rfl rfl ?_
        refine x_iload_n hm rfl rfl ?_
        refine x_iload_n hm rfl rfl ?_
        refine x_callV hm rfl rfl (t143 (by omega) (by omega)) ?_
        refine x_iret hm rfl rfl (by first | rfl | exact bI_nar | decide) ?_
        exact ⟨_, _, rfl, rfl, by first | exact Iq.rf hI | exact (r1.2.iq hI) | exact (r2.2.iq hI) | exact (r3.2.iq hI) | exact (r4.2.iq hI) | exact (r5.2.iq hI) | exact (r6.2.iq hI) | exact (r7.2.iq hI) | exact (r8.2.iq hI)⟩
      · 
        refine x_aload_n hm rfl rfl ?_
        refine x_iload_n hm rfl rfl ?_
        refine x_cVe hm rfl rfl (t140 hI.1 (by omega)) (fun v5 r5 => ?_)
        refine x_goto hm rfl (t := 45) rfl ?_
        refine x_iret hm rfl rfl (by first | rfl | exact bI_nar | decide) ?_
        exact ⟨_, _, rfl, rfl, by first | exact Iq.rf hI | exact (r1.2.iq hI) | exact (r2.2.iq hI) | exact (r3.2.iq hI) | exact (r4.2.iq hI) | exact (r5.2.iq hI) | exact (r6.2.iq hI) | exact (r7.2.iq hI) | exact (r8.2.iq hI)⟩
    · refine x_aload_n hm rfl rfl ?_
      refine x_ldcI hm rfl (v := (-1000001 : Int32)) (by decide +kernel) ?_
      refine x_cVi hm rfl rfl (t135 (by decide +kernel)) (fun v6 M6 r6 => ?_)
      refine x_iret hm rfl rfl (by first | rfl | exact bI_nar | decide) ?_
      exact ⟨_, _, rfl, rfl, by first | exact Iq.rf hI | exact (r1.2.iq hI) | exact (r2.2.iq hI) | exact (r3.2.iq hI) | exact (r4.2.iq hI) | exact (r5.2.iq hI) | exact (r6.2.iq hI) | exact (r7.2.iq hI) | exact (r8.2.iq hI)⟩
end RR
