section RR
variable {X : mSc} {Q : Option Value → mHp → Prop} {M : mM}
theorem l147 {o : Int32} (k0 : Int32) : ∀ (n : Nat) (k : Int32), rkU k < n → mEv X (QE M (fun v => v = nI 0 ∨ v = nI 1)) 147 2 [some (.int k0), some (.int o), some (.int k)] [] (con M) := by
  have hm : mMet 147 = some _ := rfl
  intro n
  induction n with
  | zero =>
    intro k hk
    omega
  | succ n ih =>
    intro k hk
    refine x_iload_n hm rfl rfl ?_
    refine x_if_lt hm rfl (t := 19) rfl (fun h1 => ?_) (fun h1 => ?_)
    · refine x_iload_n hm rfl rfl ?_
      refine x_if_lt hm rfl (t := 27) rfl (fun h2 => ?_) (fun h2 => ?_)
      · refine x_iconst hm rfl (v := nI 0) (by decide) ?_
        refine x_iret hm rfl rfl (by first | rfl | exact bI_nar | decide) ?_
        exact ⟨_, rfl, rfl, by first | exact Or.inl rfl | exact Or.inr rfl⟩
      · refine x_iconst hm rfl (v := nI 1) (by decide) ?_
        refine x_goto hm rfl (t := 28) rfl ?_
        refine x_iret hm rfl rfl (by first | rfl | exact bI_nar | decide) ?_
        exact ⟨_, rfl, rfl, by first | exact Or.inl rfl | exact Or.inr rfl⟩
    · refine x_iload_n hm rfl rfl ?_
      refine x_iload_n hm rfl rfl ?_
      refine x_icmp_eq hm rfl (t := 19) rfl (fun h3 => ?_) (fun h3 => ?_)
      · refine x_iload_n hm rfl rfl ?_
        refine x_if_lt hm rfl (t := 27) rfl (fun h4 => ?_) (fun h4 => ?_)
        · refine x_iconst hm rfl (v := nI 0) (by decide) ?_
          refine x_iret hm rfl rfl (by first | rfl | exact bI_nar | decide) ?_
          exact ⟨_, rfl, rfl, by first | exact Or.inl rfl | exact Or.inr rfl⟩
        · refine x_iconst hm rfl (v := nI 1) (by decide) ?_
          refine x_goto hm rfl (t := 28) rfl ?_
          refine x_iret hm rfl rfl (by first | rfl | exact bI_nar | decide) ?_
          exact ⟨_, rfl, rfl, by first | exact Or.inl rfl | exact Or.inr rfl⟩
      · refine x_iload_n hm rfl rfl ?_
        refine x_callS hm rfl rfl (t148) ?_
        refine x_istore_n hm rfl rfl ?_
        refine x_goto hm rfl (t := 2) rfl ?_
        exact ih _ (by have := ab_rk h1; omega)
theorem t147 {k o : Int32} : ∃ v, mT X 147 [.int k, .int o] (con M) (some (.int v)) (con M) ∧ (v = nI 0 ∨ v = nI 1) := by
  refine te_of (row := _) rfl (Nat.le_of_ble_eq_true rfl) ?_
  have hm : mMet 147 = some _ := rfl
  refine x_iload_n hm rfl rfl ?_
  refine x_istore_n hm rfl rfl ?_
  exact l147 _ 5 _ (by have := rkU_le k; omega)
/-- the reference's chains end -/
def Ac (r : Nat → Int32) : Prop := ∀ n, n ≤ 8 → r 1 = nI n → ∃ rk : Nat → Nat, ∀ t u, t < n → u ≤ 7 → r (14 + 6 * t + 5) = nI u → u < n ∧ rk u < rk t
def hr (r : Nat → Int32) (o : Nat) : Nat → Nat → Prop
  | 0, _ => False
  | f + 1, u => u = o ∨ ∃ w, w ≤ 7 ∧ r (14 + 6 * u + 5) = nI w ∧ hr r o f w
def Inv (M : mM) : Prop := Wf M ∧ Ac (M 67) ∧ Ac (M 68)
/-- a finding was counted, or nothing was -/
def Fnd (M M' : mM) : Prop := (Wf M → Wf M') ∧ ∀ a, a ≠ 70 → M' a = M a
theorem Wf.put0 {M : mM} {a b : Nat} {v : Int32} (h : Wf M) (hk : kd a b = 0) : Wf (mput M a b v) := h.put (by rw [hk]; trivial)
theorem kd70 (b : Nat) : kd 70 b = 0 := by simp [kd]
theorem kd71 (b : Nat) : kd 71 b = 0 := by simp [kd]
theorem kd72 (b : Nat) : kd 72 b = 0 := by simp [kd]
theorem kd73 (b : Nat) : kd 73 b = 0 := by simp [kd]
theorem kd75 (b : Nat) : kd 75 b = 0 := by simp [kd]
theorem kd76 (b : Nat) : kd 76 b = 0 := by simp [kd]
theorem kd78 (b : Nat) : kd 78 b = 0 := by simp [kd]
theorem kd79 (b : Nat) : kd 79 b = 0 := by simp [kd]
theorem kd66 {b : Nat} (h : b ≠ 9) : kd 66 b = 0 := by simp [kd, h]
theorem Fnd.rf : Fnd M M := ⟨fun h => h, fun _ _ => rfl⟩
theorem Fnd.inv {M M' : mM} (h : Fnd M M') (hI : Inv M) : Inv M' := ⟨h.1 hI.1, by rw [h.2 67 (by decide)]; exact hI.2.1, by rw [h.2 68 (by decide)]; exact hI.2.2⟩
theorem tsm1 {v : Int32} (h : ¬ v < 0) (ho : okx 2 v) : ∃ k, k ≤ 7 ∧ v = nI k := by
  rcases ok2 ho with rfl | h1
  · exact absurd (by decide) h
  · exact h1
theorem t145 {p t : Nat} {o : Int32} (hW : Wf M) (hp : p < 8) (ht : t < 8) (ho : okx 2 o) : ∃ v, mT X 145 [.ref 66, .int (nI p), .int (nI t), .int o] (con M) (some (.int v)) (con M) ∧ True := by
  refine te_of (row := _) rfl (Nat.le_of_ble_eq_true rfl) ?_
  have hm : mMet 145 = some _ := rfl
  obtain ⟨s, hs3, hs⟩ := hW.sort ht
  have J190 : ∀ (o1 v4 v5 v6 : Int32), mEv X (QE M (fun _ => True)) 145 190 [some (.ref 66), some (.int (nI p)), some (.int (nI t)), some (.int o1), some (.int v4), some (.int v5), some (.int v6)] [] (con M) := by
    intro o1 v4 v5 v6
    refine x_iconst hm rfl (v := nI 0) (by decide) ?_
    refine x_iload hm rfl rfl ?_
    refine x_lib hm rfl rfl ?_
    dsimp only
    refine x_iret hm rfl rfl (by first | rfl | exact bI_nar | decide) ?_
    exact ⟨_, rfl, rfl, trivial⟩
  have J73 : ∀ (o1 v4 v5 : Int32), mEv X (QE M (fun _ => True)) 145 73 [some (.ref 66), some (.int (nI p)), some (.int (nI t)), some (.int o1), some (.int v4), some (.int v5), none] [] (con M) := by
    intro o1 v4 v5
    refine x_aload_n hm rfl rfl ?_
    refine x_iload_n hm rfl rfl ?_
    refine x_iconst hm rfl (v := nI 0) (by decide) ?_
    refine x_callV hm rfl rfl (t141 (by omega) (by omega)) ?_
    refine x_ts hm rfl (fun h1 => ⟨186, rfl, ?_⟩) (fun i1 h1 g1 => ?_)
    · refine x_iload hm rfl rfl ?_
      refine x_istore hm rfl rfl ?_
      exact J190 _ _ _ _
    · have k1 : i1 = 0 ∨ i1 = 1 ∨ i1 = 2 ∨ i1 = 3 ∨ i1 = 4 ∨ i1 = 5 := by omega
      rcases k1 with rfl | rfl | rfl | rfl | rfl | rfl
      · refine ⟨_, 116, rfl, rfl, ?_⟩
        refine x_iload hm rfl rfl ?_
        refine x_iconst hm rfl (v := nI 2) (by decide) ?_
        refine x_idiv hm rfl (by decide) ?_
        refine x_istore hm rfl rfl ?_
        refine x_goto hm rfl (t := 190) rfl ?_
        exact J190 _ _ _ _
      · refine ⟨_, 142, rfl, rfl, ?_⟩
        refine x_iload hm rfl rfl ?_
        refine x_istore hm rfl rfl ?_
        refine x_goto hm rfl (t := 190) rfl ?_
        exact J190 _ _ _ _
      · refine ⟨_, 149, rfl, rfl, ?_⟩
        refine x_iload hm rfl rfl ?_
        refine x_iconst hm rfl (v := nI 3) (by decide) ?_
        refine x_isub hm rfl ?_
        refine x_istore hm rfl rfl ?_
        refine x_goto hm rfl (t := 190) rfl ?_
        exact J190 _ _ _ _
      · refine ⟨_, 158, rfl, rfl, ?_⟩
        refine x_iload hm rfl rfl ?_
        refine x_iconst hm rfl (v := nI 3) (by decide) ?_
        refine x_isub hm rfl ?_
        refine x_aload_n hm rfl rfl ?_
        refine x_iload_n hm rfl rfl ?_
        refine x_iconst hm rfl (v := nI 2) (by decide) ?_
        refine x_callV hm rfl rfl (t143 (by omega) (by omega)) ?_
        refine x_bipush hm rfl (v := nI 100) (by decide) ?_
        refine x_idiv hm rfl (by decide) ?_
        refine x_iadd hm rfl ?_
        refine x_istore hm rfl rfl ?_
        refine x_goto hm rfl (t := 190) rfl ?_
        exact J190 _ _ _ _
      · refine ⟨_, 177, rfl, rfl, ?_⟩
        refine x_iconst hm rfl (v := nI 2) (by decide) ?_
        refine x_iload hm rfl rfl ?_
        refine x_imul hm rfl ?_
        refine x_istore hm rfl rfl ?_
        refine x_goto hm rfl (t := 190) rfl ?_
        exact J190 _ _ _ _
      · refine ⟨_, 125, rfl, rfl, ?_⟩
        refine x_iload_n hm rfl rfl ?_
        refine x_if_ge hm rfl (t := 133) rfl (fun h2 => ?_) (fun h2 => ?_)
        · refine x_iload hm rfl rfl ?_
          refine x_iconst hm rfl (v := nI 2) (by decide) ?_
          refine x_idiv hm rfl (by decide) ?_
          refine x_istore hm rfl rfl ?_
          refine x_goto hm rfl (t := 190) rfl ?_
          exact J190 _ _ _ _
        · refine x_iconst hm rfl (v := nI 0) (by decide) ?_
          refine x_goto hm rfl (t := 137) rfl ?_
          refine x_istore hm rfl rfl ?_
          refine x_goto hm rfl (t := 190) rfl ?_
          exact J190 _ _ _ _
  refine x_iload_n hm rfl rfl ?_
  refine x_iload_n hm rfl rfl ?_
  refine x_icmp_eq hm rfl (t := 21) rfl (fun h3 => ?_) (fun h3 => ?_)
  · refine x_iconst hm rfl (v := nI 0) (by decide) ?_
    refine x_iret hm rfl rfl (by first | rfl | exact bI_nar | decide) ?_
    exact ⟨_, rfl, rfl, trivial⟩
  · refine x_aload_n hm rfl rfl ?_
    refine x_iload_n hm rfl rfl ?_
    refine x_callV hm rfl rfl (t146 (by omega)) ?_
    refine x_if_ne hm rfl (t := 21) rfl (fun h4 => ?_) (fun h4 => ?_)
    · refine x_iconst hm rfl (v := nI 0) (by decide) ?_
      refine x_iret hm rfl rfl (by first | rfl | exact bI_nar | decide) ?_
      exact ⟨_, rfl, rfl, trivial⟩
    · refine x_iload_n hm rfl rfl ?_
      refine x_aload_n hm rfl rfl ?_
      refine x_getf hm rfl (gI rfl rfl) ?_
      refine x_icmp_ne hm rfl (t := 23) rfl (fun h5 => ?_) (fun h5 => ?_)
      · refine x_aload_n hm rfl rfl ?_
        refine x_iload_n hm rfl rfl ?_
        refine x_iconst hm rfl (v := nI 3) (by decide) ?_
        refine x_aload_n hm rfl rfl ?_
        refine x_iload_n hm rfl rfl ?_
        refine x_iconst hm rfl (v := nI 0) (by decide) ?_
        refine x_callV hm rfl rfl (t143 (by omega) (by omega)) ?_
        rw [hs]
        refine x_iadd hm rfl ?_
        rw [jI_add]
        refine x_callV hm rfl rfl (t141 (by omega) (by omega)) ?_
        refine x_aload_n hm rfl rfl ?_
        refine x_iload_n hm rfl rfl ?_
        refine x_iconst hm rfl (v := nI 3) (by decide) ?_
        refine x_callV hm rfl rfl (t143 (by omega) (by omega)) ?_
        refine x_isub hm rfl ?_
        refine x_istore hm rfl rfl ?_
        refine x_iload_n hm rfl rfl ?_
        refine x_if_lt hm rfl (t := 69) rfl (fun h6 => ?_) (fun h6 => ?_)
        · refine x_iload hm rfl rfl ?_
          refine x_istore hm rfl rfl ?_
          exact J73 _ _ _
        · obtain ⟨k, hk, rfl⟩ := tsm1 h6 ho
          refine x_aload_n hm rfl rfl ?_
          refine x_iload_n hm rfl rfl ?_
          refine x_iconst hm rfl (v := nI 0) (by decide) ?_
          refine x_callV hm rfl rfl (t141 (by omega) (by omega)) ?_
          refine x_iconst hm rfl (v := nI 2) (by decide) ?_
          refine x_cSe hm rfl rfl (t147) (fun v7 r7 => ?_)
          refine x_if_eq hm rfl (t := 69) rfl (fun h8 => ?_) (fun h8 => ?_)
          · refine x_iload hm rfl rfl ?_
            refine x_istore hm rfl rfl ?_
            exact J73 _ _ _
          · refine x_iload hm rfl rfl ?_
            refine x_iconst hm rfl (v := nI 2) (by decide) ?_
            refine x_iadd hm rfl ?_
            refine x_goto hm rfl (t := 71) rfl ?_
            refine x_istore hm rfl rfl ?_
            exact J73 _ _ _
      · refine x_iconst hm rfl (v := nI 0) (by decide) ?_
        refine x_iret hm rfl rfl (by first | rfl | exact bI_nar | decide) ?_
        exact ⟨_, rfl, rfl, trivial⟩
end RR
