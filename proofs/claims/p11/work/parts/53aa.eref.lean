/-! ===== the reference, exactly: what only reads ===== -/
section EA
variable {X : mSc} {Q : Option Value → mHp → Prop} {M : mM}
theorem uo_neg {f : Nat} {k o : Int32} (h : k < 0) : uo (f + 1) k o = false := if_pos h
theorem uo_eq {f : Nat} {k o : Int32} (h : ¬ k < 0) (e : k = o) : uo (f + 1) k o = true := by
  show (if k < 0 then false else if k = o then true else uo f (ab k) o) = true
  rw [if_neg h, if_pos e]
theorem uo_ab {f : Nat} {k o : Int32} (h : ¬ k < 0) (e : ¬ k = o) : uo (f + 1) k o = uo f (ab k) o := by
  show (if k < 0 then false else if k = o then true else uo f (ab k) o) = _
  rw [if_neg h, if_neg e]
theorem kdE0 {k o th pl ri : Int32} (h : k.toInt < 1 ∨ 6 < k.toInt) : pl = sKd k o th pl ri := by
  have h0 : ∀ n : Nat, 1 ≤ n → n ≤ 6 → ¬ k = nI n := fun n h1 h2 e => by
    rw [e, jI_int (by omega)] at h
    omega
  unfold sKd
  rw [if_neg (h0 1 (by decide) (by decide)), if_neg (h0 2 (by decide) (by decide)), if_neg (h0 3 (by decide) (by decide)), if_neg (h0 4 (by decide) (by decide)), if_neg (h0 5 (by decide) (by decide)), if_neg (h0 6 (by decide) (by decide))]
theorem kd_t1 {k : Int32} {i : Nat} (h : k.toInt = 1 + (i : Int)) (hi : i < 1000) : k = nI (i + 1) := Int32.toInt_inj.mp (by rw [h, jI_int (by omega)]; omega)
theorem kdE1 {k o th pl ri : Int32} (h : k.toInt = 1 + ((0 : Nat) : Int)) : pl / nI 2 = sKd k o th pl ri := by
  obtain rfl := kd_t1 h (by decide)
  rfl
theorem kdE2 {k o th pl ri : Int32} (h : k.toInt = 1 + ((1 : Nat) : Int)) : ri = sKd k o th pl ri := by
  obtain rfl := kd_t1 h (by decide)
  rfl
theorem kdE3 {k o th pl ri : Int32} (h : k.toInt = 1 + ((2 : Nat) : Int)) : ri - nI 3 = sKd k o th pl ri := by
  obtain rfl := kd_t1 h (by decide)
  rfl
theorem kdE4 {k o th pl ri : Int32} (h : k.toInt = 1 + ((3 : Nat) : Int)) : ri - nI 3 + th / nI 100 = sKd k o th pl ri := by
  obtain rfl := kd_t1 h (by decide)
  rfl
theorem kdE5 {k o th pl ri : Int32} (h : k.toInt = 1 + ((4 : Nat) : Int)) : nI 2 * pl = sKd k o th pl ri := by
  obtain rfl := kd_t1 h (by decide)
  rfl
theorem kdE6 {k o th pl ri : Int32} (h : k.toInt = 1 + ((5 : Nat) : Int)) (ho : 0 ≤ o) : pl / nI 2 = sKd k o th pl ri := by
  obtain rfl := kd_t1 h (by decide)
  show _ = if o < 0 then nI 0 else pl / nI 2
  rw [if_neg (Int32.not_lt.mpr ho)]
theorem kdE7 {k o th pl ri : Int32} (h : k.toInt = 1 + ((5 : Nat) : Int)) (ho : ¬ 0 ≤ o) : nI 0 = sKd k o th pl ri := by
  obtain rfl := kd_t1 h (by decide)
  show _ = if o < 0 then nI 0 else pl / nI 2
  rw [if_pos (Int32.not_le.mp ho)]
theorem ifp {α : Type} {c : Prop} [Decidable c] {a b : α} (h : c) : a = if c then a else b := (if_pos h).symm
theorem ifn {α : Type} {c : Prop} [Decidable c] {a b : α} (h : ¬ c) : b = if c then a else b := (if_neg h).symm
theorem m147 {o : Int32} (k0 : Int32) : ∀ (n : Nat) (k : Int32), rkU k < n → mEv X (fun z D => z = some (.int (bI (uo n k o = true))) ∧ D = con M) 147 2 [some (.int k0), some (.int o), some (.int k)] [] (con M) := by
  have hm : mMet 147 = some _ := rfl
  intro n
  induction n with
  | zero =>
    intro k hk
    omega
  | succ n ih =>
    intro k hk
    refine x_iload_n hm rfl rfl ?_
    refine x_if_lt hm rfl (t := 19) rfl (fun h1 => ?_) (fun h1 => ?_)
    · refine x_iload_n hm rfl rfl ?_
      refine x_if_lt hm rfl (t := 27) rfl (fun h2 => ?_) (fun h2 => ?_)
      · refine x_iconst hm rfl (v := nI 0) (by decide) ?_
        refine x_iret hm rfl rfl (by first | rfl | exact bI_nar | decide) ?_
        first
          | exact qt (congrArg Value.int (bI_f (by rw [uo_neg h1]; exact Bool.false_ne_true)))
          | exact qt (congrArg Value.int (bI_t (uo_eq h1 h3)))
          | exact absurd (by assumption) h1
          | exact absurd h1 (by assumption)
      · refine x_iconst hm rfl (v := nI 1) (by decide) ?_
        refine x_goto hm rfl (t := 28) rfl ?_
        refine x_iret hm rfl rfl (by first | rfl | exact bI_nar | decide) ?_
        first
          | exact qt (congrArg Value.int (bI_f (by rw [uo_neg h1]; exact Bool.false_ne_true)))
          | exact qt (congrArg Value.int (bI_t (uo_eq h1 h3)))
          | exact absurd (by assumption) h1
          | exact absurd h1 (by assumption)
    · refine x_iload_n hm rfl rfl ?_
      refine x_iload_n hm rfl rfl ?_
      refine x_icmp_eq hm rfl (t := 19) rfl (fun h3 => ?_) (fun h3 => ?_)
      · refine x_iload_n hm rfl rfl ?_
        refine x_if_lt hm rfl (t := 27) rfl (fun h4 => ?_) (fun h4 => ?_)
        · refine x_iconst hm rfl (v := nI 0) (by decide) ?_
          refine x_iret hm rfl rfl (by first | rfl | exact bI_nar | decide) ?_
          first
            | exact qt (congrArg Value.int (bI_f (by rw [uo_neg h1]; exact Bool.false_ne_true)))
            | exact qt (congrArg Value.int (bI_t (uo_eq h1 h3)))
            | exact absurd (by assumption) h1
            | exact absurd h1 (by assumption)
        · refine x_iconst hm rfl (v := nI 1) (by decide) ?_
          refine x_goto hm rfl (t := 28) rfl ?_
          refine x_iret hm rfl rfl (by first | rfl | exact bI_nar | decide) ?_
          first
            | exact qt (congrArg Value.int (bI_f (by rw [uo_neg h1]; exact Bool.false_ne_true)))
            | exact qt (congrArg Value.int (bI_t (uo_eq h1 h3)))
            | exact absurd (by assumption) h1
            | exact absurd h1 (by assumption)
      · refine x_iload_n hm rfl rfl ?_
        refine x_callS hm rfl rfl (t148) ?_
        refine x_istore_n hm rfl rfl ?_
        refine x_goto hm rfl (t := 2) rfl ?_
        rw [uo_ab h1 h3]
        exact ih _ (by have := ab_rk h1; omega)
theorem e147 {k o : Int32} : mT X 147 [.int k, .int o] (con M) (some (.int (bI (uo 5 k o = true)))) (con M) := by
  refine mT.of (row := _) rfl (Nat.le_of_ble_eq_true rfl) ?_
  have hm : mMet 147 = some _ := rfl
  refine x_iload_n hm rfl rfl ?_
  refine x_istore_n hm rfl rfl ?_
  exact m147 _ 5 _ (by have := rkU_le k; omega)
theorem m145b {p t : Nat} {o v6 : Int32} (hv : v6 = sKd (M 67 (62 + 7 * p + 0)) o (M 67 (14 + 6 * t + 2)) (sPl (M 67) p t) (sRi (M 67) o p t)) : mEv X (fun z D => z = some (.int (mx0 (sKd (M 67 (62 + 7 * p + 0)) o (M 67 (14 + 6 * t + 2)) (sPl (M 67) p t) (sRi (M 67) o p t)))) ∧ D = con M) 145 190 [some (.ref 66), some (.int (nI p)), some (.int (nI t)), some (.int o), some (.int (sPl (M 67) p t)), some (.int (sRi (M 67) o p t)), some (.int v6)] [] (con M) := by
  have hm : mMet 145 = some _ := rfl
  refine x_iconst hm rfl (v := nI 0) (by decide) ?_
  refine x_iload hm rfl rfl ?_
  refine x_lib hm rfl rfl ?_
  dsimp only
  refine x_iret hm rfl rfl (by first | rfl | exact bI_nar | decide) ?_
  rw [hv]
  exact ⟨rfl, rfl⟩
theorem m145a {p t : Nat} {o v5 : Int32} (hp : p < 8) (ht : t < 8) (h5 : v5 = sRi (M 67) o p t) : mEv X (fun z D => z = some (.int (mx0 (sKd (M 67 (62 + 7 * p + 0)) o (M 67 (14 + 6 * t + 2)) (sPl (M 67) p t) (sRi (M 67) o p t)))) ∧ D = con M) 145 73 [some (.ref 66), some (.int (nI p)), some (.int (nI t)), some (.int o), some (.int (sPl (M 67) p t)), some (.int (v5)), none] [] (con M) := by
  have hm : mMet 145 = some _ := rfl
  subst h5
  refine x_aload_n hm rfl rfl ?_
  refine x_iload_n hm rfl rfl ?_
  refine x_iconst hm rfl (v := nI 0) (by decide) ?_
  refine x_callV hm rfl rfl (t141 (by omega) (by omega)) ?_
  refine x_ts hm rfl (fun h1 => ⟨186, rfl, ?_⟩) (fun i1 h1 g1 => ?_)
  · refine x_iload hm rfl rfl ?_
    refine x_istore hm rfl rfl ?_
    have hv := kdE0 (o := o) (th := M 67 (14 + 6 * t + 2)) (pl := sPl (M 67) p t) (ri := sRi (M 67) o p t) h1
    exact m145b hv
  · have k1 : i1 = 0 ∨ i1 = 1 ∨ i1 = 2 ∨ i1 = 3 ∨ i1 = 4 ∨ i1 = 5 := by omega
    rcases k1 with rfl | rfl | rfl | rfl | rfl | rfl
    · refine ⟨_, 116, rfl, rfl, ?_⟩
      refine x_iload hm rfl rfl ?_
      refine x_iconst hm rfl (v := nI 2) (by decide) ?_
      refine x_idiv hm rfl (by decide) ?_
      refine x_istore hm rfl rfl ?_
      have hv := kdE1 (o := o) (th := M 67 (14 + 6 * t + 2)) (pl := sPl (M 67) p t) (ri := sRi (M 67) o p t) h1
      refine x_goto hm rfl (t := 190) rfl ?_
      exact m145b hv
    · refine ⟨_, 142, rfl, rfl, ?_⟩
      refine x_iload hm rfl rfl ?_
      refine x_istore hm rfl rfl ?_
      have hv := kdE2 (o := o) (th := M 67 (14 + 6 * t + 2)) (pl := sPl (M 67) p t) (ri := sRi (M 67) o p t) h1
      refine x_goto hm rfl (t := 190) rfl ?_
      exact m145b hv
    · refine ⟨_, 149, rfl, rfl, ?_⟩
      refine x_iload hm rfl rfl ?_
      refine x_iconst hm rfl (v := nI 3) (by decide) ?_
      refine x_isub hm rfl ?_
      refine x_istore hm rfl rfl ?_
      have hv := kdE3 (o := o) (th := M 67 (14 + 6 * t + 2)) (pl := sPl (M 67) p t) (ri := sRi (M 67) o p t) h1
      refine x_goto hm rfl (t := 190) rfl ?_
      exact m145b hv
    · refine ⟨_, 158, rfl, rfl, ?_⟩
      refine x_iload hm rfl rfl ?_
      refine x_iconst hm rfl (v := nI 3) (by decide) ?_
      refine x_isub hm rfl ?_
      refine x_aload_n hm rfl rfl ?_
      refine x_iload_n hm rfl rfl ?_
      refine x_iconst hm rfl (v := nI 2) (by decide) ?_
      refine x_callV hm rfl rfl (t143 (by omega) (by omega)) ?_
      refine x_bipush hm rfl (v := nI 100) (by decide) ?_
      refine x_idiv hm rfl (by decide) ?_
      refine x_iadd hm rfl ?_
      refine x_istore hm rfl rfl ?_
      have hv := kdE4 (o := o) (th := M 67 (14 + 6 * t + 2)) (pl := sPl (M 67) p t) (ri := sRi (M 67) o p t) h1
      refine x_goto hm rfl (t := 190) rfl ?_
      exact m145b hv
    · refine ⟨_, 177, rfl, rfl, ?_⟩
      refine x_iconst hm rfl (v := nI 2) (by decide) ?_
      refine x_iload hm rfl rfl ?_
      refine x_imul hm rfl ?_
      refine x_istore hm rfl rfl ?_
      have hv := kdE5 (o := o) (th := M 67 (14 + 6 * t + 2)) (pl := sPl (M 67) p t) (ri := sRi (M 67) o p t) h1
      refine x_goto hm rfl (t := 190) rfl ?_
      exact m145b hv
    · refine ⟨_, 125, rfl, rfl, ?_⟩
      refine x_iload_n hm rfl rfl ?_
      refine x_if_ge hm rfl (t := 133) rfl (fun h2 => ?_) (fun h2 => ?_)
      · have hv := kdE6 (o := o) (th := M 67 (14 + 6 * t + 2)) (pl := sPl (M 67) p t) (ri := sRi (M 67) o p t) h1 h2
        refine x_iload hm rfl rfl ?_
        refine x_iconst hm rfl (v := nI 2) (by decide) ?_
        refine x_idiv hm rfl (by decide) ?_
        refine x_istore hm rfl rfl ?_
        refine x_goto hm rfl (t := 190) rfl ?_
        exact m145b hv
      · have hv := kdE7 (o := o) (th := M 67 (14 + 6 * t + 2)) (pl := sPl (M 67) p t) (ri := sRi (M 67) o p t) h1 h2
        refine x_iconst hm rfl (v := nI 0) (by decide) ?_
        refine x_goto hm rfl (t := 137) rfl ?_
        refine x_istore hm rfl rfl ?_
        refine x_goto hm rfl (t := 190) rfl ?_
        exact m145b hv
theorem e145 {p t : Nat} {o : Int32} (hW : Wf M) (hp : p < 8) (ht : t < 8) (ho : okx 2 o) : mT X 145 [.ref 66, .int (nI p), .int (nI t), .int o] (con M) (some (.int (sEnv (M 67) (M 66 6) o p t))) (con M) := by
  refine mT.of (row := _) rfl (Nat.le_of_ble_eq_true rfl) ?_
  have hm : mMet 145 = some _ := rfl
  obtain ⟨s, hs3, hs⟩ := hW.sort ht
  have hpl : M 67 (62 + 7 * p + (3 + s)) - M 67 (14 + 6 * t + 3) = sPl (M 67) p t := by
    unfold sPl
    rw [hs, jI_nat (by omega)]
  refine x_iload_n hm rfl rfl ?_
  refine x_iload_n hm rfl rfl ?_
  refine x_icmp_eq hm rfl (t := 21) rfl (fun h1 => ?_) (fun h1 => ?_)
  · refine x_iconst hm rfl (v := nI 0) (by decide) ?_
    refine x_iret hm rfl rfl (by first | rfl | exact bI_nar | decide) ?_
    unfold sEnv
    rw [if_pos (by first | exact Or.inl (by assumption) | exact Or.inr (Or.inl (bI_ne0 (by assumption))) | exact Or.inr (Or.inr (by assumption)))]
    exact ⟨rfl, rfl⟩
  · refine x_aload_n hm rfl rfl ?_
    refine x_iload_n hm rfl rfl ?_
    refine x_callV hm rfl rfl (t146 (by omega)) ?_
    refine x_if_ne hm rfl (t := 21) rfl (fun h2 => ?_) (fun h2 => ?_)
    · refine x_iconst hm rfl (v := nI 0) (by decide) ?_
      refine x_iret hm rfl rfl (by first | rfl | exact bI_nar | decide) ?_
      unfold sEnv
      rw [if_pos (by first | exact Or.inl (by assumption) | exact Or.inr (Or.inl (bI_ne0 (by assumption))) | exact Or.inr (Or.inr (by assumption)))]
      exact ⟨rfl, rfl⟩
    · refine x_iload_n hm rfl rfl ?_
      refine x_aload_n hm rfl rfl ?_
      refine x_getf hm rfl (gI rfl rfl) ?_
      refine x_icmp_ne hm rfl (t := 23) rfl (fun h3 => ?_) (fun h3 => ?_)
      · have hsE : sEnv (M 67) (M 66 6) o p t = mx0 (sKd (M 67 (62 + 7 * p + 0)) o (M 67 (14 + 6 * t + 2)) (sPl (M 67) p t) (sRi (M 67) o p t)) := by
          unfold sEnv
          rw [if_neg]
          rintro (q | q | q)
          · exact h1 q
          · exact bI_eq0.mp h2 q
          · exact h3 q
        rw [hsE]
        refine x_aload_n hm rfl rfl ?_
        refine x_iload_n hm rfl rfl ?_
        refine x_iconst hm rfl (v := nI 3) (by decide) ?_
        refine x_aload_n hm rfl rfl ?_
        refine x_iload_n hm rfl rfl ?_
        refine x_iconst hm rfl (v := nI 0) (by decide) ?_
        refine x_callV hm rfl rfl (t143 (by omega) (by omega)) ?_
        rw [hs]
        refine x_iadd hm rfl ?_
        rw [jI_add]
        refine x_callV hm rfl rfl (t141 (by omega) (by omega)) ?_
        refine x_aload_n hm rfl rfl ?_
        refine x_iload_n hm rfl rfl ?_
        refine x_iconst hm rfl (v := nI 3) (by decide) ?_
        refine x_callV hm rfl rfl (t143 (by omega) (by omega)) ?_
        refine x_isub hm rfl ?_
        rw [hpl]
        refine x_istore hm rfl rfl ?_
        refine x_iload_n hm rfl rfl ?_
        refine x_if_lt hm rfl (t := 69) rfl (fun h4 => ?_) (fun h4 => ?_)
        · have hri : sRi (M 67) o p t = sPl (M 67) p t := by
            unfold sRi
            rw [if_neg (fun q => q.1 h4)]
          refine x_iload hm rfl rfl ?_
          refine x_istore hm rfl rfl ?_
          exact m145a hp ht hri.symm
        · obtain ⟨k, hk, rfl⟩ := tsm1 h4 ho
          refine x_aload_n hm rfl rfl ?_
          refine x_iload_n hm rfl rfl ?_
          refine x_iconst hm rfl (v := nI 0) (by decide) ?_
          refine x_callV hm rfl rfl (t141 (by omega) (by omega)) ?_
          refine x_iconst hm rfl (v := nI 2) (by decide) ?_
          refine x_callS hm rfl rfl (e147) ?_
          refine x_if_eq hm rfl (t := 69) rfl (fun h5 => ?_) (fun h5 => ?_)
          · have hri : sRi (M 67) (nI k) p t = sPl (M 67) p t := by
              unfold sRi
              rw [jI_nat (by omega), if_neg (fun q => bI_eq0.mp h5 q.2)]
            refine x_iload hm rfl rfl ?_
            refine x_istore hm rfl rfl ?_
            exact m145a hp ht hri.symm
          · have hri : sRi (M 67) (nI k) p t = sPl (M 67) p t + nI 2 := by
              unfold sRi
              rw [jI_nat (by omega), if_pos ⟨jI_nn (by omega), bI_ne0 h5⟩]
            refine x_iload hm rfl rfl ?_
            refine x_iconst hm rfl (v := nI 2) (by decide) ?_
            refine x_iadd hm rfl ?_
            refine x_goto hm rfl (t := 71) rfl ?_
            refine x_istore hm rfl rfl ?_
            exact m145a hp ht hri.symm
      · refine x_iconst hm rfl (v := nI 0) (by decide) ?_
        refine x_iret hm rfl rfl (by first | rfl | exact bI_nar | decide) ?_
        unfold sEnv
        rw [if_pos (by first | exact Or.inl (by assumption) | exact Or.inr (Or.inl (bI_ne0 (by assumption))) | exact Or.inr (Or.inr (by assumption)))]
        exact ⟨rfl, rfl⟩
end EA
