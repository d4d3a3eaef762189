/-! ===== the reference: what changes the town ===== -/
section RJ
variable {X : mSc} {Q : Option Value → mHp → Prop} {M : mM}
theorem mp1 {b j : Nat} {v : Int32} (h : j ≠ b) : mput M 67 b v 67 j = M 67 j := by
  unfold mput
  rw [if_neg fun e => h e.2]
theorem mp0 {b : Nat} {v : Int32} {a : Nat} : mput M a b v a b = v := if_pos ⟨rfl, rfl⟩
theorem Ac.add {r r' : Nat → Int32} {n : Nat} (h : Ac r) (hn : r 1 = nI n) (h8 : n < 8) (h1 : r' 1 = nI (n + 1)) (hs : ∀ t, t < n → r' (14 + 6 * t + 5) = r (14 + 6 * t + 5)) (ho : r' (14 + 6 * n + 5) = -1 ∨ ∃ u, u < n ∧ r' (14 + 6 * n + 5) = nI u) : Ac r' := by
  intro n' hn' e
  obtain rfl : n' = n + 1 := jI_inj (by omega) (by omega) (e.symm.trans h1)
  obtain ⟨rk, hk⟩ := h n (by omega) hn
  rcases ho with ho | ⟨w, hw, ho⟩
  · refine ⟨rk, fun t u ht hu he => ?_⟩
    by_cases htn : t = n
    · subst htn
      rw [ho] at he
      exact absurd (congrArg Int32.toInt he) (by rw [jI_int (by omega)]; have : (-1 : Int32).toInt = -1 := by decide +kernel
                                                 omega)
    · rw [hs t (by omega)] at he
      have := hk t u (by omega) hu he
      exact ⟨by omega, this.2⟩
  · refine ⟨fun t => if t = n then rk w + 1 else rk t, fun t u ht hu he => ?_⟩
    by_cases htn : t = n
    · subst htn
      rw [ho] at he
      obtain rfl := jI_inj (by omega) (by omega) he
      refine ⟨by omega, ?_⟩
      dsimp only
      rw [if_neg (by omega), if_pos rfl]
      omega
    · rw [hs t (by omega)] at he
      have := hk t u (by omega) hu he
      refine ⟨by omega, ?_⟩
      dsimp only
      rw [if_neg (by omega), if_neg htn]
      exact this.2
def addT (M : mM) (n : Nat) (s p th pa ow on : Int32) : mM := mput (mput (mput (mput (mput (mput (mput M 67 (14 + 6 * n + 0) s) 67 (14 + 6 * n + 1) p) 67 (14 + 6 * n + 2) th) 67 (14 + 6 * n + 3) pa) 67 (14 + 6 * n + 4) ow) 67 (14 + 6 * n + 5) on) 67 1 (nI (n + 1))
theorem addT_1 {n : Nat} {s p th pa ow on : Int32} : mput (mput (mput (mput (mput (mput M 67 (14 + 6 * n + 0) s) 67 (14 + 6 * n + 1) p) 67 (14 + 6 * n + 2) th) 67 (14 + 6 * n + 3) pa) 67 (14 + 6 * n + 4) ow) 67 (14 + 6 * n + 5) on 67 1 = M 67 1 := by
  rw [mp1 (by omega), mp1 (by omega), mp1 (by omega), mp1 (by omega), mp1 (by omega), mp1 (by omega)]
theorem mpo {a b i : Nat} {v : Int32} (h : i ≠ a) : mput M a b v i = M i := by
  funext j
  exact mput_ne h
theorem addT_o {n i : Nat} {s p th pa ow on : Int32} (h : i ≠ 67) : addT M n s p th pa ow on i = M i := by
  unfold addT
  rw [mpo h, mpo h, mpo h, mpo h, mpo h, mpo h, mpo h]
theorem addT_2 {n : Nat} {s p th pa ow on : Int32} : addT M n s p th pa ow on 67 2 = M 67 2 := by
  unfold addT
  rw [mp1 (by omega), mp1 (by omega), mp1 (by omega), mp1 (by omega), mp1 (by omega), mp1 (by omega), mp1 (by omega)]
theorem addT_inv {n : Nat} {s p th pa ow on : Int32} (hI : Inv M) (hn : M 67 1 = nI n) (h8 : n < 8) (hs : okx 3 s) (how : okx 2 ow) (hon : on = -1 ∨ ∃ u, u < n ∧ on = nI u) : Inv (addT M n s p th pa ow on) := by
  have hko : okx 2 on := by
    rcases hon with rfl | ⟨u, hu, rfl⟩
    · exact okM1
    · exact okI2 (by omega)
  refine ⟨?_, ?_, by rw [addT_o (by decide)]; exact hI.2.2⟩
  · unfold addT
    refine Wf.put ?_ (okI1 (by omega))
    refine Wf.put ?_ (by rw [kd_t n h8 5 (by decide)]; exact hko)
    refine Wf.put ?_ (by rw [kd_t n h8 4 (by decide)]; exact how)
    refine Wf.put ?_ (by rw [kd_t n h8 3 (by decide)]; trivial)
    refine Wf.put ?_ (by rw [kd_t n h8 2 (by decide)]; trivial)
    refine Wf.put ?_ (by rw [kd_t n h8 1 (by decide)]; trivial)
    exact Wf.put hI.1 (by rw [kd_t n h8 0 (by decide)]; exact hs)
  · refine hI.2.1.add hn h8 mp0 (fun t ht => ?_) ?_
    · unfold addT
      rw [mp1 (by omega), mp1 (by omega), mp1 (by omega), mp1 (by omega), mp1 (by omega), mp1 (by omega), mp1 (by omega)]
    · have e : addT M n s p th pa ow on 67 (14 + 6 * n + 5) = on := by
        unfold addT
        rw [mp1 (by omega), mp0]
      rw [e]
      exact hon
theorem okx_le3 {v : Int32} (h : nI 0 ≤ v ∧ v ≤ nI 3) : okx 3 v := by
  obtain ⟨k, hk, rfl⟩ := le_k (by decide) h
  exact okI3 hk
theorem tn {x : Int32} {i : Nat} (h : x.toInt = 0 + (i : Int)) (hi : i < 1000) : x = nI i := by
  apply Int32.toInt_inj.mp
  rw [jI_int (by omega)]
  omega
theorem bI_cs {c : Prop} [Decidable c] : (bI c = nI 0) ∨ (bI c = nI 1 ∧ c) := by
  by_cases h : c
  · exact Or.inr ⟨if_pos h, h⟩
  · exact Or.inl (if_neg h)
theorem Ac.re {r : Nat → Int32} {n t v : Nat} (h : Ac r) (hn : r 1 = nI n) (h8 : n ≤ 8) (ht : t < n) (hv : v < n) (hR : ¬ Rch r t v) {r' : Nat → Int32} (h1 : r' 1 = r 1) (hs : ∀ u, u < 8 → u ≠ t → r' (14 + 6 * u + 5) = r (14 + 6 * u + 5)) (he : r' (14 + 6 * t + 5) = nI v) : Ac r' := by
  intro n' hn' e
  rw [h1, hn] at e
  obtain rfl := jI_inj (by omega) (by omega) e
  obtain ⟨rk, hk⟩ := h n h8 hn
  classical
  refine ⟨fun x => rk x + if Rch r t x then rk v + 1 else 0, fun x u hx hu hxu => ?_⟩
  by_cases hxt : x = t
  · subst hxt
    rw [he] at hxu
    obtain rfl := jI_inj (by omega) (by omega) hxu
    refine ⟨hv, ?_⟩
    have hx1 : Rch r x x := ⟨1, Or.inl rfl⟩
    dsimp only
    rw [if_neg hR, if_pos hx1]
    omega
  · rw [hs x (by omega) hxt] at hxu
    obtain ⟨g1, g2⟩ := hk x u hx hu hxu
    refine ⟨g1, ?_⟩
    dsimp only
    by_cases hu2 : Rch r t u
    · have hx2 : Rch r t x := by
        obtain ⟨f, hf⟩ := hu2
        exact ⟨f + 1, Or.inr ⟨u, hu, hxu, hf⟩⟩
      rw [if_pos hu2, if_pos hx2]
      omega
    · rw [if_neg hu2]
      omega
theorem Ac.off {r : Nat → Int32} {t : Nat} (h : Ac r) {r' : Nat → Int32} (h1 : r' 1 = r 1) (hs : ∀ u, u < 8 → u ≠ t → r' (14 + 6 * u + 5) = r (14 + 6 * u + 5)) (he : r' (14 + 6 * t + 5) = -1) : Ac r' := by
  intro n hn e
  rw [h1] at e
  obtain ⟨rk, hk⟩ := h n hn e
  refine ⟨rk, fun x u hx hu hxu => ?_⟩
  by_cases hxt : x = t
  · subst hxt
    rw [he] at hxu
    exact absurd (congrArg Int32.toInt hxu) (by rw [jI_int (by omega)]; have : (-1 : Int32).toInt = -1 := by decide +kernel
                                                omega)
  · rw [hs x (by omega) hxt] at hxu
    exact hk x u hx hu hxu
theorem Inv.on {t : Nat} {v : Int32} (hI : Inv M) (ht : t < 8) (hv : okx 2 v) (hA : Ac (mput M 67 (14 + 6 * t + 5) v 67)) : Inv (mput M 67 (14 + 6 * t + 5) v) :=
  ⟨hI.1.put (by rw [kd_t t ht 5 (by decide)]; exact hv), hA, by rw [mpo (by decide)]; exact hI.2.2⟩
theorem t136 {n : Nat} {s p th pa ow on : Int32} (hn : M 67 1 = nI n) (h8 : n < 8) : mT X 136 [.ref 66, .int s, .int p, .int th, .int pa, .int ow, .int on] (con M) (some (.int (nI n))) (con (addT M n s p th pa ow on)) := by
  refine mT.of (row := _) rfl (Nat.le_of_ble_eq_true rfl) ?_
  have hm : mMet 136 = some _ := rfl
  refine x_aload_n hm rfl rfl ?_
  refine x_getf hm rfl (gR rfl rfl) ?_
  refine x_iconst hm rfl (v := nI 1) (by decide) ?_
  refine x_iald hm rfl (lI rfl (by omega) (by decide)) ?_
  rw [hn]
  refine x_istore hm rfl rfl ?_
  refine x_aload_n hm rfl rfl ?_
  refine x_getf hm rfl (gR rfl rfl) ?_
  refine x_iload hm rfl rfl ?_
  refine x_iconst hm rfl (v := nI 0) (by decide) ?_
  refine x_callS hm rfl rfl (t137) ?_
  refine x_iload_n hm rfl rfl ?_
  refine x_iast hm rfl (sI rfl (by omega) (by decide)) ?_
  refine x_aload_n hm rfl rfl ?_
  refine x_getf hm rfl (gR rfl rfl) ?_
  refine x_iload hm rfl rfl ?_
  refine x_iconst hm rfl (v := nI 1) (by decide) ?_
  refine x_callS hm rfl rfl (t137) ?_
  refine x_iload_n hm rfl rfl ?_
  refine x_iast hm rfl (sI rfl (by omega) (by decide)) ?_
  refine x_aload_n hm rfl rfl ?_
  refine x_getf hm rfl (gR rfl rfl) ?_
  refine x_iload hm rfl rfl ?_
  refine x_iconst hm rfl (v := nI 2) (by decide) ?_
  refine x_callS hm rfl rfl (t137) ?_
  refine x_iload_n hm rfl rfl ?_
  refine x_iast hm rfl (sI rfl (by omega) (by decide)) ?_
  refine x_aload_n hm rfl rfl ?_
  refine x_getf hm rfl (gR rfl rfl) ?_
  refine x_iload hm rfl rfl ?_
  refine x_iconst hm rfl (v := nI 3) (by decide) ?_
  refine x_callS hm rfl rfl (t137) ?_
  refine x_iload hm rfl rfl ?_
  refine x_iast hm rfl (sI rfl (by omega) (by decide)) ?_
  refine x_aload_n hm rfl rfl ?_
  refine x_getf hm rfl (gR rfl rfl) ?_
  refine x_iload hm rfl rfl ?_
  refine x_iconst hm rfl (v := nI 4) (by decide) ?_
  refine x_callS hm rfl rfl (t137) ?_
  refine x_iload hm rfl rfl ?_
  refine x_iast hm rfl (sI rfl (by omega) (by decide)) ?_
  refine x_aload_n hm rfl rfl ?_
  refine x_getf hm rfl (gR rfl rfl) ?_
  refine x_iload hm rfl rfl ?_
  refine x_iconst hm rfl (v := nI 5) (by decide) ?_
  refine x_callS hm rfl rfl (t137) ?_
  refine x_iload hm rfl rfl ?_
  refine x_iast hm rfl (sI rfl (by omega) (by decide)) ?_
  refine x_aload_n hm rfl rfl ?_
  refine x_getf hm rfl (gR rfl rfl) ?_
  refine x_iconst hm rfl (v := nI 1) (by decide) ?_
  refine x_dup2 hm rfl rfl rfl ?_
  refine x_iald hm rfl (lI rfl (by omega) (by decide)) ?_
  rw [addT_1, hn]
  refine x_iconst hm rfl (v := nI 1) (by decide) ?_
  refine x_iadd hm rfl ?_
  rw [jI_add]
  refine x_iast hm rfl (sI rfl (by omega) (by decide)) ?_
  refine x_iload hm rfl rfl ?_
  refine x_iret hm rfl rfl (by first | rfl | exact bI_nar | decide) ?_
  exact ⟨rfl, rfl⟩
theorem t132 {a1 a2 : Int32} (hI : Inv M) : ∃ v M', mT X 132 [.ref 66, .int a1, .int a2] (con M) (some (.int v)) (con M') ∧ Inv M' := by
  refine ti_of (row := _) rfl (Nat.le_of_ble_eq_true rfl) ?_
  have hm : mMet 132 = some _ := rfl
  obtain ⟨nt, hn8, hnt⟩ := hI.1.nt
  refine x_iload_n hm rfl rfl ?_
  refine x_iconst hm rfl (v := nI 0) (by decide) ?_
  refine x_iconst hm rfl (v := nI 3) (by decide) ?_
  refine x_callS hm rfl rfl (t133) ?_
  refine x_if_eq hm rfl (t := 16) rfl (fun h1 => ?_) (fun h1 => ?_)
  · refine x_aload_n hm rfl rfl ?_
    refine x_ldcI hm rfl (v := (-1000001 : Int32)) (by decide +kernel) ?_
    refine x_cVi hm rfl rfl (t135 (by decide +kernel)) (fun v2 M2 r2 => ?_)
    refine x_iret hm rfl rfl (by first | rfl | exact bI_nar | decide) ?_
    exact ⟨_, _, rfl, rfl, by first | exact (r3.2.inv hI) | exact (r4.2.inv hI) | exact (r2.2.inv hI) | exact (r5.2.inv hI) | exact (r6.2.inv hI) | exact (r7.2.inv hI) | exact (r8.2.inv hI) | exact addT_inv hI hnt hlt hs okM1 (Or.inl rfl)⟩
  · have hs := okx_le3 (bI_ne0 h1)
    refine x_iload_n hm rfl rfl ?_
    refine x_callS hm rfl rfl (t134) ?_
    refine x_if_ne hm rfl (t := 23) rfl (fun h3 => ?_) (fun h3 => ?_)
    · refine x_aload_n hm rfl rfl ?_
      refine x_getf hm rfl (gR rfl rfl) ?_
      refine x_iconst hm rfl (v := nI 1) (by decide) ?_
      refine x_iald hm rfl (lI rfl (by omega) (by decide)) ?_
      rw [hnt]
      refine x_bipush hm rfl (v := nI 8) (by decide) ?_
      refine x_icmp_ne hm rfl (t := 43) rfl (fun h4 => ?_) (fun h4 => ?_)
      · have hlt : nt < 8 := Nat.lt_of_le_of_ne hn8 fun e => h4 (by rw [e])
        refine x_aload_n hm rfl rfl ?_
        refine x_iload_n hm rfl rfl ?_
        refine x_iload_n hm rfl rfl ?_
        refine x_bipush hm rfl (v := nI 100) (by decide) ?_
        refine x_iconst hm rfl (v := nI 0) (by decide) ?_
        refine x_iconst hm rfl (v := (-1 : Int32)) (by decide) ?_
        refine x_iconst hm rfl (v := (-1 : Int32)) (by decide) ?_
        refine x_callV hm rfl rfl (t136 hnt hlt) ?_
        refine x_iret hm rfl rfl (by first | rfl | exact bI_nar | decide) ?_
        exact ⟨_, _, rfl, rfl, by first | exact (r3.2.inv hI) | exact (r4.2.inv hI) | exact (r2.2.inv hI) | exact (r5.2.inv hI) | exact (r6.2.inv hI) | exact (r7.2.inv hI) | exact (r8.2.inv hI) | exact addT_inv hI hnt hlt hs okM1 (Or.inl rfl)⟩
      · refine x_aload_n hm rfl rfl ?_
        refine x_ldcI hm rfl (v := (-1000002 : Int32)) (by decide +kernel) ?_
        refine x_cVi hm rfl rfl (t135 (by decide +kernel)) (fun v5 M5 r5 => ?_)
        refine x_goto hm rfl (t := 54) rfl ?_
        refine x_iret hm rfl rfl (by first | rfl | exact bI_nar | decide) ?_
        exact ⟨_, _, rfl, rfl, by first | exact (r3.2.inv hI) | exact (r4.2.inv hI) | exact (r2.2.inv hI) | exact (r5.2.inv hI) | exact (r6.2.inv hI) | exact (r7.2.inv hI) | exact (r8.2.inv hI) | exact addT_inv hI hnt hlt hs okM1 (Or.inl rfl)⟩
    · refine x_aload_n hm rfl rfl ?_
      refine x_ldcI hm rfl (v := (-1000001 : Int32)) (by decide +kernel) ?_
      refine x_cVi hm rfl rfl (t135 (by decide +kernel)) (fun v6 M6 r6 => ?_)
      refine x_iret hm rfl rfl (by first | rfl | exact bI_nar | decide) ?_
      exact ⟨_, _, rfl, rfl, by first | exact (r3.2.inv hI) | exact (r4.2.inv hI) | exact (r2.2.inv hI) | exact (r5.2.inv hI) | exact (r6.2.inv hI) | exact (r7.2.inv hI) | exact (r8.2.inv hI) | exact addT_inv hI hnt hlt hs okM1 (Or.inl rfl)⟩
theorem l158 {n : Nat} {k p w : Int32} (h8 : n < 8) : ∀ (m i : Nat) (M1 : mM), 4 - i < m → i ≤ 4 → M1 67 2 = nI n → Sf M M1 → mEv X (QI (fun v M' => v = nI n ∧ ∃ M1, Sf M M1 ∧ M' = mput M1 67 2 (nI (n + 1)))) 158 47 [some (.ref 66), some (.int k), some (.int p), some (.int w), some (.int (nI n)), some (.int (nI i))] [] (con M1) := by
  have hm : mMet 158 = some _ := rfl
  intro m
  induction m with
  | zero =>
    intro i M1 him hi4 hn1 hS
    omega
  | succ m ih =>
    intro i M1 him hi4 hn1 hS
    refine x_iload hm rfl rfl ?_
    refine x_iconst hm rfl (v := nI 4) (by decide) ?_
    refine x_icmp_ge hm rfl (t := 74) rfl (fun h1 => ?_) (fun h1 => ?_)
    · refine x_aload_n hm rfl rfl ?_
      refine x_getf hm rfl (gR rfl rfl) ?_
      refine x_iconst hm rfl (v := nI 2) (by decide) ?_
      refine x_dup2 hm rfl rfl rfl ?_
      refine x_iald hm rfl (lI rfl (by omega) (by decide)) ?_
      rw [hn1]
      refine x_iconst hm rfl (v := nI 1) (by decide) ?_
      refine x_iadd hm rfl ?_
      rw [jI_add]
      refine x_iast hm rfl (sI rfl (by omega) (by decide)) ?_
      refine x_iload hm rfl rfl ?_
      refine x_iret hm rfl rfl (by first | rfl | exact bI_nar | decide) ?_
      exact ⟨_, _, rfl, rfl, rfl, M1, hS, rfl⟩
    · have hk : i < 4 := Nat.lt_of_not_le fun h => h1 (nI_le h (by omega))
      refine x_aload_n hm rfl rfl ?_
      refine x_getf hm rfl (gR rfl rfl) ?_
      refine x_iload hm rfl rfl ?_
      refine x_iconst hm rfl (v := nI 3) (by decide) ?_
      refine x_iload hm rfl rfl ?_
      refine x_iadd hm rfl ?_
      rw [jI_add]
      refine x_callS hm rfl rfl (t142) ?_
      refine x_iconst hm rfl (v := nI 1) (by decide) ?_
      refine x_iast hm rfl (sI rfl (by omega) (by decide)) ?_
      refine x_iinc hm rfl rfl (v := nI 1) (by decide) rfl ?_
      rw [jI_add]
      refine x_goto hm rfl (t := 47) rfl ?_
      exact ih _ _ (by omega) (by omega) (by rw [mp1 (by omega)]; exact hn1) (hS.trans (Sf.person (by omega) (by omega)))
theorem t158 {n : Nat} {k p w : Int32} (hn : M 67 2 = nI n) (h8 : n < 8) : ∃ v M', mT X 158 [.ref 66, .int k, .int p, .int w] (con M) (some (.int v)) (con M') ∧ v = nI n ∧ ∃ M1, Sf M M1 ∧ M' = mput M1 67 2 (nI (n + 1)) := by
  refine ti_of (row := _) rfl (Nat.le_of_ble_eq_true rfl) ?_
  have hm : mMet 158 = some _ := rfl
  refine x_aload_n hm rfl rfl ?_
  refine x_getf hm rfl (gR rfl rfl) ?_
  refine x_iconst hm rfl (v := nI 2) (by decide) ?_
  refine x_iald hm rfl (lI rfl (by omega) (by decide)) ?_
  rw [hn]
  refine x_istore hm rfl rfl ?_
  refine x_aload_n hm rfl rfl ?_
  refine x_getf hm rfl (gR rfl rfl) ?_
  refine x_iload hm rfl rfl ?_
  refine x_iconst hm rfl (v := nI 0) (by decide) ?_
  refine x_callS hm rfl rfl (t142) ?_
  refine x_iload_n hm rfl rfl ?_
  refine x_iast hm rfl (sI rfl (by omega) (by decide)) ?_
  refine x_aload_n hm rfl rfl ?_
  refine x_getf hm rfl (gR rfl rfl) ?_
  refine x_iload hm rfl rfl ?_
  refine x_iconst hm rfl (v := nI 1) (by decide) ?_
  refine x_callS hm rfl rfl (t142) ?_
  refine x_iload_n hm rfl rfl ?_
  refine x_iast hm rfl (sI rfl (by omega) (by decide)) ?_
  refine x_aload_n hm rfl rfl ?_
  refine x_getf hm rfl (gR rfl rfl) ?_
  refine x_iload hm rfl rfl ?_
  refine x_iconst hm rfl (v := nI 2) (by decide) ?_
  refine x_callS hm rfl rfl (t142) ?_
  refine x_iload_n hm rfl rfl ?_
  refine x_iast hm rfl (sI rfl (by omega) (by decide)) ?_
  refine x_iconst hm rfl (v := nI 0) (by decide) ?_
  refine x_istore hm rfl rfl ?_
  exact l158 h8 _ 0 _ (Nat.lt_succ_self _) (Nat.zero_le _) (by rw [mp1 (by omega), mp1 (by omega), mp1 (by omega)]; exact hn) (((Sf.person h8 (by decide)).trans (Sf.person h8 (by decide))).trans (Sf.person h8 (by decide)))
theorem joined {M1 : mM} {n : Nat} (hI : Inv M) (hS : Sf M M1) (h8 : n < 8) : Inv (mput M1 67 2 (nI (n + 1))) := by
  have h1 := hS.inv hI
  refine ⟨h1.1.put (okI1 (by omega)), h1.2.1.of (mp1 (by decide)) (fun t ht => mp1 (by omega)), by rw [mpo (by decide)]; exact h1.2.2⟩
theorem t156 {a1 a2 : Int32} (hI : Inv M) : ∃ v M', mT X 156 [.ref 66, .int a1, .int a2] (con M) (some (.int v)) (con M') ∧ Inv M' := by
  refine ti_of (row := _) rfl (Nat.le_of_ble_eq_true rfl) ?_
  have hm : mMet 156 = some _ := rfl
  obtain ⟨np, hp8, hnp⟩ := hI.1.np
  refine x_iload_n hm rfl rfl ?_
  refine x_callS hm rfl rfl (t157) ?_
  refine x_if_eq hm rfl (t := 14) rfl (fun h1 => ?_) (fun h1 => ?_)
  · refine x_aload_n hm rfl rfl ?_
    refine x_ldcI hm rfl (v := (-1000001 : Int32)) (by decide +kernel) ?_
    refine x_cVi hm rfl rfl (t135 (by decide +kernel)) (fun v2 M2 r2 => ?_)
    refine x_iret hm rfl rfl (by first | rfl | exact bI_nar | decide) ?_
    first
      | exact ⟨_, _, rfl, rfl, r2.2.inv hI⟩
      | (obtain ⟨-, M9, g1, rfl⟩ := r2; exact ⟨_, _, rfl, rfl, joined hI g1 hlt⟩)
      | exact ⟨_, _, rfl, rfl, r1.2.inv hI⟩
      | exact ⟨_, _, rfl, rfl, r3.2.inv hI⟩
      | exact ⟨_, _, rfl, rfl, r4.2.inv hI⟩
      | exact ⟨_, _, rfl, rfl, r5.2.inv hI⟩
      | exact ⟨_, _, rfl, rfl, r6.2.inv hI⟩
      | exact ⟨_, _, rfl, rfl, r7.2.inv hI⟩
      | exact ⟨_, _, rfl, rfl, r8.2.inv hI⟩
      | exact ⟨_, _, rfl, rfl, r9.2.inv hI⟩
      | (obtain ⟨-, M9, g1, rfl⟩ := r1; exact ⟨_, _, rfl, rfl, joined hI g1 hlt⟩)
      | (obtain ⟨-, M9, g1, rfl⟩ := r3; exact ⟨_, _, rfl, rfl, joined hI g1 hlt⟩)
      | (obtain ⟨-, M9, g1, rfl⟩ := r4; exact ⟨_, _, rfl, rfl, joined hI g1 hlt⟩)
      | (obtain ⟨-, M9, g1, rfl⟩ := r5; exact ⟨_, _, rfl, rfl, joined hI g1 hlt⟩)
      | (obtain ⟨-, M9, g1, rfl⟩ := r6; exact ⟨_, _, rfl, rfl, joined hI g1 hlt⟩)
      | (obtain ⟨-, M9, g1, rfl⟩ := r7; exact ⟨_, _, rfl, rfl, joined hI g1 hlt⟩)
      | (obtain ⟨-, M9, g1, rfl⟩ := r8; exact ⟨_, _, rfl, rfl, joined hI g1 hlt⟩)
      | (obtain ⟨-, M9, g1, rfl⟩ := r9; exact ⟨_, _, rfl, rfl, joined hI g1 hlt⟩)
  · refine x_iload_n hm rfl rfl ?_
    refine x_callS hm rfl rfl (t134) ?_
    refine x_if_ne hm rfl (t := 21) rfl (fun h3 => ?_) (fun h3 => ?_)
    · refine x_aload_n hm rfl rfl ?_
      refine x_getf hm rfl (gR rfl rfl) ?_
      refine x_iconst hm rfl (v := nI 2) (by decide) ?_
      refine x_iald hm rfl (lI rfl (by omega) (by decide)) ?_
      rw [hnp]
      refine x_bipush hm rfl (v := nI 8) (by decide) ?_
      refine x_icmp_ne hm rfl (t := 41) rfl (fun h4 => ?_) (fun h4 => ?_)
      · have hlt : np < 8 := Nat.lt_of_le_of_ne hp8 fun e => h4 (by rw [e])
        refine x_aload_n hm rfl rfl ?_
        refine x_iload_n hm rfl rfl ?_
        refine x_iload_n hm rfl rfl ?_
        refine x_iconst hm rfl (v := nI 1) (by decide) ?_
        refine x_cVi hm rfl rfl (t158 hnp hlt) (fun v5 M5 r5 => ?_)
        refine x_iret hm rfl rfl (by first | rfl | exact bI_nar | decide) ?_
        first
          | exact ⟨_, _, rfl, rfl, r5.2.inv hI⟩
          | (obtain ⟨-, M9, g1, rfl⟩ := r5; exact ⟨_, _, rfl, rfl, joined hI g1 hlt⟩)
          | exact ⟨_, _, rfl, rfl, r1.2.inv hI⟩
          | exact ⟨_, _, rfl, rfl, r2.2.inv hI⟩
          | exact ⟨_, _, rfl, rfl, r3.2.inv hI⟩
          | exact ⟨_, _, rfl, rfl, r4.2.inv hI⟩
          | exact ⟨_, _, rfl, rfl, r6.2.inv hI⟩
          | exact ⟨_, _, rfl, rfl, r7.2.inv hI⟩
          | exact ⟨_, _, rfl, rfl, r8.2.inv hI⟩
          | exact ⟨_, _, rfl, rfl, r9.2.inv hI⟩
          | (obtain ⟨-, M9, g1, rfl⟩ := r1; exact ⟨_, _, rfl, rfl, joined hI g1 hlt⟩)
          | (obtain ⟨-, M9, g1, rfl⟩ := r2; exact ⟨_, _, rfl, rfl, joined hI g1 hlt⟩)
          | (obtain ⟨-, M9, g1, rfl⟩ := r3; exact ⟨_, _, rfl, rfl, joined hI g1 hlt⟩)
          | (obtain ⟨-, M9, g1, rfl⟩ := r4; exact ⟨_, _, rfl, rfl, joined hI g1 hlt⟩)
          | (obtain ⟨-, M9, g1, rfl⟩ := r6; exact ⟨_, _, rfl, rfl, joined hI g1 hlt⟩)
          | (obtain ⟨-, M9, g1, rfl⟩ := r7; exact ⟨_, _, rfl, rfl, joined hI g1 hlt⟩)
          | (obtain ⟨-, M9, g1, rfl⟩ := r8; exact ⟨_, _, rfl, rfl, joined hI g1 hlt⟩)
          | (obtain ⟨-, M9, g1, rfl⟩ := r9; exact ⟨_, _, rfl, rfl, joined hI g1 hlt⟩)
      · refine x_aload_n hm rfl rfl ?_
        refine x_ldcI hm rfl (v := (-1000002 : Int32)) (by decide +kernel) ?_
        refine x_cVi hm rfl rfl (t135 (by decide +kernel)) (fun v6 M6 r6 => ?_)
        refine x_goto hm rfl (t := 48) rfl ?_
        refine x_iret hm rfl rfl (by first | rfl | exact bI_nar | decide) ?_
        first
          | exact ⟨_, _, rfl, rfl, r6.2.inv hI⟩
          | (obtain ⟨-, M9, g1, rfl⟩ := r6; exact ⟨_, _, rfl, rfl, joined hI g1 hlt⟩)
          | exact ⟨_, _, rfl, rfl, r1.2.inv hI⟩
          | exact ⟨_, _, rfl, rfl, r2.2.inv hI⟩
          | exact ⟨_, _, rfl, rfl, r3.2.inv hI⟩
          | exact ⟨_, _, rfl, rfl, r4.2.inv hI⟩
          | exact ⟨_, _, rfl, rfl, r5.2.inv hI⟩
          | exact ⟨_, _, rfl, rfl, r7.2.inv hI⟩
          | exact ⟨_, _, rfl, rfl, r8.2.inv hI⟩
          | exact ⟨_, _, rfl, rfl, r9.2.inv hI⟩
          | (obtain ⟨-, M9, g1, rfl⟩ := r1; exact ⟨_, _, rfl, rfl, joined hI g1 hlt⟩)
          | (obtain ⟨-, M9, g1, rfl⟩ := r2; exact ⟨_, _, rfl, rfl, joined hI g1 hlt⟩)
          | (obtain ⟨-, M9, g1, rfl⟩ := r3; exact ⟨_, _, rfl, rfl, joined hI g1 hlt⟩)
          | (obtain ⟨-, M9, g1, rfl⟩ := r4; exact ⟨_, _, rfl, rfl, joined hI g1 hlt⟩)
          | (obtain ⟨-, M9, g1, rfl⟩ := r5; exact ⟨_, _, rfl, rfl, joined hI g1 hlt⟩)
          | (obtain ⟨-, M9, g1, rfl⟩ := r7; exact ⟨_, _, rfl, rfl, joined hI g1 hlt⟩)
          | (obtain ⟨-, M9, g1, rfl⟩ := r8; exact ⟨_, _, rfl, rfl, joined hI g1 hlt⟩)
          | (obtain ⟨-, M9, g1, rfl⟩ := r9; exact ⟨_, _, rfl, rfl, joined hI g1 hlt⟩)
    · refine x_aload_n hm rfl rfl ?_
      refine x_ldcI hm rfl (v := (-1000001 : Int32)) (by decide +kernel) ?_
      refine x_cVi hm rfl rfl (t135 (by decide +kernel)) (fun v7 M7 r7 => ?_)
      refine x_iret hm rfl rfl (by first | rfl | exact bI_nar | decide) ?_
      first
        | exact ⟨_, _, rfl, rfl, r7.2.inv hI⟩
        | (obtain ⟨-, M9, g1, rfl⟩ := r7; exact ⟨_, _, rfl, rfl, joined hI g1 hlt⟩)
        | exact ⟨_, _, rfl, rfl, r1.2.inv hI⟩
        | exact ⟨_, _, rfl, rfl, r2.2.inv hI⟩
        | exact ⟨_, _, rfl, rfl, r3.2.inv hI⟩
        | exact ⟨_, _, rfl, rfl, r4.2.inv hI⟩
        | exact ⟨_, _, rfl, rfl, r5.2.inv hI⟩
        | exact ⟨_, _, rfl, rfl, r6.2.inv hI⟩
        | exact ⟨_, _, rfl, rfl, r8.2.inv hI⟩
        | exact ⟨_, _, rfl, rfl, r9.2.inv hI⟩
        | (obtain ⟨-, M9, g1, rfl⟩ := r1; exact ⟨_, _, rfl, rfl, joined hI g1 hlt⟩)
        | (obtain ⟨-, M9, g1, rfl⟩ := r2; exact ⟨_, _, rfl, rfl, joined hI g1 hlt⟩)
        | (obtain ⟨-, M9, g1, rfl⟩ := r3; exact ⟨_, _, rfl, rfl, joined hI g1 hlt⟩)
        | (obtain ⟨-, M9, g1, rfl⟩ := r4; exact ⟨_, _, rfl, rfl, joined hI g1 hlt⟩)
        | (obtain ⟨-, M9, g1, rfl⟩ := r5; exact ⟨_, _, rfl, rfl, joined hI g1 hlt⟩)
        | (obtain ⟨-, M9, g1, rfl⟩ := r6; exact ⟨_, _, rfl, rfl, joined hI g1 hlt⟩)
        | (obtain ⟨-, M9, g1, rfl⟩ := r8; exact ⟨_, _, rfl, rfl, joined hI g1 hlt⟩)
        | (obtain ⟨-, M9, g1, rfl⟩ := r9; exact ⟨_, _, rfl, rfl, joined hI g1 hlt⟩)
theorem t150 {a1 a2 a3 : Int32} {nt np : Nat} (hnt : M 67 1 = nI nt) (hn8 : nt ≤ 8) (hnp : M 67 2 = nI np) (hp8 : np ≤ 8) : ∃ v, mT X 150 [.ref 66, .int a1, .int a2, .int a3] (con M) (some (.int v)) (con M) ∧ (v = nI 0 ∨ (v = nI 1 ∧ ∃ f, f < 6 ∧ a2 = nI f ∧ (f = 0 → okx 3 a3) ∧ (f = 4 → okx 2 a3) ∧ (f = 5 → a3 = -1 ∨ ∃ u, u < nt ∧ a3 = nI u))) := by
  refine te_of (row := _) rfl (Nat.le_of_ble_eq_true rfl) ?_
  have hm : mMet 150 = some _ := rfl
  refine x_iload_n hm rfl rfl ?_
  refine x_ts hm rfl (fun h1 => ⟨105, rfl, ?_⟩) (fun i1 h1 g1 => ?_)
  · refine x_iconst hm rfl (v := nI 0) (by decide) ?_
    refine x_iret hm rfl rfl (by first | rfl | exact bI_nar | decide) ?_
    exact ⟨_, rfl, rfl, Or.inl rfl⟩
  · have k1 : i1 = 0 ∨ i1 = 1 ∨ i1 = 2 ∨ i1 = 3 ∨ i1 = 4 ∨ i1 = 5 := by omega
    rcases k1 with rfl | rfl | rfl | rfl | rfl | rfl
    · refine ⟨_, 40, rfl, rfl, ?_⟩
      refine x_iload_n hm rfl rfl ?_
      refine x_iconst hm rfl (v := nI 0) (by decide) ?_
      refine x_iconst hm rfl (v := nI 3) (by decide) ?_
      refine x_callS hm rfl rfl (t133) ?_
      refine x_iret hm rfl rfl (by first | rfl | exact bI_nar | decide) ?_
      exact ⟨_, rfl, rfl, bI_cs.imp id (fun e => ⟨e.1, 0, by decide, tn h1 (by decide), by first | exact fun _ => okx_le3 e.2 | exact fun q => absurd q (by decide), fun q => absurd q (by decide), fun q => absurd q (by decide)⟩)⟩
    · refine ⟨_, 47, rfl, rfl, ?_⟩
      refine x_iload_n hm rfl rfl ?_
      refine x_callS hm rfl rfl (t134) ?_
      refine x_iret hm rfl rfl (by first | rfl | exact bI_nar | decide) ?_
      exact ⟨_, rfl, rfl, bI_cs.imp id (fun e => ⟨e.1, 1, by decide, tn h1 (by decide), by first | exact fun _ => okx_le3 e.2 | exact fun q => absurd q (by decide), fun q => absurd q (by decide), fun q => absurd q (by decide)⟩)⟩
    · refine ⟨_, 52, rfl, rfl, ?_⟩
      refine x_iload_n hm rfl rfl ?_
      refine x_callS hm rfl rfl (t151) ?_
      refine x_iret hm rfl rfl (by first | rfl | exact bI_nar | decide) ?_
      exact ⟨_, rfl, rfl, bI_cs.imp id (fun e => ⟨e.1, 2, by decide, tn h1 (by decide), by first | exact fun _ => okx_le3 e.2 | exact fun q => absurd q (by decide), fun q => absurd q (by decide), fun q => absurd q (by decide)⟩)⟩
    · refine ⟨_, 57, rfl, rfl, ?_⟩
      refine x_iload_n hm rfl rfl ?_
      refine x_callS hm rfl rfl (t152) ?_
      refine x_iret hm rfl rfl (by first | rfl | exact bI_nar | decide) ?_
      exact ⟨_, rfl, rfl, bI_cs.imp id (fun e => ⟨e.1, 3, by decide, tn h1 (by decide), by first | exact fun _ => okx_le3 e.2 | exact fun q => absurd q (by decide), fun q => absurd q (by decide), fun q => absurd q (by decide)⟩)⟩
    · refine ⟨_, 62, rfl, rfl, ?_⟩
      refine x_iload_n hm rfl rfl ?_
      refine x_iconst hm rfl (v := (-1 : Int32)) (by decide) ?_
      refine x_icmp_eq hm rfl (t := 75) rfl (fun h2 => ?_) (fun h2 => ?_)
      · have hq : okx 2 a3 := by rw [h2]; exact okM1
        refine x_iconst hm rfl (v := nI 1) (by decide) ?_
        refine x_goto hm rfl (t := 80) rfl ?_
        refine x_iret hm rfl rfl (by first | rfl | exact bI_nar | decide) ?_
        exact ⟨_, rfl, rfl, by first | exact Or.inl rfl | exact Or.inr ⟨rfl, 4, by decide, tn h1 (by decide), fun q => absurd q (by decide), fun _ => hq, fun q => absurd q (by decide)⟩⟩
      · refine x_aload_n hm rfl rfl ?_
        refine x_iload_n hm rfl rfl ?_
        refine x_callV hm rfl rfl (t153) ?_
        refine x_if_eq hm rfl (t := 79) rfl (fun h3 => ?_) (fun h3 => ?_)
        · refine x_iconst hm rfl (v := nI 0) (by decide) ?_
          refine x_iret hm rfl rfl (by first | rfl | exact bI_nar | decide) ?_
          exact ⟨_, rfl, rfl, by first | exact Or.inl rfl | exact Or.inr ⟨rfl, 4, by decide, tn h1 (by decide), fun q => absurd q (by decide), fun _ => hq, fun q => absurd q (by decide)⟩⟩
        · have hq : okx 2 a3 := by
            obtain ⟨k, hk, e⟩ := in_k hnp (by omega) (bI_ne0 h3)
            rw [e]; exact okI2 (by omega)
          refine x_iconst hm rfl (v := nI 1) (by decide) ?_
          refine x_goto hm rfl (t := 80) rfl ?_
          refine x_iret hm rfl rfl (by first | rfl | exact bI_nar | decide) ?_
          exact ⟨_, rfl, rfl, by first | exact Or.inl rfl | exact Or.inr ⟨rfl, 4, by decide, tn h1 (by decide), fun q => absurd q (by decide), fun _ => hq, fun q => absurd q (by decide)⟩⟩
    · refine ⟨_, 81, rfl, rfl, ?_⟩
      refine x_iload_n hm rfl rfl ?_
      refine x_iconst hm rfl (v := (-1 : Int32)) (by decide) ?_
      refine x_icmp_eq hm rfl (t := 99) rfl (fun h4 => ?_) (fun h4 => ?_)
      · have hq : a3 = -1 ∨ ∃ u, u < nt ∧ a3 = nI u := Or.inl h4
        refine x_iconst hm rfl (v := nI 1) (by decide) ?_
        refine x_goto hm rfl (t := 104) rfl ?_
        refine x_iret hm rfl rfl (by first | rfl | exact bI_nar | decide) ?_
        exact ⟨_, rfl, rfl, by first | exact Or.inl rfl | exact Or.inr ⟨rfl, 5, by decide, tn h1 (by decide), fun q => absurd q (by decide), fun q => absurd q (by decide), fun _ => hq⟩⟩
      · refine x_aload_n hm rfl rfl ?_
        refine x_iload_n hm rfl rfl ?_
        refine x_callV hm rfl rfl (t139) ?_
        refine x_if_eq hm rfl (t := 103) rfl (fun h5 => ?_) (fun h5 => ?_)
        · refine x_iconst hm rfl (v := nI 0) (by decide) ?_
          refine x_iret hm rfl rfl (by first | rfl | exact bI_nar | decide) ?_
          exact ⟨_, rfl, rfl, by first | exact Or.inl rfl | exact Or.inr ⟨rfl, 5, by decide, tn h1 (by decide), fun q => absurd q (by decide), fun q => absurd q (by decide), fun _ => hq⟩⟩
        · have hq : a3 = -1 ∨ ∃ u, u < nt ∧ a3 = nI u := Or.inr (in_k hnt (by omega) (bI_ne0 h5))
          refine x_iload_n hm rfl rfl ?_
          refine x_iload_n hm rfl rfl ?_
          refine x_icmp_eq hm rfl (t := 103) rfl (fun h6 => ?_) (fun h6 => ?_)
          · refine x_iconst hm rfl (v := nI 0) (by decide) ?_
            refine x_iret hm rfl rfl (by first | rfl | exact bI_nar | decide) ?_
            exact ⟨_, rfl, rfl, by first | exact Or.inl rfl | exact Or.inr ⟨rfl, 5, by decide, tn h1 (by decide), fun q => absurd q (by decide), fun q => absurd q (by decide), fun _ => hq⟩⟩
          · refine x_iconst hm rfl (v := nI 1) (by decide) ?_
            refine x_goto hm rfl (t := 104) rfl ?_
            refine x_iret hm rfl rfl (by first | rfl | exact bI_nar | decide) ?_
            exact ⟨_, rfl, rfl, by first | exact Or.inl rfl | exact Or.inr ⟨rfl, 5, by decide, tn h1 (by decide), fun q => absurd q (by decide), fun q => absurd q (by decide), fun _ => hq⟩⟩
theorem forge_inv {t f nt : Nat} {v : Int32} (hI : Inv M) (hnt : M 67 1 = nI nt) (hn8 : nt ≤ 8) (ht : t < nt) (hf : f < 6) (g0 : f = 0 → okx 3 v) (g4 : f = 4 → okx 2 v) (g5 : f = 5 → v = -1 ∨ ∃ u, u < nt ∧ v = nI u ∧ ¬ Rch (M 67) t u) : Inv (mput M 67 (14 + 6 * t + f) v) := by
  rcases (by omega : f = 0 ∨ f = 4 ∨ f = 5 ∨ (f < 5 ∧ f ≠ 0 ∧ f ≠ 4)) with rfl | rfl | rfl | ⟨h1, h2, h3⟩
  · exact (Sf.sort (by omega) (g0 rfl)).inv hI
  · exact (Sf.owner (by omega) (g4 rfl)).inv hI
  · have hs : ∀ u, u < 8 → u ≠ t → mput M 67 (14 + 6 * t + 5) v 67 (14 + 6 * u + 5) = M 67 (14 + 6 * u + 5) := fun u _ hu => mp1 (by omega)
    rcases g5 rfl with rfl | ⟨u, hu, rfl, hR⟩
    · exact Inv.on hI (by omega) okM1 (hI.2.1.off (mp1 (by omega)) hs mp0)
    · exact Inv.on hI (by omega) (okI2 (by omega)) (hI.2.1.re hnt hn8 ht hu hR (mp1 (by omega)) hs mp0)
  · exact (Sf.thing (by omega) h1 h2 h3).inv hI
theorem t149 {a1 a2 a3 : Int32} (hI : Inv M) : ∃ v M', mT X 149 [.ref 66, .int a1, .int a2, .int a3] (con M) (some (.int v)) (con M') ∧ Inv M' := by
  refine ti_of (row := _) rfl (Nat.le_of_ble_eq_true rfl) ?_
  have hm : mMet 149 = some _ := rfl
  obtain ⟨nt, hn8, hnt⟩ := hI.1.nt
  obtain ⟨np, hp8, hnp⟩ := hI.1.np
  refine x_aload_n hm rfl rfl ?_
  refine x_iload_n hm rfl rfl ?_
  refine x_callV hm rfl rfl (t139) ?_
  refine x_if_eq hm rfl (t := 18) rfl (fun h1 => ?_) (fun h1 => ?_)
  · refine x_aload_n hm rfl rfl ?_
    refine x_ldcI hm rfl (v := (-1000001 : Int32)) (by decide +kernel) ?_
    refine x_cVi hm rfl rfl (t135 (by decide +kernel)) (fun v2 M2 r2 => ?_)
    refine x_iret hm rfl rfl (by first | rfl | exact bI_nar | decide) ?_
    first
      | exact ⟨_, _, rfl, rfl, r2.2.inv hI⟩
      | exact ⟨_, _, rfl, rfl, forge_inv hI hnt hn8 ht hf g0 g4 hg⟩
      | exact ⟨_, _, rfl, rfl, forge_inv hI hnt hn8 ht (by decide) (fun q => absurd q (by decide)) (fun q => absurd q (by decide)) hg⟩
      | exact ⟨_, _, rfl, rfl, r1.2.inv hI⟩
      | exact ⟨_, _, rfl, rfl, r3.2.inv hI⟩
      | exact ⟨_, _, rfl, rfl, r4.2.inv hI⟩
      | exact ⟨_, _, rfl, rfl, r5.2.inv hI⟩
      | exact ⟨_, _, rfl, rfl, r6.2.inv hI⟩
      | exact ⟨_, _, rfl, rfl, r7.2.inv hI⟩
      | exact ⟨_, _, rfl, rfl, r8.2.inv hI⟩
      | exact ⟨_, _, rfl, rfl, r9.2.inv hI⟩
      | exact ⟨_, _, rfl, rfl, r10.2.inv hI⟩
      | exact ⟨_, _, rfl, rfl, r11.2.inv hI⟩
  · obtain ⟨t, ht, rfl⟩ := in_k hnt (by omega) (bI_ne0 h1)
    refine x_aload_n hm rfl rfl ?_
    refine x_iload_n hm rfl rfl ?_
    refine x_iload_n hm rfl rfl ?_
    refine x_iload_n hm rfl rfl ?_
    refine x_cVe hm rfl rfl (t150 hnt hn8 hnp hp8) (fun v3 r3 => ?_)
    refine x_if_ne hm rfl (t := 25) rfl (fun h4 => ?_) (fun h4 => ?_)
    · first
        | obtain ⟨-, f, hf, rfl, g0, g4, g5⟩ := r3.resolve_left (fun e => by subst e; exact h4 rfl)
        | obtain ⟨-, f, hf, rfl, g0, g4, g5⟩ := r1.resolve_left (fun e => by subst e; exact h4 rfl)
        | obtain ⟨-, f, hf, rfl, g0, g4, g5⟩ := r2.resolve_left (fun e => by subst e; exact h4 rfl)
        | obtain ⟨-, f, hf, rfl, g0, g4, g5⟩ := r4.resolve_left (fun e => by subst e; exact h4 rfl)
        | obtain ⟨-, f, hf, rfl, g0, g4, g5⟩ := r5.resolve_left (fun e => by subst e; exact h4 rfl)
        | obtain ⟨-, f, hf, rfl, g0, g4, g5⟩ := r6.resolve_left (fun e => by subst e; exact h4 rfl)
      refine x_iload_n hm rfl rfl ?_
      refine x_iconst hm rfl (v := nI 5) (by decide) ?_
      refine x_icmp_ne hm rfl (t := 50) rfl (fun h5 => ?_) (fun h5 => ?_)
      · have hg : f = 5 → a3 = -1 ∨ ∃ u, u < nt ∧ a3 = nI u ∧ ¬ Rch (M 67) t u := fun q => absurd (by rw [q]) h5
        refine x_aload_n hm rfl rfl ?_
        refine x_iload_n hm rfl rfl ?_
        refine x_iload_n hm rfl rfl ?_
        refine x_callS hm rfl rfl (t137) ?_
        refine x_iload_n hm rfl rfl ?_
        refine x_callV hm rfl rfl (t155 (by omega)) ?_
        refine x_iret hm rfl rfl (by first | rfl | exact bI_nar | decide) ?_
        first
          | exact ⟨_, _, rfl, rfl, r3.2.inv hI⟩
          | exact ⟨_, _, rfl, rfl, forge_inv hI hnt hn8 ht hf g0 g4 hg⟩
          | exact ⟨_, _, rfl, rfl, forge_inv hI hnt hn8 ht (by decide) (fun q => absurd q (by decide)) (fun q => absurd q (by decide)) hg⟩
          | exact ⟨_, _, rfl, rfl, r1.2.inv hI⟩
          | exact ⟨_, _, rfl, rfl, r2.2.inv hI⟩
          | exact ⟨_, _, rfl, rfl, r4.2.inv hI⟩
          | exact ⟨_, _, rfl, rfl, r5.2.inv hI⟩
          | exact ⟨_, _, rfl, rfl, r6.2.inv hI⟩
          | exact ⟨_, _, rfl, rfl, r7.2.inv hI⟩
          | exact ⟨_, _, rfl, rfl, r8.2.inv hI⟩
          | exact ⟨_, _, rfl, rfl, r9.2.inv hI⟩
          | exact ⟨_, _, rfl, rfl, r10.2.inv hI⟩
          | exact ⟨_, _, rfl, rfl, r11.2.inv hI⟩
      · refine x_iload_n hm rfl rfl ?_
        refine x_if_lt hm rfl (t := 50) rfl (fun h6 => ?_) (fun h6 => ?_)
        · have hg : f = 5 → a3 = -1 ∨ ∃ u, u < nt ∧ a3 = nI u ∧ ¬ Rch (M 67) t u := fun q => Or.inl ((g5 q).resolve_right fun ⟨u, hu, e⟩ => by subst e; exact jI_nn (by omega) h6)
          refine x_aload_n hm rfl rfl ?_
          refine x_iload_n hm rfl rfl ?_
          refine x_iload_n hm rfl rfl ?_
          refine x_callS hm rfl rfl (t137) ?_
          refine x_iload_n hm rfl rfl ?_
          refine x_callV hm rfl rfl (t155 (by omega)) ?_
          refine x_iret hm rfl rfl (by first | rfl | exact bI_nar | decide) ?_
          first
            | exact ⟨_, _, rfl, rfl, r3.2.inv hI⟩
            | exact ⟨_, _, rfl, rfl, forge_inv hI hnt hn8 ht hf g0 g4 hg⟩
            | exact ⟨_, _, rfl, rfl, forge_inv hI hnt hn8 ht (by decide) (fun q => absurd q (by decide)) (fun q => absurd q (by decide)) hg⟩
            | exact ⟨_, _, rfl, rfl, r1.2.inv hI⟩
            | exact ⟨_, _, rfl, rfl, r2.2.inv hI⟩
            | exact ⟨_, _, rfl, rfl, r4.2.inv hI⟩
            | exact ⟨_, _, rfl, rfl, r5.2.inv hI⟩
            | exact ⟨_, _, rfl, rfl, r6.2.inv hI⟩
            | exact ⟨_, _, rfl, rfl, r7.2.inv hI⟩
            | exact ⟨_, _, rfl, rfl, r8.2.inv hI⟩
            | exact ⟨_, _, rfl, rfl, r9.2.inv hI⟩
            | exact ⟨_, _, rfl, rfl, r10.2.inv hI⟩
            | exact ⟨_, _, rfl, rfl, r11.2.inv hI⟩
        · obtain rfl : f = 5 := jI_inj (by omega) (by decide) (by assumption)
          obtain ⟨u, hu, rfl⟩ := (g5 rfl).resolve_left (fun e => by subst e; exact h6 (by decide))
          refine x_aload_n hm rfl rfl ?_
          refine x_iload_n hm rfl rfl ?_
          refine x_iload_n hm rfl rfl ?_
          refine x_cVe hm rfl rfl (t154 hI hnt hn8 hu (by omega)) (fun v7 r7 => ?_)
          refine x_if_eq hm rfl (t := 50) rfl (fun h8 => ?_) (fun h8 => ?_)
          · have hR : ¬ Rch (M 67) t u := by
              first
              | exact r1.2 (r1.1.resolve_right (fun e => by rw [e] at h8; exact absurd h8 (by decide)))
              | exact r2.2 (r2.1.resolve_right (fun e => by rw [e] at h8; exact absurd h8 (by decide)))
              | exact r3.2 (r3.1.resolve_right (fun e => by rw [e] at h8; exact absurd h8 (by decide)))
              | exact r4.2 (r4.1.resolve_right (fun e => by rw [e] at h8; exact absurd h8 (by decide)))
              | exact r5.2 (r5.1.resolve_right (fun e => by rw [e] at h8; exact absurd h8 (by decide)))
              | exact r6.2 (r6.1.resolve_right (fun e => by rw [e] at h8; exact absurd h8 (by decide)))
              | exact r7.2 (r7.1.resolve_right (fun e => by rw [e] at h8; exact absurd h8 (by decide)))
              | exact r8.2 (r8.1.resolve_right (fun e => by rw [e] at h8; exact absurd h8 (by decide)))
              | exact r9.2 (r9.1.resolve_right (fun e => by rw [e] at h8; exact absurd h8 (by decide)))
              | exact r10.2 (r10.1.resolve_right (fun e => by rw [e] at h8; exact absurd h8 (by decide)))
              | exact r11.2 (r11.1.resolve_right (fun e => by rw [e] at h8; exact absurd h8 (by decide)))
            have hg : (5 : Nat) = 5 → nI u = -1 ∨ ∃ w, w < nt ∧ nI u = nI w ∧ ¬ Rch (M 67) t w := fun _ => Or.inr ⟨u, hu, rfl, hR⟩
            refine x_aload_n hm rfl rfl ?_
            refine x_iload_n hm rfl rfl ?_
            refine x_iload_n hm rfl rfl ?_
            refine x_callS hm rfl rfl (t137) ?_
            refine x_iload_n hm rfl rfl ?_
            refine x_callV hm rfl rfl (t155 (by omega)) ?_
            refine x_iret hm rfl rfl (by first | rfl | exact bI_nar | decide) ?_
            first
              | exact ⟨_, _, rfl, rfl, r7.2.inv hI⟩
              | exact ⟨_, _, rfl, rfl, forge_inv hI hnt hn8 ht hf g0 g4 hg⟩
              | exact ⟨_, _, rfl, rfl, forge_inv hI hnt hn8 ht (by decide) (fun q => absurd q (by decide)) (fun q => absurd q (by decide)) hg⟩
              | exact ⟨_, _, rfl, rfl, r3.2.inv hI⟩
              | exact ⟨_, _, rfl, rfl, r1.2.inv hI⟩
              | exact ⟨_, _, rfl, rfl, r2.2.inv hI⟩
              | exact ⟨_, _, rfl, rfl, r4.2.inv hI⟩
              | exact ⟨_, _, rfl, rfl, r5.2.inv hI⟩
              | exact ⟨_, _, rfl, rfl, r6.2.inv hI⟩
              | exact ⟨_, _, rfl, rfl, r8.2.inv hI⟩
              | exact ⟨_, _, rfl, rfl, r9.2.inv hI⟩
              | exact ⟨_, _, rfl, rfl, r10.2.inv hI⟩
              | exact ⟨_, _, rfl, rfl, r11.2.inv hI⟩
          · refine x_aload_n hm rfl rfl ?_
            refine x_ldcI hm rfl (v := (-1000005 : Int32)) (by decide +kernel) ?_
            refine x_cVi hm rfl rfl (t135 (by decide +kernel)) (fun v9 M9 r9 => ?_)
            refine x_iret hm rfl rfl (by first | rfl | exact bI_nar | decide) ?_
            first
              | exact ⟨_, _, rfl, rfl, r9.2.inv hI⟩
              | exact ⟨_, _, rfl, rfl, forge_inv hI hnt hn8 ht hf g0 g4 hg⟩
              | exact ⟨_, _, rfl, rfl, forge_inv hI hnt hn8 ht (by decide) (fun q => absurd q (by decide)) (fun q => absurd q (by decide)) hg⟩
              | exact ⟨_, _, rfl, rfl, r3.2.inv hI⟩
              | exact ⟨_, _, rfl, rfl, r7.2.inv hI⟩
              | exact ⟨_, _, rfl, rfl, r1.2.inv hI⟩
              | exact ⟨_, _, rfl, rfl, r2.2.inv hI⟩
              | exact ⟨_, _, rfl, rfl, r4.2.inv hI⟩
              | exact ⟨_, _, rfl, rfl, r5.2.inv hI⟩
              | exact ⟨_, _, rfl, rfl, r6.2.inv hI⟩
              | exact ⟨_, _, rfl, rfl, r8.2.inv hI⟩
              | exact ⟨_, _, rfl, rfl, r10.2.inv hI⟩
              | exact ⟨_, _, rfl, rfl, r11.2.inv hI⟩
    · refine x_aload_n hm rfl rfl ?_
      refine x_ldcI hm rfl (v := (-1000001 : Int32)) (by decide +kernel) ?_
      refine x_cVi hm rfl rfl (t135 (by decide +kernel)) (fun v10 M10 r10 => ?_)
      refine x_iret hm rfl rfl (by first | rfl | exact bI_nar | decide) ?_
      first
        | exact ⟨_, _, rfl, rfl, r10.2.inv hI⟩
        | exact ⟨_, _, rfl, rfl, forge_inv hI hnt hn8 ht hf g0 g4 hg⟩
        | exact ⟨_, _, rfl, rfl, forge_inv hI hnt hn8 ht (by decide) (fun q => absurd q (by decide)) (fun q => absurd q (by decide)) hg⟩
        | exact ⟨_, _, rfl, rfl, r3.2.inv hI⟩
        | exact ⟨_, _, rfl, rfl, r1.2.inv hI⟩
        | exact ⟨_, _, rfl, rfl, r2.2.inv hI⟩
        | exact ⟨_, _, rfl, rfl, r4.2.inv hI⟩
        | exact ⟨_, _, rfl, rfl, r5.2.inv hI⟩
        | exact ⟨_, _, rfl, rfl, r6.2.inv hI⟩
        | exact ⟨_, _, rfl, rfl, r7.2.inv hI⟩
        | exact ⟨_, _, rfl, rfl, r8.2.inv hI⟩
        | exact ⟨_, _, rfl, rfl, r9.2.inv hI⟩
        | exact ⟨_, _, rfl, rfl, r11.2.inv hI⟩
end RJ
