/-! ===== the law ===== -/
section LW
variable {X : mSc}
theorem lg_self {x y : Int64} (h : x = y) : lg_cmp x y = 0 := by
  subst h
  exact (if_neg Int64.lt_irrefl).trans (if_pos rfl)
theorem sub6 {n i : Nat} (hn : n ≤ 3072) (hi : i ≤ 4000) (h : ¬ nI n - nI 6 < nI i) : i + 6 ≤ n := by
  rw [Int32.lt_iff_toInt_lt, Int32.toInt_sub, jI_int (by omega), jI_int (by decide), jI_int (by omega), Int.bmod_def] at h
  omega
theorem lw_0 {i : Nat} {M : mM} (hX : X.1 ≤ 3072) (h6 : i + 6 ≤ X.1) (hJ : J M) (hout : ∀ M, J M → mEv X (fun r D => r = some (.int (nI 1)) ∧ ∃ M, D = con M) 245 1719 [some (.ref 1000200), some (.ref 0), some (.ref 66), some (.int (nI i))] [] (con M)) : mEv X (fun r D => r = some (.int (nI 1)) ∧ ∃ M, D = con M) 245 248 [some (.ref 1000200), some (.ref 0), some (.ref 66), some (.int (nI i))] [] (con M) := by
  have hm : mMet 245 = some _ := rfl
  refine x_aload_n hm rfl rfl ?_
  refine x_aload_n hm rfl rfl ?_
  refine x_iload_n hm rfl rfl ?_
  refine x_iconst hm rfl (v := nI 1) (by decide) ?_
  refine x_iadd hm rfl ?_
  rw [jI_add]
  refine x_iald hm rfl (lX (by omega) hX) ?_
  refine x_aload_n hm rfl rfl ?_
  refine x_iload_n hm rfl rfl ?_
  refine x_iconst hm rfl (v := nI 2) (by decide) ?_
  refine x_iadd hm rfl ?_
  rw [jI_add]
  refine x_iald hm rfl (lX (by omega) hX) ?_
  obtain ⟨v1, M1, w1, M2, hc1, hc2, hJ2, he⟩ := j_thing (X := X) (a1 := X.2 (i + 1)) (a2 := X.2 (i + 2)) hJ
  refine x_callV hm rfl rfl hc1 ?_
  refine x_pop hm rfl rfl ?_
  refine x_aload_n hm rfl rfl ?_
  refine x_aload_n hm rfl rfl ?_
  refine x_iload_n hm rfl rfl ?_
  refine x_iconst hm rfl (v := nI 1) (by decide) ?_
  refine x_iadd hm rfl ?_
  rw [jI_add]
  refine x_iald hm rfl (lX (by omega) hX) ?_
  refine x_aload_n hm rfl rfl ?_
  refine x_iload_n hm rfl rfl ?_
  refine x_iconst hm rfl (v := nI 2) (by decide) ?_
  refine x_iadd hm rfl ?_
  rw [jI_add]
  refine x_iald hm rfl (lX (by omega) hX) ?_
  refine x_callV hm rfl rfl hc2 ?_
  refine x_pop hm rfl rfl ?_
  refine x_goto hm rfl (t := 1719) rfl ?_
  exact hout _ hJ2
theorem lw_1 {i : Nat} {M : mM} (hX : X.1 ≤ 3072) (h6 : i + 6 ≤ X.1) (hJ : J M) (hout : ∀ M, J M → mEv X (fun r D => r = some (.int (nI 1)) ∧ ∃ M, D = con M) 245 1719 [some (.ref 1000200), some (.ref 0), some (.ref 66), some (.int (nI i))] [] (con M)) : mEv X (fun r D => r = some (.int (nI 1)) ∧ ∃ M, D = con M) 245 281 [some (.ref 1000200), some (.ref 0), some (.ref 66), some (.int (nI i))] [] (con M) := by
  have hm : mMet 245 = some _ := rfl
  refine x_aload_n hm rfl rfl ?_
  refine x_aload_n hm rfl rfl ?_
  refine x_iload_n hm rfl rfl ?_
  refine x_iconst hm rfl (v := nI 1) (by decide) ?_
  refine x_iadd hm rfl ?_
  rw [jI_add]
  refine x_iald hm rfl (lX (by omega) hX) ?_
  refine x_aload_n hm rfl rfl ?_
  refine x_iload_n hm rfl rfl ?_
  refine x_iconst hm rfl (v := nI 2) (by decide) ?_
  refine x_iadd hm rfl ?_
  rw [jI_add]
  refine x_iald hm rfl (lX (by omega) hX) ?_
  obtain ⟨v1, M1, w1, M2, hc1, hc2, hJ2, he⟩ := j_thingOf (X := X) (a1 := X.2 (i + 1)) (a2 := X.2 (i + 2)) hJ
  refine x_callV hm rfl rfl hc1 ?_
  refine x_pop hm rfl rfl ?_
  refine x_aload_n hm rfl rfl ?_
  refine x_aload_n hm rfl rfl ?_
  refine x_iload_n hm rfl rfl ?_
  refine x_iconst hm rfl (v := nI 1) (by decide) ?_
  refine x_iadd hm rfl ?_
  rw [jI_add]
  refine x_iald hm rfl (lX (by omega) hX) ?_
  refine x_aload_n hm rfl rfl ?_
  refine x_iload_n hm rfl rfl ?_
  refine x_iconst hm rfl (v := nI 2) (by decide) ?_
  refine x_iadd hm rfl ?_
  rw [jI_add]
  refine x_iald hm rfl (lX (by omega) hX) ?_
  refine x_callV hm rfl rfl hc2 ?_
  refine x_pop hm rfl rfl ?_
  refine x_goto hm rfl (t := 1719) rfl ?_
  exact hout _ hJ2
theorem lw_2 {i : Nat} {M : mM} (hX : X.1 ≤ 3072) (h6 : i + 6 ≤ X.1) (hJ : J M) (hout : ∀ M, J M → mEv X (fun r D => r = some (.int (nI 1)) ∧ ∃ M, D = con M) 245 1719 [some (.ref 1000200), some (.ref 0), some (.ref 66), some (.int (nI i))] [] (con M)) : mEv X (fun r D => r = some (.int (nI 1)) ∧ ∃ M, D = con M) 245 314 [some (.ref 1000200), some (.ref 0), some (.ref 66), some (.int (nI i))] [] (con M) := by
  have hm : mMet 245 = some _ := rfl
  refine x_aload_n hm rfl rfl ?_
  refine x_aload_n hm rfl rfl ?_
  refine x_iload_n hm rfl rfl ?_
  refine x_iconst hm rfl (v := nI 1) (by decide) ?_
  refine x_iadd hm rfl ?_
  rw [jI_add]
  refine x_iald hm rfl (lX (by omega) hX) ?_
  refine x_aload_n hm rfl rfl ?_
  refine x_iload_n hm rfl rfl ?_
  refine x_iconst hm rfl (v := nI 2) (by decide) ?_
  refine x_iadd hm rfl ?_
  rw [jI_add]
  refine x_iald hm rfl (lX (by omega) hX) ?_
  refine x_aload_n hm rfl rfl ?_
  refine x_iload_n hm rfl rfl ?_
  refine x_iconst hm rfl (v := nI 3) (by decide) ?_
  refine x_iadd hm rfl ?_
  rw [jI_add]
  refine x_iald hm rfl (lX (by omega) hX) ?_
  obtain ⟨v1, M1, w1, M2, hc1, hc2, hJ2, he⟩ := j_forge (X := X) (a1 := X.2 (i + 1)) (a2 := X.2 (i + 2)) (a3 := X.2 (i + 3)) hJ
  refine x_callV hm rfl rfl hc1 ?_
  refine x_pop hm rfl rfl ?_
  refine x_aload_n hm rfl rfl ?_
  refine x_aload_n hm rfl rfl ?_
  refine x_iload_n hm rfl rfl ?_
  refine x_iconst hm rfl (v := nI 1) (by decide) ?_
  refine x_iadd hm rfl ?_
  rw [jI_add]
  refine x_iald hm rfl (lX (by omega) hX) ?_
  refine x_aload_n hm rfl rfl ?_
  refine x_iload_n hm rfl rfl ?_
  refine x_iconst hm rfl (v := nI 2) (by decide) ?_
  refine x_iadd hm rfl ?_
  rw [jI_add]
  refine x_iald hm rfl (lX (by omega) hX) ?_
  refine x_aload_n hm rfl rfl ?_
  refine x_iload_n hm rfl rfl ?_
  refine x_iconst hm rfl (v := nI 3) (by decide) ?_
  refine x_iadd hm rfl ?_
  rw [jI_add]
  refine x_iald hm rfl (lX (by omega) hX) ?_
  refine x_callV hm rfl rfl hc2 ?_
  refine x_pop hm rfl rfl ?_
  refine x_goto hm rfl (t := 1719) rfl ?_
  exact hout _ hJ2
theorem lw_3 {i : Nat} {M : mM} (hX : X.1 ≤ 3072) (h6 : i + 6 ≤ X.1) (hJ : J M) (hout : ∀ M, J M → mEv X (fun r D => r = some (.int (nI 1)) ∧ ∃ M, D = con M) 245 1719 [some (.ref 1000200), some (.ref 0), some (.ref 66), some (.int (nI i))] [] (con M)) : mEv X (fun r D => r = some (.int (nI 1)) ∧ ∃ M, D = con M) 245 357 [some (.ref 1000200), some (.ref 0), some (.ref 66), some (.int (nI i))] [] (con M) := by
  have hm : mMet 245 = some _ := rfl
  refine x_aload_n hm rfl rfl ?_
  refine x_aload_n hm rfl rfl ?_
  refine x_iload_n hm rfl rfl ?_
  refine x_iconst hm rfl (v := nI 1) (by decide) ?_
  refine x_iadd hm rfl ?_
  rw [jI_add]
  refine x_iald hm rfl (lX (by omega) hX) ?_
  refine x_aload_n hm rfl rfl ?_
  refine x_iload_n hm rfl rfl ?_
  refine x_iconst hm rfl (v := nI 2) (by decide) ?_
  refine x_iadd hm rfl ?_
  rw [jI_add]
  refine x_iald hm rfl (lX (by omega) hX) ?_
  obtain ⟨v1, M1, w1, M2, hc1, hc2, hJ2, he⟩ := j_person (X := X) (a1 := X.2 (i + 1)) (a2 := X.2 (i + 2)) hJ
  refine x_callV hm rfl rfl hc1 ?_
  refine x_pop hm rfl rfl ?_
  refine x_aload_n hm rfl rfl ?_
  refine x_aload_n hm rfl rfl ?_
  refine x_iload_n hm rfl rfl ?_
  refine x_iconst hm rfl (v := nI 1) (by decide) ?_
  refine x_iadd hm rfl ?_
  rw [jI_add]
  refine x_iald hm rfl (lX (by omega) hX) ?_
  refine x_aload_n hm rfl rfl ?_
  refine x_iload_n hm rfl rfl ?_
  refine x_iconst hm rfl (v := nI 2) (by decide) ?_
  refine x_iadd hm rfl ?_
  rw [jI_add]
  refine x_iald hm rfl (lX (by omega) hX) ?_
  refine x_callV hm rfl rfl hc2 ?_
  refine x_pop hm rfl rfl ?_
  refine x_goto hm rfl (t := 1719) rfl ?_
  exact hout _ hJ2
theorem lw_4 {i : Nat} {M : mM} (hX : X.1 ≤ 3072) (h6 : i + 6 ≤ X.1) (hJ : J M) (hout : ∀ M, J M → mEv X (fun r D => r = some (.int (nI 1)) ∧ ∃ M, D = con M) 245 1719 [some (.ref 1000200), some (.ref 0), some (.ref 66), some (.int (nI i))] [] (con M)) : mEv X (fun r D => r = some (.int (nI 1)) ∧ ∃ M, D = con M) 245 390 [some (.ref 1000200), some (.ref 0), some (.ref 66), some (.int (nI i))] [] (con M) := by
  have hm : mMet 245 = some _ := rfl
  refine x_aload_n hm rfl rfl ?_
  refine x_aload_n hm rfl rfl ?_
  refine x_iload_n hm rfl rfl ?_
  refine x_iconst hm rfl (v := nI 1) (by decide) ?_
  refine x_iadd hm rfl ?_
  rw [jI_add]
  refine x_iald hm rfl (lX (by omega) hX) ?_
  refine x_aload_n hm rfl rfl ?_
  refine x_iload_n hm rfl rfl ?_
  refine x_iconst hm rfl (v := nI 2) (by decide) ?_
  refine x_iadd hm rfl ?_
  rw [jI_add]
  refine x_iald hm rfl (lX (by omega) hX) ?_
  obtain ⟨v1, M1, w1, M2, hc1, hc2, hJ2, he⟩ := j_of (X := X) (a1 := X.2 (i + 1)) (a2 := X.2 (i + 2)) hJ
  refine x_callV hm rfl rfl hc1 ?_
  refine x_pop hm rfl rfl ?_
  refine x_aload_n hm rfl rfl ?_
  refine x_aload_n hm rfl rfl ?_
  refine x_iload_n hm rfl rfl ?_
  refine x_iconst hm rfl (v := nI 1) (by decide) ?_
  refine x_iadd hm rfl ?_
  rw [jI_add]
  refine x_iald hm rfl (lX (by omega) hX) ?_
  refine x_aload_n hm rfl rfl ?_
  refine x_iload_n hm rfl rfl ?_
  refine x_iconst hm rfl (v := nI 2) (by decide) ?_
  refine x_iadd hm rfl ?_
  rw [jI_add]
  refine x_iald hm rfl (lX (by omega) hX) ?_
  refine x_callV hm rfl rfl hc2 ?_
  refine x_pop hm rfl rfl ?_
  refine x_goto hm rfl (t := 1719) rfl ?_
  exact hout _ hJ2
theorem lw_5 {i : Nat} {M : mM} (hX : X.1 ≤ 3072) (h6 : i + 6 ≤ X.1) (hJ : J M) (hout : ∀ M, J M → mEv X (fun r D => r = some (.int (nI 1)) ∧ ∃ M, D = con M) 245 1719 [some (.ref 1000200), some (.ref 0), some (.ref 66), some (.int (nI i))] [] (con M)) : mEv X (fun r D => r = some (.int (nI 1)) ∧ ∃ M, D = con M) 245 423 [some (.ref 1000200), some (.ref 0), some (.ref 66), some (.int (nI i))] [] (con M) := by
  have hm : mMet 245 = some _ := rfl
  refine x_aload_n hm rfl rfl ?_
  refine x_aload_n hm rfl rfl ?_
  refine x_iload_n hm rfl rfl ?_
  refine x_iconst hm rfl (v := nI 1) (by decide) ?_
  refine x_iadd hm rfl ?_
  rw [jI_add]
  refine x_iald hm rfl (lX (by omega) hX) ?_
  refine x_aload_n hm rfl rfl ?_
  refine x_iload_n hm rfl rfl ?_
  refine x_iconst hm rfl (v := nI 2) (by decide) ?_
  refine x_iadd hm rfl ?_
  rw [jI_add]
  refine x_iald hm rfl (lX (by omega) hX) ?_
  refine x_aload_n hm rfl rfl ?_
  refine x_iload_n hm rfl rfl ?_
  refine x_iconst hm rfl (v := nI 3) (by decide) ?_
  refine x_iadd hm rfl ?_
  rw [jI_add]
  refine x_iald hm rfl (lX (by omega) hX) ?_
  obtain ⟨v1, M1, w1, M2, hc1, hc2, hJ2, he⟩ := j_change (X := X) (a1 := X.2 (i + 1)) (a2 := X.2 (i + 2)) (a3 := X.2 (i + 3)) hJ
  refine x_callV hm rfl rfl hc1 ?_
  refine x_pop hm rfl rfl ?_
  refine x_aload_n hm rfl rfl ?_
  refine x_aload_n hm rfl rfl ?_
  refine x_iload_n hm rfl rfl ?_
  refine x_iconst hm rfl (v := nI 1) (by decide) ?_
  refine x_iadd hm rfl ?_
  rw [jI_add]
  refine x_iald hm rfl (lX (by omega) hX) ?_
  refine x_aload_n hm rfl rfl ?_
  refine x_iload_n hm rfl rfl ?_
  refine x_iconst hm rfl (v := nI 2) (by decide) ?_
  refine x_iadd hm rfl ?_
  rw [jI_add]
  refine x_iald hm rfl (lX (by omega) hX) ?_
  refine x_aload_n hm rfl rfl ?_
  refine x_iload_n hm rfl rfl ?_
  refine x_iconst hm rfl (v := nI 3) (by decide) ?_
  refine x_iadd hm rfl ?_
  rw [jI_add]
  refine x_iald hm rfl (lX (by omega) hX) ?_
  refine x_callV hm rfl rfl hc2 ?_
  refine x_pop hm rfl rfl ?_
  refine x_goto hm rfl (t := 1719) rfl ?_
  exact hout _ hJ2
theorem lw_6 {i : Nat} {M : mM} (hX : X.1 ≤ 3072) (h6 : i + 6 ≤ X.1) (hJ : J M) (hout : ∀ M, J M → mEv X (fun r D => r = some (.int (nI 1)) ∧ ∃ M, D = con M) 245 1719 [some (.ref 1000200), some (.ref 0), some (.ref 66), some (.int (nI i))] [] (con M)) : mEv X (fun r D => r = some (.int (nI 1)) ∧ ∃ M, D = con M) 245 466 [some (.ref 1000200), some (.ref 0), some (.ref 66), some (.int (nI i))] [] (con M) := by
  have hm : mMet 245 = some _ := rfl
  refine x_aload_n hm rfl rfl ?_
  refine x_aload_n hm rfl rfl ?_
  refine x_iload_n hm rfl rfl ?_
  refine x_iconst hm rfl (v := nI 1) (by decide) ?_
  refine x_iadd hm rfl ?_
  rw [jI_add]
  refine x_iald hm rfl (lX (by omega) hX) ?_
  refine x_aload_n hm rfl rfl ?_
  refine x_iload_n hm rfl rfl ?_
  refine x_iconst hm rfl (v := nI 2) (by decide) ?_
  refine x_iadd hm rfl ?_
  rw [jI_add]
  refine x_iald hm rfl (lX (by omega) hX) ?_
  obtain ⟨v1, M1, w1, M2, hc1, hc2, hJ2, he⟩ := j_envy (X := X) (a1 := X.2 (i + 1)) (a2 := X.2 (i + 2)) hJ
  refine x_callV hm rfl rfl hc1 ?_
  refine x_pop hm rfl rfl ?_
  refine x_aload_n hm rfl rfl ?_
  refine x_aload_n hm rfl rfl ?_
  refine x_iload_n hm rfl rfl ?_
  refine x_iconst hm rfl (v := nI 1) (by decide) ?_
  refine x_iadd hm rfl ?_
  rw [jI_add]
  refine x_iald hm rfl (lX (by omega) hX) ?_
  refine x_aload_n hm rfl rfl ?_
  refine x_iload_n hm rfl rfl ?_
  refine x_iconst hm rfl (v := nI 2) (by decide) ?_
  refine x_iadd hm rfl ?_
  rw [jI_add]
  refine x_iald hm rfl (lX (by omega) hX) ?_
  refine x_callV hm rfl rfl hc2 ?_
  refine x_pop hm rfl rfl ?_
  refine x_goto hm rfl (t := 1719) rfl ?_
  exact hout _ hJ2
theorem lw_7 {i : Nat} {M : mM} (hX : X.1 ≤ 3072) (h6 : i + 6 ≤ X.1) (hJ : J M) (hout : ∀ M, J M → mEv X (fun r D => r = some (.int (nI 1)) ∧ ∃ M, D = con M) 245 1719 [some (.ref 1000200), some (.ref 0), some (.ref 66), some (.int (nI i))] [] (con M)) : mEv X (fun r D => r = some (.int (nI 1)) ∧ ∃ M, D = con M) 245 499 [some (.ref 1000200), some (.ref 0), some (.ref 66), some (.int (nI i))] [] (con M) := by
  have hm : mMet 245 = some _ := rfl
  refine x_aload_n hm rfl rfl ?_
  refine x_aload_n hm rfl rfl ?_
  refine x_iload_n hm rfl rfl ?_
  refine x_iconst hm rfl (v := nI 1) (by decide) ?_
  refine x_iadd hm rfl ?_
  rw [jI_add]
  refine x_iald hm rfl (lX (by omega) hX) ?_
  obtain ⟨v1, M1, w1, M2, hc1, hc2, hJ2, he⟩ := j_go (X := X) (a1 := X.2 (i + 1)) hJ
  refine x_callV hm rfl rfl hc1 ?_
  refine x_pop hm rfl rfl ?_
  refine x_aload_n hm rfl rfl ?_
  refine x_aload_n hm rfl rfl ?_
  refine x_iload_n hm rfl rfl ?_
  refine x_iconst hm rfl (v := nI 1) (by decide) ?_
  refine x_iadd hm rfl ?_
  rw [jI_add]
  refine x_iald hm rfl (lX (by omega) hX) ?_
  refine x_callV hm rfl rfl hc2 ?_
  refine x_pop hm rfl rfl ?_
  refine x_goto hm rfl (t := 1719) rfl ?_
  exact hout _ hJ2
theorem lw_8 {i : Nat} {M : mM} (hX : X.1 ≤ 3072) (h6 : i + 6 ≤ X.1) (hJ : J M) (hout : ∀ M, J M → mEv X (fun r D => r = some (.int (nI 1)) ∧ ∃ M, D = con M) 245 1719 [some (.ref 1000200), some (.ref 0), some (.ref 66), some (.int (nI i))] [] (con M)) : mEv X (fun r D => r = some (.int (nI 1)) ∧ ∃ M, D = con M) 245 522 [some (.ref 1000200), some (.ref 0), some (.ref 66), some (.int (nI i))] [] (con M) := by
  have hm : mMet 245 = some _ := rfl
  refine x_aload_n hm rfl rfl ?_
  refine x_aload_n hm rfl rfl ?_
  refine x_iload_n hm rfl rfl ?_
  refine x_iconst hm rfl (v := nI 1) (by decide) ?_
  refine x_iadd hm rfl ?_
  rw [jI_add]
  refine x_iald hm rfl (lX (by omega) hX) ?_
  obtain ⟨v1, M1, w1, M2, hc1, hc2, hJ2, he⟩ := a_now (X := X) (a1 := X.2 (i + 1)) hJ
  refine x_callV hm rfl rfl hc1 ?_
  refine x_pop hm rfl rfl ?_
  refine x_aload_n hm rfl rfl ?_
  refine x_aload_n hm rfl rfl ?_
  refine x_iload_n hm rfl rfl ?_
  refine x_iconst hm rfl (v := nI 1) (by decide) ?_
  refine x_iadd hm rfl ?_
  rw [jI_add]
  refine x_iald hm rfl (lX (by omega) hX) ?_
  refine x_callV hm rfl rfl hc2 ?_
  refine x_pop hm rfl rfl ?_
  refine x_goto hm rfl (t := 1719) rfl ?_
  exact hout _ hJ2
theorem lw_9 {i : Nat} {M : mM} (hX : X.1 ≤ 3072) (h6 : i + 6 ≤ X.1) (hJ : J M) (hout : ∀ M, J M → mEv X (fun r D => r = some (.int (nI 1)) ∧ ∃ M, D = con M) 245 1719 [some (.ref 1000200), some (.ref 0), some (.ref 66), some (.int (nI i))] [] (con M)) : mEv X (fun r D => r = some (.int (nI 1)) ∧ ∃ M, D = con M) 245 545 [some (.ref 1000200), some (.ref 0), some (.ref 66), some (.int (nI i))] [] (con M) := by
  have hm : mMet 245 = some _ := rfl
  refine x_aload_n hm rfl rfl ?_
  refine x_aload_n hm rfl rfl ?_
  refine x_iload_n hm rfl rfl ?_
  refine x_iconst hm rfl (v := nI 1) (by decide) ?_
  refine x_iadd hm rfl ?_
  rw [jI_add]
  refine x_iald hm rfl (lX (by omega) hX) ?_
  refine x_aload_n hm rfl rfl ?_
  refine x_iload_n hm rfl rfl ?_
  refine x_iconst hm rfl (v := nI 2) (by decide) ?_
  refine x_iadd hm rfl ?_
  rw [jI_add]
  refine x_iald hm rfl (lX (by omega) hX) ?_
  obtain ⟨v1, M1, w1, M2, hc1, hc2, hJ2, he⟩ := a_ahead (X := X) (a1 := X.2 (i + 1)) (a2 := X.2 (i + 2)) hJ
  refine x_callV hm rfl rfl hc1 ?_
  refine x_pop hm rfl rfl ?_
  refine x_aload_n hm rfl rfl ?_
  refine x_aload_n hm rfl rfl ?_
  refine x_iload_n hm rfl rfl ?_
  refine x_iconst hm rfl (v := nI 1) (by decide) ?_
  refine x_iadd hm rfl ?_
  rw [jI_add]
  refine x_iald hm rfl (lX (by omega) hX) ?_
  refine x_aload_n hm rfl rfl ?_
  refine x_iload_n hm rfl rfl ?_
  refine x_iconst hm rfl (v := nI 2) (by decide) ?_
  refine x_iadd hm rfl ?_
  rw [jI_add]
  refine x_iald hm rfl (lX (by omega) hX) ?_
  refine x_callV hm rfl rfl hc2 ?_
  refine x_pop hm rfl rfl ?_
  refine x_goto hm rfl (t := 1719) rfl ?_
  exact hout _ hJ2
theorem lw_10 {i : Nat} {M : mM} (hX : X.1 ≤ 3072) (h6 : i + 6 ≤ X.1) (hJ : J M) (hout : ∀ M, J M → mEv X (fun r D => r = some (.int (nI 1)) ∧ ∃ M, D = con M) 245 1719 [some (.ref 1000200), some (.ref 0), some (.ref 66), some (.int (nI i))] [] (con M)) : mEv X (fun r D => r = some (.int (nI 1)) ∧ ∃ M, D = con M) 245 578 [some (.ref 1000200), some (.ref 0), some (.ref 66), some (.int (nI i))] [] (con M) := by
  have hm : mMet 245 = some _ := rfl
  refine x_aload_n hm rfl rfl ?_
  refine x_aload_n hm rfl rfl ?_
  refine x_iload_n hm rfl rfl ?_
  refine x_iconst hm rfl (v := nI 1) (by decide) ?_
  refine x_iadd hm rfl ?_
  rw [jI_add]
  refine x_iald hm rfl (lX (by omega) hX) ?_
  obtain ⟨v1, M1, w1, M2, hc1, hc2, hJ2, he⟩ := a_lasts (X := X) (a1 := X.2 (i + 1)) hJ
  refine x_callV hm rfl rfl hc1 ?_
  refine x_pop hm rfl rfl ?_
  refine x_aload_n hm rfl rfl ?_
  refine x_aload_n hm rfl rfl ?_
  refine x_iload_n hm rfl rfl ?_
  refine x_iconst hm rfl (v := nI 1) (by decide) ?_
  refine x_iadd hm rfl ?_
  rw [jI_add]
  refine x_iald hm rfl (lX (by omega) hX) ?_
  refine x_callV hm rfl rfl hc2 ?_
  refine x_pop hm rfl rfl ?_
  refine x_goto hm rfl (t := 1719) rfl ?_
  exact hout _ hJ2
theorem lw_11 {i : Nat} {M : mM} (hX : X.1 ≤ 3072) (h6 : i + 6 ≤ X.1) (hJ : J M) (hout : ∀ M, J M → mEv X (fun r D => r = some (.int (nI 1)) ∧ ∃ M, D = con M) 245 1719 [some (.ref 1000200), some (.ref 0), some (.ref 66), some (.int (nI i))] [] (con M)) : mEv X (fun r D => r = some (.int (nI 1)) ∧ ∃ M, D = con M) 245 601 [some (.ref 1000200), some (.ref 0), some (.ref 66), some (.int (nI i))] [] (con M) := by
  have hm : mMet 245 = some _ := rfl
  refine x_aload_n hm rfl rfl ?_
  refine x_aload_n hm rfl rfl ?_
  refine x_iload_n hm rfl rfl ?_
  refine x_iconst hm rfl (v := nI 1) (by decide) ?_
  refine x_iadd hm rfl ?_
  rw [jI_add]
  refine x_iald hm rfl (lX (by omega) hX) ?_
  obtain ⟨v1, M1, w1, M2, hc1, hc2, hJ2, he⟩ := a_gone (X := X) (a1 := X.2 (i + 1)) hJ
  refine x_callV hm rfl rfl hc1 ?_
  refine x_pop hm rfl rfl ?_
  refine x_aload_n hm rfl rfl ?_
  refine x_aload_n hm rfl rfl ?_
  refine x_iload_n hm rfl rfl ?_
  refine x_iconst hm rfl (v := nI 1) (by decide) ?_
  refine x_iadd hm rfl ?_
  rw [jI_add]
  refine x_iald hm rfl (lX (by omega) hX) ?_
  refine x_callV hm rfl rfl hc2 ?_
  refine x_pop hm rfl rfl ?_
  refine x_goto hm rfl (t := 1719) rfl ?_
  exact hout _ hJ2
theorem lw_12 {i : Nat} {M : mM} (hX : X.1 ≤ 3072) (h6 : i + 6 ≤ X.1) (hJ : J M) (hout : ∀ M, J M → mEv X (fun r D => r = some (.int (nI 1)) ∧ ∃ M, D = con M) 245 1719 [some (.ref 1000200), some (.ref 0), some (.ref 66), some (.int (nI i))] [] (con M)) : mEv X (fun r D => r = some (.int (nI 1)) ∧ ∃ M, D = con M) 245 624 [some (.ref 1000200), some (.ref 0), some (.ref 66), some (.int (nI i))] [] (con M) := by
  have hm : mMet 245 = some _ := rfl
  refine x_aload_n hm rfl rfl ?_
  refine x_aload_n hm rfl rfl ?_
  refine x_iload_n hm rfl rfl ?_
  refine x_iconst hm rfl (v := nI 1) (by decide) ?_
  refine x_iadd hm rfl ?_
  rw [jI_add]
  refine x_iald hm rfl (lX (by omega) hX) ?_
  obtain ⟨v1, M1, w1, M2, hc1, hc2, hJ2, he⟩ := a_worn (X := X) (a1 := X.2 (i + 1)) hJ
  refine x_callV hm rfl rfl hc1 ?_
  refine x_pop hm rfl rfl ?_
  refine x_aload_n hm rfl rfl ?_
  refine x_aload_n hm rfl rfl ?_
  refine x_iload_n hm rfl rfl ?_
  refine x_iconst hm rfl (v := nI 1) (by decide) ?_
  refine x_iadd hm rfl ?_
  rw [jI_add]
  refine x_iald hm rfl (lX (by omega) hX) ?_
  refine x_callV hm rfl rfl hc2 ?_
  refine x_pop hm rfl rfl ?_
  refine x_goto hm rfl (t := 1719) rfl ?_
  exact hout _ hJ2
theorem lw_13 {i : Nat} {M : mM} (hX : X.1 ≤ 3072) (h6 : i + 6 ≤ X.1) (hJ : J M) (hout : ∀ M, J M → mEv X (fun r D => r = some (.int (nI 1)) ∧ ∃ M, D = con M) 245 1719 [some (.ref 1000200), some (.ref 0), some (.ref 66), some (.int (nI i))] [] (con M)) : mEv X (fun r D => r = some (.int (nI 1)) ∧ ∃ M, D = con M) 245 647 [some (.ref 1000200), some (.ref 0), some (.ref 66), some (.int (nI i))] [] (con M) := by
  have hm : mMet 245 = some _ := rfl
  refine x_aload_n hm rfl rfl ?_
  refine x_aload_n hm rfl rfl ?_
  refine x_iload_n hm rfl rfl ?_
  refine x_iconst hm rfl (v := nI 1) (by decide) ?_
  refine x_iadd hm rfl ?_
  rw [jI_add]
  refine x_iald hm rfl (lX (by omega) hX) ?_
  refine x_aload_n hm rfl rfl ?_
  refine x_iload_n hm rfl rfl ?_
  refine x_iconst hm rfl (v := nI 2) (by decide) ?_
  refine x_iadd hm rfl ?_
  rw [jI_add]
  refine x_iald hm rfl (lX (by omega) hX) ?_
  obtain ⟨v1, M1, w1, M2, hc1, hc2, hJ2, he⟩ := a_sees (X := X) (a1 := X.2 (i + 1)) (a2 := X.2 (i + 2)) hJ
  refine x_callV hm rfl rfl hc1 ?_
  refine x_pop hm rfl rfl ?_
  refine x_aload_n hm rfl rfl ?_
  refine x_aload_n hm rfl rfl ?_
  refine x_iload_n hm rfl rfl ?_
  refine x_iconst hm rfl (v := nI 1) (by decide) ?_
  refine x_iadd hm rfl ?_
  rw [jI_add]
  refine x_iald hm rfl (lX (by omega) hX) ?_
  refine x_aload_n hm rfl rfl ?_
  refine x_iload_n hm rfl rfl ?_
  refine x_iconst hm rfl (v := nI 2) (by decide) ?_
  refine x_iadd hm rfl ?_
  rw [jI_add]
  refine x_iald hm rfl (lX (by omega) hX) ?_
  refine x_callV hm rfl rfl hc2 ?_
  refine x_pop hm rfl rfl ?_
  refine x_goto hm rfl (t := 1719) rfl ?_
  exact hout _ hJ2
theorem lw_14 {i : Nat} {M : mM} (hX : X.1 ≤ 3072) (h6 : i + 6 ≤ X.1) (hJ : J M) (hout : ∀ M, J M → mEv X (fun r D => r = some (.int (nI 1)) ∧ ∃ M, D = con M) 245 1719 [some (.ref 1000200), some (.ref 0), some (.ref 66), some (.int (nI i))] [] (con M)) : mEv X (fun r D => r = some (.int (nI 1)) ∧ ∃ M, D = con M) 245 680 [some (.ref 1000200), some (.ref 0), some (.ref 66), some (.int (nI i))] [] (con M) := by
  have hm : mMet 245 = some _ := rfl
  refine x_aload_n hm rfl rfl ?_
  refine x_aload_n hm rfl rfl ?_
  refine x_iload_n hm rfl rfl ?_
  refine x_iconst hm rfl (v := nI 1) (by decide) ?_
  refine x_iadd hm rfl ?_
  rw [jI_add]
  refine x_iald hm rfl (lX (by omega) hX) ?_
  refine x_aload_n hm rfl rfl ?_
  refine x_iload_n hm rfl rfl ?_
  refine x_iconst hm rfl (v := nI 2) (by decide) ?_
  refine x_iadd hm rfl ?_
  rw [jI_add]
  refine x_iald hm rfl (lX (by omega) hX) ?_
  obtain ⟨v1, M1, w1, M2, hc1, hc2, hJ2, he⟩ := a_kindFor (X := X) (a1 := X.2 (i + 1)) (a2 := X.2 (i + 2)) hJ
  refine x_callV hm rfl rfl hc1 ?_
  refine x_pop hm rfl rfl ?_
  refine x_aload_n hm rfl rfl ?_
  refine x_aload_n hm rfl rfl ?_
  refine x_iload_n hm rfl rfl ?_
  refine x_iconst hm rfl (v := nI 1) (by decide) ?_
  refine x_iadd hm rfl ?_
  rw [jI_add]
  refine x_iald hm rfl (lX (by omega) hX) ?_
  refine x_aload_n hm rfl rfl ?_
  refine x_iload_n hm rfl rfl ?_
  refine x_iconst hm rfl (v := nI 2) (by decide) ?_
  refine x_iadd hm rfl ?_
  rw [jI_add]
  refine x_iald hm rfl (lX (by omega) hX) ?_
  refine x_callV hm rfl rfl hc2 ?_
  refine x_pop hm rfl rfl ?_
  refine x_goto hm rfl (t := 1719) rfl ?_
  exact hout _ hJ2
theorem lw_15 {i : Nat} {M : mM} (hX : X.1 ≤ 3072) (h6 : i + 6 ≤ X.1) (hJ : J M) (hout : ∀ M, J M → mEv X (fun r D => r = some (.int (nI 1)) ∧ ∃ M, D = con M) 245 1719 [some (.ref 1000200), some (.ref 0), some (.ref 66), some (.int (nI i))] [] (con M)) : mEv X (fun r D => r = some (.int (nI 1)) ∧ ∃ M, D = con M) 245 713 [some (.ref 1000200), some (.ref 0), some (.ref 66), some (.int (nI i))] [] (con M) := by
  have hm : mMet 245 = some _ := rfl
  refine x_aload_n hm rfl rfl ?_
  refine x_aload_n hm rfl rfl ?_
  refine x_iload_n hm rfl rfl ?_
  refine x_iconst hm rfl (v := nI 1) (by decide) ?_
  refine x_iadd hm rfl ?_
  rw [jI_add]
  refine x_iald hm rfl (lX (by omega) hX) ?_
  refine x_aload_n hm rfl rfl ?_
  refine x_iload_n hm rfl rfl ?_
  refine x_iconst hm rfl (v := nI 2) (by decide) ?_
  refine x_iadd hm rfl ?_
  rw [jI_add]
  refine x_iald hm rfl (lX (by omega) hX) ?_
  obtain ⟨v1, M1, w1, M2, hc1, hc2, hJ2, he⟩ := a_walkFor (X := X) (a1 := X.2 (i + 1)) (a2 := X.2 (i + 2)) hJ
  refine x_callV hm rfl rfl hc1 ?_
  refine x_pop hm rfl rfl ?_
  refine x_aload_n hm rfl rfl ?_
  refine x_aload_n hm rfl rfl ?_
  refine x_iload_n hm rfl rfl ?_
  refine x_iconst hm rfl (v := nI 1) (by decide) ?_
  refine x_iadd hm rfl ?_
  rw [jI_add]
  refine x_iald hm rfl (lX (by omega) hX) ?_
  refine x_aload_n hm rfl rfl ?_
  refine x_iload_n hm rfl rfl ?_
  refine x_iconst hm rfl (v := nI 2) (by decide) ?_
  refine x_iadd hm rfl ?_
  rw [jI_add]
  refine x_iald hm rfl (lX (by omega) hX) ?_
  refine x_callV hm rfl rfl hc2 ?_
  refine x_pop hm rfl rfl ?_
  refine x_goto hm rfl (t := 1719) rfl ?_
  exact hout _ hJ2
theorem lw_16 {i : Nat} {M : mM} (hX : X.1 ≤ 3072) (h6 : i + 6 ≤ X.1) (hJ : J M) (hout : ∀ M, J M → mEv X (fun r D => r = some (.int (nI 1)) ∧ ∃ M, D = con M) 245 1719 [some (.ref 1000200), some (.ref 0), some (.ref 66), some (.int (nI i))] [] (con M)) : mEv X (fun r D => r = some (.int (nI 1)) ∧ ∃ M, D = con M) 245 746 [some (.ref 1000200), some (.ref 0), some (.ref 66), some (.int (nI i))] [] (con M) := by
  have hm : mMet 245 = some _ := rfl
  refine x_aload_n hm rfl rfl ?_
  refine x_aload_n hm rfl rfl ?_
  refine x_iload_n hm rfl rfl ?_
  refine x_iconst hm rfl (v := nI 1) (by decide) ?_
  refine x_iadd hm rfl ?_
  rw [jI_add]
  refine x_iald hm rfl (lX (by omega) hX) ?_
  refine x_aload_n hm rfl rfl ?_
  refine x_iload_n hm rfl rfl ?_
  refine x_iconst hm rfl (v := nI 2) (by decide) ?_
  refine x_iadd hm rfl ?_
  rw [jI_add]
  refine x_iald hm rfl (lX (by omega) hX) ?_
  obtain ⟨v1, M1, w1, M2, hc1, hc2, hJ2, he⟩ := a_placeFor (X := X) (a1 := X.2 (i + 1)) (a2 := X.2 (i + 2)) hJ
  refine x_callV hm rfl rfl hc1 ?_
  refine x_pop hm rfl rfl ?_
  refine x_aload_n hm rfl rfl ?_
  refine x_aload_n hm rfl rfl ?_
  refine x_iload_n hm rfl rfl ?_
  refine x_iconst hm rfl (v := nI 1) (by decide) ?_
  refine x_iadd hm rfl ?_
  rw [jI_add]
  refine x_iald hm rfl (lX (by omega) hX) ?_
  refine x_aload_n hm rfl rfl ?_
  refine x_iload_n hm rfl rfl ?_
  refine x_iconst hm rfl (v := nI 2) (by decide) ?_
  refine x_iadd hm rfl ?_
  rw [jI_add]
  refine x_iald hm rfl (lX (by omega) hX) ?_
  refine x_callV hm rfl rfl hc2 ?_
  refine x_pop hm rfl rfl ?_
  refine x_goto hm rfl (t := 1719) rfl ?_
  exact hout _ hJ2
theorem lw_17 {i : Nat} {M : mM} (hX : X.1 ≤ 3072) (h6 : i + 6 ≤ X.1) (hJ : J M) (hout : ∀ M, J M → mEv X (fun r D => r = some (.int (nI 1)) ∧ ∃ M, D = con M) 245 1719 [some (.ref 1000200), some (.ref 0), some (.ref 66), some (.int (nI i))] [] (con M)) : mEv X (fun r D => r = some (.int (nI 1)) ∧ ∃ M, D = con M) 245 779 [some (.ref 1000200), some (.ref 0), some (.ref 66), some (.int (nI i))] [] (con M) := by
  have hm : mMet 245 = some _ := rfl
  refine x_aload_n hm rfl rfl ?_
  refine x_aload_n hm rfl rfl ?_
  refine x_iload_n hm rfl rfl ?_
  refine x_iconst hm rfl (v := nI 1) (by decide) ?_
  refine x_iadd hm rfl ?_
  rw [jI_add]
  refine x_iald hm rfl (lX (by omega) hX) ?_
  refine x_aload_n hm rfl rfl ?_
  refine x_iload_n hm rfl rfl ?_
  refine x_iconst hm rfl (v := nI 2) (by decide) ?_
  refine x_iadd hm rfl ?_
  rw [jI_add]
  refine x_iald hm rfl (lX (by omega) hX) ?_
  obtain ⟨v1, M1, w1, M2, hc1, hc2, hJ2, he⟩ := a_ownerFor (X := X) (a1 := X.2 (i + 1)) (a2 := X.2 (i + 2)) hJ
  refine x_callV hm rfl rfl hc1 ?_
  refine x_pop hm rfl rfl ?_
  refine x_aload_n hm rfl rfl ?_
  refine x_aload_n hm rfl rfl ?_
  refine x_iload_n hm rfl rfl ?_
  refine x_iconst hm rfl (v := nI 1) (by decide) ?_
  refine x_iadd hm rfl ?_
  rw [jI_add]
  refine x_iald hm rfl (lX (by omega) hX) ?_
  refine x_aload_n hm rfl rfl ?_
  refine x_iload_n hm rfl rfl ?_
  refine x_iconst hm rfl (v := nI 2) (by decide) ?_
  refine x_iadd hm rfl ?_
  rw [jI_add]
  refine x_iald hm rfl (lX (by omega) hX) ?_
  refine x_callV hm rfl rfl hc2 ?_
  refine x_pop hm rfl rfl ?_
  refine x_goto hm rfl (t := 1719) rfl ?_
  exact hout _ hJ2
theorem lw_18 {i : Nat} {M : mM} (hX : X.1 ≤ 3072) (h6 : i + 6 ≤ X.1) (hJ : J M) (hout : ∀ M, J M → mEv X (fun r D => r = some (.int (nI 1)) ∧ ∃ M, D = con M) 245 1719 [some (.ref 1000200), some (.ref 0), some (.ref 66), some (.int (nI i))] [] (con M)) : mEv X (fun r D => r = some (.int (nI 1)) ∧ ∃ M, D = con M) 245 812 [some (.ref 1000200), some (.ref 0), some (.ref 66), some (.int (nI i))] [] (con M) := by
  have hm : mMet 245 = some _ := rfl
  refine x_aload_n hm rfl rfl ?_
  refine x_aload_n hm rfl rfl ?_
  refine x_iload_n hm rfl rfl ?_
  refine x_iconst hm rfl (v := nI 1) (by decide) ?_
  refine x_iadd hm rfl ?_
  rw [jI_add]
  refine x_iald hm rfl (lX (by omega) hX) ?_
  obtain ⟨v1, M1, w1, M2, hc1, hc2, hJ2, he⟩ := a_worst (X := X) (a1 := X.2 (i + 1)) hJ
  refine x_callV hm rfl rfl hc1 ?_
  refine x_pop hm rfl rfl ?_
  refine x_aload_n hm rfl rfl ?_
  refine x_aload_n hm rfl rfl ?_
  refine x_iload_n hm rfl rfl ?_
  refine x_iconst hm rfl (v := nI 1) (by decide) ?_
  refine x_iadd hm rfl ?_
  rw [jI_add]
  refine x_iald hm rfl (lX (by omega) hX) ?_
  refine x_callV hm rfl rfl hc2 ?_
  refine x_pop hm rfl rfl ?_
  refine x_goto hm rfl (t := 1719) rfl ?_
  exact hout _ hJ2
theorem lw_19 {i : Nat} {M : mM} (hX : X.1 ≤ 3072) (h6 : i + 6 ≤ X.1) (hJ : J M) (hout : ∀ M, J M → mEv X (fun r D => r = some (.int (nI 1)) ∧ ∃ M, D = con M) 245 1719 [some (.ref 1000200), some (.ref 0), some (.ref 66), some (.int (nI i))] [] (con M)) : mEv X (fun r D => r = some (.int (nI 1)) ∧ ∃ M, D = con M) 245 835 [some (.ref 1000200), some (.ref 0), some (.ref 66), some (.int (nI i))] [] (con M) := by
  have hm : mMet 245 = some _ := rfl
  refine x_aload_n hm rfl rfl ?_
  refine x_aload_n hm rfl rfl ?_
  refine x_iload_n hm rfl rfl ?_
  refine x_iconst hm rfl (v := nI 1) (by decide) ?_
  refine x_iadd hm rfl ?_
  rw [jI_add]
  refine x_iald hm rfl (lX (by omega) hX) ?_
  refine x_aload_n hm rfl rfl ?_
  refine x_iload_n hm rfl rfl ?_
  refine x_iconst hm rfl (v := nI 2) (by decide) ?_
  refine x_iadd hm rfl ?_
  rw [jI_add]
  refine x_iald hm rfl (lX (by omega) hX) ?_
  obtain ⟨v1, M1, w1, M2, hc1, hc2, hJ2, he⟩ := a_paint (X := X) (a1 := X.2 (i + 1)) (a2 := X.2 (i + 2)) hJ
  refine x_callV hm rfl rfl hc1 ?_
  refine x_pop hm rfl rfl ?_
  refine x_aload_n hm rfl rfl ?_
  refine x_aload_n hm rfl rfl ?_
  refine x_iload_n hm rfl rfl ?_
  refine x_iconst hm rfl (v := nI 1) (by decide) ?_
  refine x_iadd hm rfl ?_
  rw [jI_add]
  refine x_iald hm rfl (lX (by omega) hX) ?_
  refine x_aload_n hm rfl rfl ?_
  refine x_iload_n hm rfl rfl ?_
  refine x_iconst hm rfl (v := nI 2) (by decide) ?_
  refine x_iadd hm rfl ?_
  rw [jI_add]
  refine x_iald hm rfl (lX (by omega) hX) ?_
  refine x_callV hm rfl rfl hc2 ?_
  refine x_pop hm rfl rfl ?_
  refine x_goto hm rfl (t := 1719) rfl ?_
  exact hout _ hJ2
theorem lw_20 {i : Nat} {M : mM} (hX : X.1 ≤ 3072) (h6 : i + 6 ≤ X.1) (hJ : J M) (hout : ∀ M, J M → mEv X (fun r D => r = some (.int (nI 1)) ∧ ∃ M, D = con M) 245 1719 [some (.ref 1000200), some (.ref 0), some (.ref 66), some (.int (nI i))] [] (con M)) : mEv X (fun r D => r = some (.int (nI 1)) ∧ ∃ M, D = con M) 245 868 [some (.ref 1000200), some (.ref 0), some (.ref 66), some (.int (nI i))] [] (con M) := by
  have hm : mMet 245 = some _ := rfl
  refine x_aload_n hm rfl rfl ?_
  refine x_aload_n hm rfl rfl ?_
  refine x_iload_n hm rfl rfl ?_
  refine x_iconst hm rfl (v := nI 1) (by decide) ?_
  refine x_iadd hm rfl ?_
  rw [jI_add]
  refine x_iald hm rfl (lX (by omega) hX) ?_
  refine x_aload_n hm rfl rfl ?_
  refine x_iload_n hm rfl rfl ?_
  refine x_iconst hm rfl (v := nI 2) (by decide) ?_
  refine x_iadd hm rfl ?_
  rw [jI_add]
  refine x_iald hm rfl (lX (by omega) hX) ?_
  obtain ⟨v1, M1, w1, M2, hc1, hc2, hJ2, he⟩ := a_needs (X := X) (a1 := X.2 (i + 1)) (a2 := X.2 (i + 2)) hJ
  refine x_callV hm rfl rfl hc1 ?_
  refine x_pop hm rfl rfl ?_
  refine x_aload_n hm rfl rfl ?_
  refine x_aload_n hm rfl rfl ?_
  refine x_iload_n hm rfl rfl ?_
  refine x_iconst hm rfl (v := nI 1) (by decide) ?_
  refine x_iadd hm rfl ?_
  rw [jI_add]
  refine x_iald hm rfl (lX (by omega) hX) ?_
  refine x_aload_n hm rfl rfl ?_
  refine x_iload_n hm rfl rfl ?_
  refine x_iconst hm rfl (v := nI 2) (by decide) ?_
  refine x_iadd hm rfl ?_
  rw [jI_add]
  refine x_iald hm rfl (lX (by omega) hX) ?_
  refine x_callV hm rfl rfl hc2 ?_
  refine x_pop hm rfl rfl ?_
  refine x_goto hm rfl (t := 1719) rfl ?_
  exact hout _ hJ2
theorem lw_21 {i : Nat} {M : mM} (hX : X.1 ≤ 3072) (h6 : i + 6 ≤ X.1) (hJ : J M) (hout : ∀ M, J M → mEv X (fun r D => r = some (.int (nI 1)) ∧ ∃ M, D = con M) 245 1719 [some (.ref 1000200), some (.ref 0), some (.ref 66), some (.int (nI i))] [] (con M)) : mEv X (fun r D => r = some (.int (nI 1)) ∧ ∃ M, D = con M) 245 901 [some (.ref 1000200), some (.ref 0), some (.ref 66), some (.int (nI i))] [] (con M) := by
  have hm : mMet 245 = some _ := rfl
  refine x_aload_n hm rfl rfl ?_
  refine x_aload_n hm rfl rfl ?_
  refine x_iload_n hm rfl rfl ?_
  refine x_iconst hm rfl (v := nI 1) (by decide) ?_
  refine x_iadd hm rfl ?_
  rw [jI_add]
  refine x_iald hm rfl (lX (by omega) hX) ?_
  obtain ⟨v1, M1, w1, M2, hc1, hc2, hJ2, he⟩ := j_fallsWith (X := X) (a1 := X.2 (i + 1)) hJ
  refine x_callV hm rfl rfl hc1 ?_
  refine x_pop hm rfl rfl ?_
  refine x_aload_n hm rfl rfl ?_
  refine x_aload_n hm rfl rfl ?_
  refine x_iload_n hm rfl rfl ?_
  refine x_iconst hm rfl (v := nI 1) (by decide) ?_
  refine x_iadd hm rfl ?_
  rw [jI_add]
  refine x_iald hm rfl (lX (by omega) hX) ?_
  refine x_callV hm rfl rfl hc2 ?_
  refine x_pop hm rfl rfl ?_
  refine x_goto hm rfl (t := 1719) rfl ?_
  exact hout _ hJ2
theorem lw_22 {i : Nat} {M : mM} (hX : X.1 ≤ 3072) (h6 : i + 6 ≤ X.1) (hJ : J M) (hout : ∀ M, J M → mEv X (fun r D => r = some (.int (nI 1)) ∧ ∃ M, D = con M) 245 1719 [some (.ref 1000200), some (.ref 0), some (.ref 66), some (.int (nI i))] [] (con M)) : mEv X (fun r D => r = some (.int (nI 1)) ∧ ∃ M, D = con M) 245 924 [some (.ref 1000200), some (.ref 0), some (.ref 66), some (.int (nI i))] [] (con M) := by
  have hm : mMet 245 = some _ := rfl
  refine x_aload_n hm rfl rfl ?_
  refine x_aload_n hm rfl rfl ?_
  refine x_iload_n hm rfl rfl ?_
  refine x_iconst hm rfl (v := nI 1) (by decide) ?_
  refine x_iadd hm rfl ?_
  rw [jI_add]
  refine x_iald hm rfl (lX (by omega) hX) ?_
  obtain ⟨v1, M1, w1, M2, hc1, hc2, hJ2, he⟩ := a_depth (X := X) (a1 := X.2 (i + 1)) hJ
  refine x_callV hm rfl rfl hc1 ?_
  refine x_pop hm rfl rfl ?_
  refine x_aload_n hm rfl rfl ?_
  refine x_aload_n hm rfl rfl ?_
  refine x_iload_n hm rfl rfl ?_
  refine x_iconst hm rfl (v := nI 1) (by decide) ?_
  refine x_iadd hm rfl ?_
  rw [jI_add]
  refine x_iald hm rfl (lX (by omega) hX) ?_
  refine x_callV hm rfl rfl hc2 ?_
  refine x_pop hm rfl rfl ?_
  refine x_goto hm rfl (t := 1719) rfl ?_
  exact hout _ hJ2
theorem lw_23 {i : Nat} {M : mM} (hX : X.1 ≤ 3072) (h6 : i + 6 ≤ X.1) (hJ : J M) (hout : ∀ M, J M → mEv X (fun r D => r = some (.int (nI 1)) ∧ ∃ M, D = con M) 245 1719 [some (.ref 1000200), some (.ref 0), some (.ref 66), some (.int (nI i))] [] (con M)) : mEv X (fun r D => r = some (.int (nI 1)) ∧ ∃ M, D = con M) 245 947 [some (.ref 1000200), some (.ref 0), some (.ref 66), some (.int (nI i))] [] (con M) := by
  have hm : mMet 245 = some _ := rfl
  refine x_aload_n hm rfl rfl ?_
  obtain ⟨v1, M1, w1, M2, hc1, hc2, hJ2, he⟩ := j_keystone (X := X) hJ
  refine x_callV hm rfl rfl hc1 ?_
  refine x_pop hm rfl rfl ?_
  refine x_aload_n hm rfl rfl ?_
  refine x_callV hm rfl rfl hc2 ?_
  refine x_pop hm rfl rfl ?_
  refine x_goto hm rfl (t := 1719) rfl ?_
  exact hout _ hJ2
theorem lw_24 {i : Nat} {M : mM} (hX : X.1 ≤ 3072) (h6 : i + 6 ≤ X.1) (hJ : J M) (hout : ∀ M, J M → mEv X (fun r D => r = some (.int (nI 1)) ∧ ∃ M, D = con M) 245 1719 [some (.ref 1000200), some (.ref 0), some (.ref 66), some (.int (nI i))] [] (con M)) : mEv X (fun r D => r = some (.int (nI 1)) ∧ ∃ M, D = con M) 245 960 [some (.ref 1000200), some (.ref 0), some (.ref 66), some (.int (nI i))] [] (con M) := by
  have hm : mMet 245 = some _ := rfl
  refine x_aload_n hm rfl rfl ?_
  obtain ⟨v1, M1, w1, M2, hc1, hc2, hJ2, he⟩ := j_fells (X := X) hJ
  refine x_callV hm rfl rfl hc1 ?_
  refine x_pop hm rfl rfl ?_
  refine x_aload_n hm rfl rfl ?_
  refine x_callV hm rfl rfl hc2 ?_
  refine x_pop hm rfl rfl ?_
  refine x_goto hm rfl (t := 1719) rfl ?_
  exact hout _ hJ2
theorem lw_25 {i : Nat} {M : mM} (hX : X.1 ≤ 3072) (h6 : i + 6 ≤ X.1) (hJ : J M) (hout : ∀ M, J M → mEv X (fun r D => r = some (.int (nI 1)) ∧ ∃ M, D = con M) 245 1719 [some (.ref 1000200), some (.ref 0), some (.ref 66), some (.int (nI i))] [] (con M)) : mEv X (fun r D => r = some (.int (nI 1)) ∧ ∃ M, D = con M) 245 973 [some (.ref 1000200), some (.ref 0), some (.ref 66), some (.int (nI i))] [] (con M) := by
  have hm : mMet 245 = some _ := rfl
  refine x_aload_n hm rfl rfl ?_
  refine x_aload_n hm rfl rfl ?_
  refine x_iload_n hm rfl rfl ?_
  refine x_iconst hm rfl (v := nI 1) (by decide) ?_
  refine x_iadd hm rfl ?_
  rw [jI_add]
  refine x_iald hm rfl (lX (by omega) hX) ?_
  refine x_aload_n hm rfl rfl ?_
  refine x_iload_n hm rfl rfl ?_
  refine x_iconst hm rfl (v := nI 2) (by decide) ?_
  refine x_iadd hm rfl ?_
  rw [jI_add]
  refine x_iald hm rfl (lX (by omega) hX) ?_
  obtain ⟨v1, M1, w1, M2, hc1, hc2, hJ2, he⟩ := j_worth (X := X) (a1 := X.2 (i + 1)) (a2 := X.2 (i + 2)) hJ
  refine x_callV hm rfl rfl hc1 ?_
  refine x_pop hm rfl rfl ?_
  refine x_aload_n hm rfl rfl ?_
  refine x_aload_n hm rfl rfl ?_
  refine x_iload_n hm rfl rfl ?_
  refine x_iconst hm rfl (v := nI 1) (by decide) ?_
  refine x_iadd hm rfl ?_
  rw [jI_add]
  refine x_iald hm rfl (lX (by omega) hX) ?_
  refine x_aload_n hm rfl rfl ?_
  refine x_iload_n hm rfl rfl ?_
  refine x_iconst hm rfl (v := nI 2) (by decide) ?_
  refine x_iadd hm rfl ?_
  rw [jI_add]
  refine x_iald hm rfl (lX (by omega) hX) ?_
  refine x_callV hm rfl rfl hc2 ?_
  refine x_pop hm rfl rfl ?_
  refine x_goto hm rfl (t := 1719) rfl ?_
  exact hout _ hJ2
theorem lw_26 {i : Nat} {M : mM} (hX : X.1 ≤ 3072) (h6 : i + 6 ≤ X.1) (hJ : J M) (hout : ∀ M, J M → mEv X (fun r D => r = some (.int (nI 1)) ∧ ∃ M, D = con M) 245 1719 [some (.ref 1000200), some (.ref 0), some (.ref 66), some (.int (nI i))] [] (con M)) : mEv X (fun r D => r = some (.int (nI 1)) ∧ ∃ M, D = con M) 245 1006 [some (.ref 1000200), some (.ref 0), some (.ref 66), some (.int (nI i))] [] (con M) := by
  have hm : mMet 245 = some _ := rfl
  refine x_aload_n hm rfl rfl ?_
  refine x_aload_n hm rfl rfl ?_
  refine x_iload_n hm rfl rfl ?_
  refine x_iconst hm rfl (v := nI 1) (by decide) ?_
  refine x_iadd hm rfl ?_
  rw [jI_add]
  refine x_iald hm rfl (lX (by omega) hX) ?_
  refine x_aload_n hm rfl rfl ?_
  refine x_iload_n hm rfl rfl ?_
  refine x_iconst hm rfl (v := nI 2) (by decide) ?_
  refine x_iadd hm rfl ?_
  rw [jI_add]
  refine x_iald hm rfl (lX (by omega) hX) ?_
  refine x_aload_n hm rfl rfl ?_
  refine x_iload_n hm rfl rfl ?_
  refine x_iconst hm rfl (v := nI 3) (by decide) ?_
  refine x_iadd hm rfl ?_
  rw [jI_add]
  refine x_iald hm rfl (lX (by omega) hX) ?_
  obtain ⟨v1, M1, w1, M2, hc1, hc2, hJ2, he⟩ := a_deal (X := X) (a1 := X.2 (i + 1)) (a2 := X.2 (i + 2)) (a3 := X.2 (i + 3)) hJ
  refine x_callV hm rfl rfl hc1 ?_
  refine x_pop hm rfl rfl ?_
  refine x_aload_n hm rfl rfl ?_
  refine x_aload_n hm rfl rfl ?_
  refine x_iload_n hm rfl rfl ?_
  refine x_iconst hm rfl (v := nI 1) (by decide) ?_
  refine x_iadd hm rfl ?_
  rw [jI_add]
  refine x_iald hm rfl (lX (by omega) hX) ?_
  refine x_aload_n hm rfl rfl ?_
  refine x_iload_n hm rfl rfl ?_
  refine x_iconst hm rfl (v := nI 2) (by decide) ?_
  refine x_iadd hm rfl ?_
  rw [jI_add]
  refine x_iald hm rfl (lX (by omega) hX) ?_
  refine x_aload_n hm rfl rfl ?_
  refine x_iload_n hm rfl rfl ?_
  refine x_iconst hm rfl (v := nI 3) (by decide) ?_
  refine x_iadd hm rfl ?_
  rw [jI_add]
  refine x_iald hm rfl (lX (by omega) hX) ?_
  refine x_callV hm rfl rfl hc2 ?_
  refine x_pop hm rfl rfl ?_
  refine x_goto hm rfl (t := 1719) rfl ?_
  exact hout _ hJ2
theorem lw_27 {i : Nat} {M : mM} (hX : X.1 ≤ 3072) (h6 : i + 6 ≤ X.1) (hJ : J M) (hout : ∀ M, J M → mEv X (fun r D => r = some (.int (nI 1)) ∧ ∃ M, D = con M) 245 1719 [some (.ref 1000200), some (.ref 0), some (.ref 66), some (.int (nI i))] [] (con M)) : mEv X (fun r D => r = some (.int (nI 1)) ∧ ∃ M, D = con M) 245 1049 [some (.ref 1000200), some (.ref 0), some (.ref 66), some (.int (nI i))] [] (con M) := by
  have hm : mMet 245 = some _ := rfl
  refine x_aload_n hm rfl rfl ?_
  refine x_aload_n hm rfl rfl ?_
  refine x_iload_n hm rfl rfl ?_
  refine x_iconst hm rfl (v := nI 1) (by decide) ?_
  refine x_iadd hm rfl ?_
  rw [jI_add]
  refine x_iald hm rfl (lX (by omega) hX) ?_
  refine x_aload_n hm rfl rfl ?_
  refine x_iload_n hm rfl rfl ?_
  refine x_iconst hm rfl (v := nI 2) (by decide) ?_
  refine x_iadd hm rfl ?_
  rw [jI_add]
  refine x_iald hm rfl (lX (by omega) hX) ?_
  refine x_aload_n hm rfl rfl ?_
  refine x_iload_n hm rfl rfl ?_
  refine x_iconst hm rfl (v := nI 3) (by decide) ?_
  refine x_iadd hm rfl ?_
  rw [jI_add]
  refine x_iald hm rfl (lX (by omega) hX) ?_
  obtain ⟨v1, M1, w1, M2, hc1, hc2, hJ2, he⟩ := a_deals (X := X) (a1 := X.2 (i + 1)) (a2 := X.2 (i + 2)) (a3 := X.2 (i + 3)) hJ
  refine x_callV hm rfl rfl hc1 ?_
  refine x_pop hm rfl rfl ?_
  refine x_aload_n hm rfl rfl ?_
  refine x_aload_n hm rfl rfl ?_
  refine x_iload_n hm rfl rfl ?_
  refine x_iconst hm rfl (v := nI 1) (by decide) ?_
  refine x_iadd hm rfl ?_
  rw [jI_add]
  refine x_iald hm rfl (lX (by omega) hX) ?_
  refine x_aload_n hm rfl rfl ?_
  refine x_iload_n hm rfl rfl ?_
  refine x_iconst hm rfl (v := nI 2) (by decide) ?_
  refine x_iadd hm rfl ?_
  rw [jI_add]
  refine x_iald hm rfl (lX (by omega) hX) ?_
  refine x_aload_n hm rfl rfl ?_
  refine x_iload_n hm rfl rfl ?_
  refine x_iconst hm rfl (v := nI 3) (by decide) ?_
  refine x_iadd hm rfl ?_
  rw [jI_add]
  refine x_iald hm rfl (lX (by omega) hX) ?_
  refine x_callV hm rfl rfl hc2 ?_
  refine x_pop hm rfl rfl ?_
  refine x_goto hm rfl (t := 1719) rfl ?_
  exact hout _ hJ2
theorem lw_28 {i : Nat} {M : mM} (hX : X.1 ≤ 3072) (h6 : i + 6 ≤ X.1) (hJ : J M) (hout : ∀ M, J M → mEv X (fun r D => r = some (.int (nI 1)) ∧ ∃ M, D = con M) 245 1719 [some (.ref 1000200), some (.ref 0), some (.ref 66), some (.int (nI i))] [] (con M)) : mEv X (fun r D => r = some (.int (nI 1)) ∧ ∃ M, D = con M) 245 1092 [some (.ref 1000200), some (.ref 0), some (.ref 66), some (.int (nI i))] [] (con M) := by
  have hm : mMet 245 = some _ := rfl
  refine x_aload_n hm rfl rfl ?_
  refine x_aload_n hm rfl rfl ?_
  refine x_iload_n hm rfl rfl ?_
  refine x_iconst hm rfl (v := nI 1) (by decide) ?_
  refine x_iadd hm rfl ?_
  rw [jI_add]
  refine x_iald hm rfl (lX (by omega) hX) ?_
  refine x_aload_n hm rfl rfl ?_
  refine x_iload_n hm rfl rfl ?_
  refine x_iconst hm rfl (v := nI 2) (by decide) ?_
  refine x_iadd hm rfl ?_
  rw [jI_add]
  refine x_iald hm rfl (lX (by omega) hX) ?_
  refine x_aload_n hm rfl rfl ?_
  refine x_iload_n hm rfl rfl ?_
  refine x_iconst hm rfl (v := nI 3) (by decide) ?_
  refine x_iadd hm rfl ?_
  rw [jI_add]
  refine x_iald hm rfl (lX (by omega) hX) ?_
  obtain ⟨v1, M1, w1, M2, hc1, hc2, hJ2, he⟩ := a_lesser (X := X) (a1 := X.2 (i + 1)) (a2 := X.2 (i + 2)) (a3 := X.2 (i + 3)) hJ
  refine x_callV hm rfl rfl hc1 ?_
  refine x_pop hm rfl rfl ?_
  refine x_aload_n hm rfl rfl ?_
  refine x_aload_n hm rfl rfl ?_
  refine x_iload_n hm rfl rfl ?_
  refine x_iconst hm rfl (v := nI 1) (by decide) ?_
  refine x_iadd hm rfl ?_
  rw [jI_add]
  refine x_iald hm rfl (lX (by omega) hX) ?_
  refine x_aload_n hm rfl rfl ?_
  refine x_iload_n hm rfl rfl ?_
  refine x_iconst hm rfl (v := nI 2) (by decide) ?_
  refine x_iadd hm rfl ?_
  rw [jI_add]
  refine x_iald hm rfl (lX (by omega) hX) ?_
  refine x_aload_n hm rfl rfl ?_
  refine x_iload_n hm rfl rfl ?_
  refine x_iconst hm rfl (v := nI 3) (by decide) ?_
  refine x_iadd hm rfl ?_
  rw [jI_add]
  refine x_iald hm rfl (lX (by omega) hX) ?_
  refine x_callV hm rfl rfl hc2 ?_
  refine x_pop hm rfl rfl ?_
  refine x_goto hm rfl (t := 1719) rfl ?_
  exact hout _ hJ2
theorem lw_29 {i : Nat} {M : mM} (hX : X.1 ≤ 3072) (h6 : i + 6 ≤ X.1) (hJ : J M) (hout : ∀ M, J M → mEv X (fun r D => r = some (.int (nI 1)) ∧ ∃ M, D = con M) 245 1719 [some (.ref 1000200), some (.ref 0), some (.ref 66), some (.int (nI i))] [] (con M)) : mEv X (fun r D => r = some (.int (nI 1)) ∧ ∃ M, D = con M) 245 1135 [some (.ref 1000200), some (.ref 0), some (.ref 66), some (.int (nI i))] [] (con M) := by
  have hm : mMet 245 = some _ := rfl
  refine x_aload_n hm rfl rfl ?_
  obtain ⟨v1, M1, w1, M2, hc1, hc2, hJ2, he⟩ := a_envious (X := X) hJ
  refine x_callV hm rfl rfl hc1 ?_
  refine x_pop hm rfl rfl ?_
  refine x_aload_n hm rfl rfl ?_
  refine x_callV hm rfl rfl hc2 ?_
  refine x_pop hm rfl rfl ?_
  refine x_goto hm rfl (t := 1719) rfl ?_
  exact hout _ hJ2
theorem lw_30 {i : Nat} {M : mM} (hX : X.1 ≤ 3072) (h6 : i + 6 ≤ X.1) (hJ : J M) (hout : ∀ M, J M → mEv X (fun r D => r = some (.int (nI 1)) ∧ ∃ M, D = con M) 245 1719 [some (.ref 1000200), some (.ref 0), some (.ref 66), some (.int (nI i))] [] (con M)) : mEv X (fun r D => r = some (.int (nI 1)) ∧ ∃ M, D = con M) 245 1148 [some (.ref 1000200), some (.ref 0), some (.ref 66), some (.int (nI i))] [] (con M) := by
  have hm : mMet 245 = some _ := rfl
  refine x_aload_n hm rfl rfl ?_
  refine x_aload_n hm rfl rfl ?_
  refine x_iload_n hm rfl rfl ?_
  refine x_iconst hm rfl (v := nI 1) (by decide) ?_
  refine x_iadd hm rfl ?_
  rw [jI_add]
  refine x_iald hm rfl (lX (by omega) hX) ?_
  refine x_aload_n hm rfl rfl ?_
  refine x_iload_n hm rfl rfl ?_
  refine x_iconst hm rfl (v := nI 2) (by decide) ?_
  refine x_iadd hm rfl ?_
  rw [jI_add]
  refine x_iald hm rfl (lX (by omega) hX) ?_
  refine x_aload_n hm rfl rfl ?_
  refine x_iload_n hm rfl rfl ?_
  refine x_iconst hm rfl (v := nI 3) (by decide) ?_
  refine x_iadd hm rfl ?_
  rw [jI_add]
  refine x_iald hm rfl (lX (by omega) hX) ?_
  obtain ⟨v1, M1, w1, M2, hc1, hc2, hJ2, he⟩ := a_fits (X := X) (a1 := X.2 (i + 1)) (a2 := X.2 (i + 2)) (a3 := X.2 (i + 3)) hJ
  refine x_callV hm rfl rfl hc1 ?_
  refine x_pop hm rfl rfl ?_
  refine x_aload_n hm rfl rfl ?_
  refine x_aload_n hm rfl rfl ?_
  refine x_iload_n hm rfl rfl ?_
  refine x_iconst hm rfl (v := nI 1) (by decide) ?_
  refine x_iadd hm rfl ?_
  rw [jI_add]
  refine x_iald hm rfl (lX (by omega) hX) ?_
  refine x_aload_n hm rfl rfl ?_
  refine x_iload_n hm rfl rfl ?_
  refine x_iconst hm rfl (v := nI 2) (by decide) ?_
  refine x_iadd hm rfl ?_
  rw [jI_add]
  refine x_iald hm rfl (lX (by omega) hX) ?_
  refine x_aload_n hm rfl rfl ?_
  refine x_iload_n hm rfl rfl ?_
  refine x_iconst hm rfl (v := nI 3) (by decide) ?_
  refine x_iadd hm rfl ?_
  rw [jI_add]
  refine x_iald hm rfl (lX (by omega) hX) ?_
  refine x_callV hm rfl rfl hc2 ?_
  refine x_pop hm rfl rfl ?_
  refine x_goto hm rfl (t := 1719) rfl ?_
  exact hout _ hJ2
theorem lw_31 {i : Nat} {M : mM} (hX : X.1 ≤ 3072) (h6 : i + 6 ≤ X.1) (hJ : J M) (hout : ∀ M, J M → mEv X (fun r D => r = some (.int (nI 1)) ∧ ∃ M, D = con M) 245 1719 [some (.ref 1000200), some (.ref 0), some (.ref 66), some (.int (nI i))] [] (con M)) : mEv X (fun r D => r = some (.int (nI 1)) ∧ ∃ M, D = con M) 245 1191 [some (.ref 1000200), some (.ref 0), some (.ref 66), some (.int (nI i))] [] (con M) := by
  have hm : mMet 245 = some _ := rfl
  refine x_aload_n hm rfl rfl ?_
  refine x_aload_n hm rfl rfl ?_
  refine x_iload_n hm rfl rfl ?_
  refine x_iconst hm rfl (v := nI 1) (by decide) ?_
  refine x_iadd hm rfl ?_
  rw [jI_add]
  refine x_iald hm rfl (lX (by omega) hX) ?_
  refine x_aload_n hm rfl rfl ?_
  refine x_iload_n hm rfl rfl ?_
  refine x_iconst hm rfl (v := nI 2) (by decide) ?_
  refine x_iadd hm rfl ?_
  rw [jI_add]
  refine x_iald hm rfl (lX (by omega) hX) ?_
  refine x_aload_n hm rfl rfl ?_
  refine x_iload_n hm rfl rfl ?_
  refine x_iconst hm rfl (v := nI 3) (by decide) ?_
  refine x_iadd hm rfl ?_
  rw [jI_add]
  refine x_iald hm rfl (lX (by omega) hX) ?_
  obtain ⟨v1, M1, w1, M2, hc1, hc2, hJ2, he⟩ := a_likes (X := X) (a1 := X.2 (i + 1)) (a2 := X.2 (i + 2)) (a3 := X.2 (i + 3)) hJ
  refine x_callV hm rfl rfl hc1 ?_
  refine x_pop hm rfl rfl ?_
  refine x_aload_n hm rfl rfl ?_
  refine x_aload_n hm rfl rfl ?_
  refine x_iload_n hm rfl rfl ?_
  refine x_iconst hm rfl (v := nI 1) (by decide) ?_
  refine x_iadd hm rfl ?_
  rw [jI_add]
  refine x_iald hm rfl (lX (by omega) hX) ?_
  refine x_aload_n hm rfl rfl ?_
  refine x_iload_n hm rfl rfl ?_
  refine x_iconst hm rfl (v := nI 2) (by decide) ?_
  refine x_iadd hm rfl ?_
  rw [jI_add]
  refine x_iald hm rfl (lX (by omega) hX) ?_
  refine x_aload_n hm rfl rfl ?_
  refine x_iload_n hm rfl rfl ?_
  refine x_iconst hm rfl (v := nI 3) (by decide) ?_
  refine x_iadd hm rfl ?_
  rw [jI_add]
  refine x_iald hm rfl (lX (by omega) hX) ?_
  refine x_callV hm rfl rfl hc2 ?_
  refine x_pop hm rfl rfl ?_
  refine x_goto hm rfl (t := 1719) rfl ?_
  exact hout _ hJ2
theorem lw_32 {i : Nat} {M : mM} (hX : X.1 ≤ 3072) (h6 : i + 6 ≤ X.1) (hJ : J M) (hout : ∀ M, J M → mEv X (fun r D => r = some (.int (nI 1)) ∧ ∃ M, D = con M) 245 1719 [some (.ref 1000200), some (.ref 0), some (.ref 66), some (.int (nI i))] [] (con M)) : mEv X (fun r D => r = some (.int (nI 1)) ∧ ∃ M, D = con M) 245 1234 [some (.ref 1000200), some (.ref 0), some (.ref 66), some (.int (nI i))] [] (con M) := by
  have hm : mMet 245 = some _ := rfl
  refine x_aload_n hm rfl rfl ?_
  refine x_aload_n hm rfl rfl ?_
  refine x_iload_n hm rfl rfl ?_
  refine x_iconst hm rfl (v := nI 1) (by decide) ?_
  refine x_iadd hm rfl ?_
  rw [jI_add]
  refine x_iald hm rfl (lX (by omega) hX) ?_
  obtain ⟨v1, M1, w1, M2, hc1, hc2, hJ2, he⟩ := j_strolls (X := X) (a1 := X.2 (i + 1)) hJ
  refine x_callV hm rfl rfl hc1 ?_
  refine x_pop hm rfl rfl ?_
  refine x_aload_n hm rfl rfl ?_
  refine x_aload_n hm rfl rfl ?_
  refine x_iload_n hm rfl rfl ?_
  refine x_iconst hm rfl (v := nI 1) (by decide) ?_
  refine x_iadd hm rfl ?_
  rw [jI_add]
  refine x_iald hm rfl (lX (by omega) hX) ?_
  refine x_callV hm rfl rfl hc2 ?_
  refine x_pop hm rfl rfl ?_
  refine x_goto hm rfl (t := 1719) rfl ?_
  exact hout _ hJ2
theorem lw_33 {i : Nat} {M : mM} (hX : X.1 ≤ 3072) (h6 : i + 6 ≤ X.1) (hJ : J M) (hout : ∀ M, J M → mEv X (fun r D => r = some (.int (nI 1)) ∧ ∃ M, D = con M) 245 1719 [some (.ref 1000200), some (.ref 0), some (.ref 66), some (.int (nI i))] [] (con M)) : mEv X (fun r D => r = some (.int (nI 1)) ∧ ∃ M, D = con M) 245 1257 [some (.ref 1000200), some (.ref 0), some (.ref 66), some (.int (nI i))] [] (con M) := by
  have hm : mMet 245 = some _ := rfl
  refine x_aload_n hm rfl rfl ?_
  refine x_aload_n hm rfl rfl ?_
  refine x_iload_n hm rfl rfl ?_
  refine x_iconst hm rfl (v := nI 1) (by decide) ?_
  refine x_iadd hm rfl ?_
  rw [jI_add]
  refine x_iald hm rfl (lX (by omega) hX) ?_
  refine x_aload_n hm rfl rfl ?_
  refine x_iload_n hm rfl rfl ?_
  refine x_iconst hm rfl (v := nI 2) (by decide) ?_
  refine x_iadd hm rfl ?_
  rw [jI_add]
  refine x_iald hm rfl (lX (by omega) hX) ?_
  obtain ⟨v1, M1, w1, M2, hc1, hc2, hJ2, he⟩ := j_odds (X := X) (a1 := X.2 (i + 1)) (a2 := X.2 (i + 2)) hJ
  refine x_callV hm rfl rfl hc1 ?_
  refine x_aload_n hm rfl rfl ?_
  refine x_aload_n hm rfl rfl ?_
  refine x_iload_n hm rfl rfl ?_
  refine x_iconst hm rfl (v := nI 1) (by decide) ?_
  refine x_iadd hm rfl ?_
  rw [jI_add]
  refine x_iald hm rfl (lX (by omega) hX) ?_
  refine x_aload_n hm rfl rfl ?_
  refine x_iload_n hm rfl rfl ?_
  refine x_iconst hm rfl (v := nI 2) (by decide) ?_
  refine x_iadd hm rfl ?_
  rw [jI_add]
  refine x_iald hm rfl (lX (by omega) hX) ?_
  refine x_callV hm rfl rfl hc2 ?_
  refine x_lcmp hm rfl ?_
  refine x_if_eq hm rfl (t := 1719) rfl (fun h1 => ?_) (fun h1 => ?_)
  · exact hout _ hJ2
  · exact absurd (lg_self he) h1 --stop
theorem lw_34 {i : Nat} {M : mM} (hX : X.1 ≤ 3072) (h6 : i + 6 ≤ X.1) (hJ : J M) (hout : ∀ M, J M → mEv X (fun r D => r = some (.int (nI 1)) ∧ ∃ M, D = con M) 245 1719 [some (.ref 1000200), some (.ref 0), some (.ref 66), some (.int (nI i))] [] (con M)) : mEv X (fun r D => r = some (.int (nI 1)) ∧ ∃ M, D = con M) 245 1291 [some (.ref 1000200), some (.ref 0), some (.ref 66), some (.int (nI i))] [] (con M) := by
  have hm : mMet 245 = some _ := rfl
  refine x_aload_n hm rfl rfl ?_
  refine x_aload_n hm rfl rfl ?_
  refine x_iload_n hm rfl rfl ?_
  refine x_iconst hm rfl (v := nI 1) (by decide) ?_
  refine x_iadd hm rfl ?_
  rw [jI_add]
  refine x_iald hm rfl (lX (by omega) hX) ?_
  obtain ⟨v1, M1, w1, M2, hc1, hc2, hJ2, he⟩ := j_seed (X := X) (a1 := X.2 (i + 1)) hJ
  refine x_callV hm rfl rfl hc1 ?_
  refine x_pop hm rfl rfl ?_
  refine x_aload_n hm rfl rfl ?_
  refine x_aload_n hm rfl rfl ?_
  refine x_iload_n hm rfl rfl ?_
  refine x_iconst hm rfl (v := nI 1) (by decide) ?_
  refine x_iadd hm rfl ?_
  rw [jI_add]
  refine x_iald hm rfl (lX (by omega) hX) ?_
  refine x_callV hm rfl rfl hc2 ?_
  refine x_pop hm rfl rfl ?_
  refine x_goto hm rfl (t := 1719) rfl ?_
  exact hout _ hJ2
theorem lw_35 {i : Nat} {M : mM} (hX : X.1 ≤ 3072) (h6 : i + 6 ≤ X.1) (hJ : J M) (hout : ∀ M, J M → mEv X (fun r D => r = some (.int (nI 1)) ∧ ∃ M, D = con M) 245 1719 [some (.ref 1000200), some (.ref 0), some (.ref 66), some (.int (nI i))] [] (con M)) : mEv X (fun r D => r = some (.int (nI 1)) ∧ ∃ M, D = con M) 245 1314 [some (.ref 1000200), some (.ref 0), some (.ref 66), some (.int (nI i))] [] (con M) := by
  have hm : mMet 245 = some _ := rfl
  refine x_aload_n hm rfl rfl ?_
  refine x_aload_n hm rfl rfl ?_
  refine x_iload_n hm rfl rfl ?_
  refine x_iconst hm rfl (v := nI 1) (by decide) ?_
  refine x_iadd hm rfl ?_
  rw [jI_add]
  refine x_iald hm rfl (lX (by omega) hX) ?_
  refine x_aload_n hm rfl rfl ?_
  refine x_iload_n hm rfl rfl ?_
  refine x_iconst hm rfl (v := nI 2) (by decide) ?_
  refine x_iadd hm rfl ?_
  rw [jI_add]
  refine x_iald hm rfl (lX (by omega) hX) ?_
  obtain ⟨v1, M1, w1, M2, hc1, hc2, hJ2, he⟩ := j_feed (X := X) (a1 := X.2 (i + 1)) (a2 := X.2 (i + 2)) hJ
  refine x_callV hm rfl rfl hc1 ?_
  refine x_pop hm rfl rfl ?_
  refine x_aload_n hm rfl rfl ?_
  refine x_aload_n hm rfl rfl ?_
  refine x_iload_n hm rfl rfl ?_
  refine x_iconst hm rfl (v := nI 1) (by decide) ?_
  refine x_iadd hm rfl ?_
  rw [jI_add]
  refine x_iald hm rfl (lX (by omega) hX) ?_
  refine x_aload_n hm rfl rfl ?_
  refine x_iload_n hm rfl rfl ?_
  refine x_iconst hm rfl (v := nI 2) (by decide) ?_
  refine x_iadd hm rfl ?_
  rw [jI_add]
  refine x_iald hm rfl (lX (by omega) hX) ?_
  refine x_callV hm rfl rfl hc2 ?_
  refine x_pop hm rfl rfl ?_
  refine x_goto hm rfl (t := 1719) rfl ?_
  exact hout _ hJ2
theorem lw_36 {i : Nat} {M : mM} (hX : X.1 ≤ 3072) (h6 : i + 6 ≤ X.1) (hJ : J M) (hout : ∀ M, J M → mEv X (fun r D => r = some (.int (nI 1)) ∧ ∃ M, D = con M) 245 1719 [some (.ref 1000200), some (.ref 0), some (.ref 66), some (.int (nI i))] [] (con M)) : mEv X (fun r D => r = some (.int (nI 1)) ∧ ∃ M, D = con M) 245 1347 [some (.ref 1000200), some (.ref 0), some (.ref 66), some (.int (nI i))] [] (con M) := by
  have hm : mMet 245 = some _ := rfl
  refine x_aload_n hm rfl rfl ?_
  obtain ⟨v1, M1, w1, M2, hc1, hc2, hJ2, he⟩ := j_wipe (X := X) hJ
  refine x_callV hm rfl rfl hc1 ?_
  refine x_pop hm rfl rfl ?_
  refine x_aload_n hm rfl rfl ?_
  refine x_callV hm rfl rfl hc2 ?_
  refine x_pop hm rfl rfl ?_
  refine x_goto hm rfl (t := 1719) rfl ?_
  exact hout _ hJ2
theorem lw_37 {i : Nat} {M : mM} (hX : X.1 ≤ 3072) (h6 : i + 6 ≤ X.1) (hJ : J M) (hout : ∀ M, J M → mEv X (fun r D => r = some (.int (nI 1)) ∧ ∃ M, D = con M) 245 1719 [some (.ref 1000200), some (.ref 0), some (.ref 66), some (.int (nI i))] [] (con M)) : mEv X (fun r D => r = some (.int (nI 1)) ∧ ∃ M, D = con M) 245 1360 [some (.ref 1000200), some (.ref 0), some (.ref 66), some (.int (nI i))] [] (con M) := by
  have hm : mMet 245 = some _ := rfl
  refine x_aload_n hm rfl rfl ?_
  obtain ⟨v1, M1, w1, M2, hc1, hc2, hJ2, he⟩ := j_text (X := X) hJ
  refine x_callV hm rfl rfl hc1 ?_
  refine x_pop hm rfl rfl ?_
  refine x_aload_n hm rfl rfl ?_
  refine x_callV hm rfl rfl hc2 ?_
  refine x_pop hm rfl rfl ?_
  refine x_goto hm rfl (t := 1719) rfl ?_
  exact hout _ hJ2
theorem lw_38 {i : Nat} {M : mM} (hX : X.1 ≤ 3072) (h6 : i + 6 ≤ X.1) (hJ : J M) (hout : ∀ M, J M → mEv X (fun r D => r = some (.int (nI 1)) ∧ ∃ M, D = con M) 245 1719 [some (.ref 1000200), some (.ref 0), some (.ref 66), some (.int (nI i))] [] (con M)) : mEv X (fun r D => r = some (.int (nI 1)) ∧ ∃ M, D = con M) 245 1373 [some (.ref 1000200), some (.ref 0), some (.ref 66), some (.int (nI i))] [] (con M) := by
  have hm : mMet 245 = some _ := rfl
  refine x_aload_n hm rfl rfl ?_
  refine x_aload_n hm rfl rfl ?_
  refine x_iload_n hm rfl rfl ?_
  refine x_iconst hm rfl (v := nI 1) (by decide) ?_
  refine x_iadd hm rfl ?_
  rw [jI_add]
  refine x_iald hm rfl (lX (by omega) hX) ?_
  refine x_aload_n hm rfl rfl ?_
  refine x_iload_n hm rfl rfl ?_
  refine x_iconst hm rfl (v := nI 2) (by decide) ?_
  refine x_iadd hm rfl ?_
  rw [jI_add]
  refine x_iald hm rfl (lX (by omega) hX) ?_
  obtain ⟨v1, M1, w1, M2, hc1, hc2, hJ2, he⟩ := j_hold (X := X) (a1 := X.2 (i + 1)) (a2 := X.2 (i + 2)) hJ
  refine x_callV hm rfl rfl hc1 ?_
  refine x_pop hm rfl rfl ?_
  refine x_aload_n hm rfl rfl ?_
  refine x_aload_n hm rfl rfl ?_
  refine x_iload_n hm rfl rfl ?_
  refine x_iconst hm rfl (v := nI 1) (by decide) ?_
  refine x_iadd hm rfl ?_
  rw [jI_add]
  refine x_iald hm rfl (lX (by omega) hX) ?_
  refine x_aload_n hm rfl rfl ?_
  refine x_iload_n hm rfl rfl ?_
  refine x_iconst hm rfl (v := nI 2) (by decide) ?_
  refine x_iadd hm rfl ?_
  rw [jI_add]
  refine x_iald hm rfl (lX (by omega) hX) ?_
  refine x_callV hm rfl rfl hc2 ?_
  refine x_pop hm rfl rfl ?_
  refine x_goto hm rfl (t := 1719) rfl ?_
  exact hout _ hJ2
theorem lw_39 {i : Nat} {M : mM} (hX : X.1 ≤ 3072) (h6 : i + 6 ≤ X.1) (hJ : J M) (hout : ∀ M, J M → mEv X (fun r D => r = some (.int (nI 1)) ∧ ∃ M, D = con M) 245 1719 [some (.ref 1000200), some (.ref 0), some (.ref 66), some (.int (nI i))] [] (con M)) : mEv X (fun r D => r = some (.int (nI 1)) ∧ ∃ M, D = con M) 245 1406 [some (.ref 1000200), some (.ref 0), some (.ref 66), some (.int (nI i))] [] (con M) := by
  have hm : mMet 245 = some _ := rfl
  refine x_aload_n hm rfl rfl ?_
  refine x_aload_n hm rfl rfl ?_
  refine x_iload_n hm rfl rfl ?_
  refine x_iconst hm rfl (v := nI 1) (by decide) ?_
  refine x_iadd hm rfl ?_
  rw [jI_add]
  refine x_iald hm rfl (lX (by omega) hX) ?_
  refine x_aload_n hm rfl rfl ?_
  refine x_iload_n hm rfl rfl ?_
  refine x_iconst hm rfl (v := nI 2) (by decide) ?_
  refine x_iadd hm rfl ?_
  rw [jI_add]
  refine x_iald hm rfl (lX (by omega) hX) ?_
  obtain ⟨v1, M1, w1, M2, hc1, hc2, hJ2, he⟩ := j_as (X := X) (a1 := X.2 (i + 1)) (a2 := X.2 (i + 2)) hJ
  refine x_callV hm rfl rfl hc1 ?_
  refine x_pop hm rfl rfl ?_
  refine x_aload_n hm rfl rfl ?_
  refine x_aload_n hm rfl rfl ?_
  refine x_iload_n hm rfl rfl ?_
  refine x_iconst hm rfl (v := nI 1) (by decide) ?_
  refine x_iadd hm rfl ?_
  rw [jI_add]
  refine x_iald hm rfl (lX (by omega) hX) ?_
  refine x_aload_n hm rfl rfl ?_
  refine x_iload_n hm rfl rfl ?_
  refine x_iconst hm rfl (v := nI 2) (by decide) ?_
  refine x_iadd hm rfl ?_
  rw [jI_add]
  refine x_iald hm rfl (lX (by omega) hX) ?_
  refine x_callV hm rfl rfl hc2 ?_
  refine x_pop hm rfl rfl ?_
  refine x_goto hm rfl (t := 1719) rfl ?_
  exact hout _ hJ2
theorem lw_40 {i : Nat} {M : mM} (hX : X.1 ≤ 3072) (h6 : i + 6 ≤ X.1) (hJ : J M) (hout : ∀ M, J M → mEv X (fun r D => r = some (.int (nI 1)) ∧ ∃ M, D = con M) 245 1719 [some (.ref 1000200), some (.ref 0), some (.ref 66), some (.int (nI i))] [] (con M)) : mEv X (fun r D => r = some (.int (nI 1)) ∧ ∃ M, D = con M) 245 1439 [some (.ref 1000200), some (.ref 0), some (.ref 66), some (.int (nI i))] [] (con M) := by
  have hm : mMet 245 = some _ := rfl
  refine x_aload_n hm rfl rfl ?_
  refine x_aload_n hm rfl rfl ?_
  refine x_iload_n hm rfl rfl ?_
  refine x_iconst hm rfl (v := nI 1) (by decide) ?_
  refine x_iadd hm rfl ?_
  rw [jI_add]
  refine x_iald hm rfl (lX (by omega) hX) ?_
  refine x_aload_n hm rfl rfl ?_
  refine x_iload_n hm rfl rfl ?_
  refine x_iconst hm rfl (v := nI 2) (by decide) ?_
  refine x_iadd hm rfl ?_
  rw [jI_add]
  refine x_iald hm rfl (lX (by omega) hX) ?_
  refine x_aload_n hm rfl rfl ?_
  refine x_iload_n hm rfl rfl ?_
  refine x_iconst hm rfl (v := nI 3) (by decide) ?_
  refine x_iadd hm rfl ?_
  rw [jI_add]
  refine x_iald hm rfl (lX (by omega) hX) ?_
  obtain ⟨v1, M1, w1, M2, hc1, hc2, hJ2, he⟩ := j_sheet (X := X) (a1 := X.2 (i + 1)) (a2 := X.2 (i + 2)) (a3 := X.2 (i + 3)) hJ
  refine x_callV hm rfl rfl hc1 ?_
  refine x_pop hm rfl rfl ?_
  refine x_aload_n hm rfl rfl ?_
  refine x_aload_n hm rfl rfl ?_
  refine x_iload_n hm rfl rfl ?_
  refine x_iconst hm rfl (v := nI 1) (by decide) ?_
  refine x_iadd hm rfl ?_
  rw [jI_add]
  refine x_iald hm rfl (lX (by omega) hX) ?_
  refine x_aload_n hm rfl rfl ?_
  refine x_iload_n hm rfl rfl ?_
  refine x_iconst hm rfl (v := nI 2) (by decide) ?_
  refine x_iadd hm rfl ?_
  rw [jI_add]
  refine x_iald hm rfl (lX (by omega) hX) ?_
  refine x_aload_n hm rfl rfl ?_
  refine x_iload_n hm rfl rfl ?_
  refine x_iconst hm rfl (v := nI 3) (by decide) ?_
  refine x_iadd hm rfl ?_
  rw [jI_add]
  refine x_iald hm rfl (lX (by omega) hX) ?_
  refine x_callV hm rfl rfl hc2 ?_
  refine x_pop hm rfl rfl ?_
  refine x_goto hm rfl (t := 1719) rfl ?_
  exact hout _ hJ2
theorem lw_41 {i : Nat} {M : mM} (hX : X.1 ≤ 3072) (h6 : i + 6 ≤ X.1) (hJ : J M) (hout : ∀ M, J M → mEv X (fun r D => r = some (.int (nI 1)) ∧ ∃ M, D = con M) 245 1719 [some (.ref 1000200), some (.ref 0), some (.ref 66), some (.int (nI i))] [] (con M)) : mEv X (fun r D => r = some (.int (nI 1)) ∧ ∃ M, D = con M) 245 1482 [some (.ref 1000200), some (.ref 0), some (.ref 66), some (.int (nI i))] [] (con M) := by
  have hm : mMet 245 = some _ := rfl
  refine x_aload_n hm rfl rfl ?_
  refine x_aload_n hm rfl rfl ?_
  refine x_iload_n hm rfl rfl ?_
  refine x_iconst hm rfl (v := nI 1) (by decide) ?_
  refine x_iadd hm rfl ?_
  rw [jI_add]
  refine x_iald hm rfl (lX (by omega) hX) ?_
  refine x_aload_n hm rfl rfl ?_
  refine x_iload_n hm rfl rfl ?_
  refine x_iconst hm rfl (v := nI 2) (by decide) ?_
  refine x_iadd hm rfl ?_
  rw [jI_add]
  refine x_iald hm rfl (lX (by omega) hX) ?_
  refine x_aload_n hm rfl rfl ?_
  refine x_iload_n hm rfl rfl ?_
  refine x_iconst hm rfl (v := nI 3) (by decide) ?_
  refine x_iadd hm rfl ?_
  rw [jI_add]
  refine x_iald hm rfl (lX (by omega) hX) ?_
  obtain ⟨v1, M1, w1, M2, hc1, hc2, hJ2, he⟩ := j_write (X := X) (a1 := X.2 (i + 1)) (a2 := X.2 (i + 2)) (a3 := X.2 (i + 3)) hJ
  refine x_callV hm rfl rfl hc1 ?_
  refine x_pop hm rfl rfl ?_
  refine x_aload_n hm rfl rfl ?_
  refine x_aload_n hm rfl rfl ?_
  refine x_iload_n hm rfl rfl ?_
  refine x_iconst hm rfl (v := nI 1) (by decide) ?_
  refine x_iadd hm rfl ?_
  rw [jI_add]
  refine x_iald hm rfl (lX (by omega) hX) ?_
  refine x_aload_n hm rfl rfl ?_
  refine x_iload_n hm rfl rfl ?_
  refine x_iconst hm rfl (v := nI 2) (by decide) ?_
  refine x_iadd hm rfl ?_
  rw [jI_add]
  refine x_iald hm rfl (lX (by omega) hX) ?_
  refine x_aload_n hm rfl rfl ?_
  refine x_iload_n hm rfl rfl ?_
  refine x_iconst hm rfl (v := nI 3) (by decide) ?_
  refine x_iadd hm rfl ?_
  rw [jI_add]
  refine x_iald hm rfl (lX (by omega) hX) ?_
  refine x_callV hm rfl rfl hc2 ?_
  refine x_pop hm rfl rfl ?_
  refine x_goto hm rfl (t := 1719) rfl ?_
  exact hout _ hJ2
theorem lw_42 {i : Nat} {M : mM} (hX : X.1 ≤ 3072) (h6 : i + 6 ≤ X.1) (hJ : J M) (hout : ∀ M, J M → mEv X (fun r D => r = some (.int (nI 1)) ∧ ∃ M, D = con M) 245 1719 [some (.ref 1000200), some (.ref 0), some (.ref 66), some (.int (nI i))] [] (con M)) : mEv X (fun r D => r = some (.int (nI 1)) ∧ ∃ M, D = con M) 245 1525 [some (.ref 1000200), some (.ref 0), some (.ref 66), some (.int (nI i))] [] (con M) := by
  have hm : mMet 245 = some _ := rfl
  refine x_aload_n hm rfl rfl ?_
  refine x_aload_n hm rfl rfl ?_
  refine x_iload_n hm rfl rfl ?_
  refine x_iconst hm rfl (v := nI 1) (by decide) ?_
  refine x_iadd hm rfl ?_
  rw [jI_add]
  refine x_iald hm rfl (lX (by omega) hX) ?_
  refine x_aload_n hm rfl rfl ?_
  refine x_iload_n hm rfl rfl ?_
  refine x_iconst hm rfl (v := nI 2) (by decide) ?_
  refine x_iadd hm rfl ?_
  rw [jI_add]
  refine x_iald hm rfl (lX (by omega) hX) ?_
  refine x_aload_n hm rfl rfl ?_
  refine x_iload_n hm rfl rfl ?_
  refine x_iconst hm rfl (v := nI 3) (by decide) ?_
  refine x_iadd hm rfl ?_
  rw [jI_add]
  refine x_iald hm rfl (lX (by omega) hX) ?_
  refine x_aload_n hm rfl rfl ?_
  refine x_iload_n hm rfl rfl ?_
  refine x_iconst hm rfl (v := nI 4) (by decide) ?_
  refine x_iadd hm rfl ?_
  rw [jI_add]
  refine x_iald hm rfl (lX (by omega) hX) ?_
  refine x_aload_n hm rfl rfl ?_
  refine x_iload_n hm rfl rfl ?_
  refine x_iconst hm rfl (v := nI 5) (by decide) ?_
  refine x_iadd hm rfl ?_
  rw [jI_add]
  refine x_iald hm rfl (lX (by omega) hX) ?_
  obtain ⟨v1, M1, w1, M2, hc1, hc2, hJ2, he⟩ := j_copy (X := X) (a1 := X.2 (i + 1)) (a2 := X.2 (i + 2)) (a3 := X.2 (i + 3)) (a4 := X.2 (i + 4)) (a5 := X.2 (i + 5)) hJ
  refine x_callV hm rfl rfl hc1 ?_
  refine x_pop hm rfl rfl ?_
  refine x_aload_n hm rfl rfl ?_
  refine x_aload_n hm rfl rfl ?_
  refine x_iload_n hm rfl rfl ?_
  refine x_iconst hm rfl (v := nI 1) (by decide) ?_
  refine x_iadd hm rfl ?_
  rw [jI_add]
  refine x_iald hm rfl (lX (by omega) hX) ?_
  refine x_aload_n hm rfl rfl ?_
  refine x_iload_n hm rfl rfl ?_
  refine x_iconst hm rfl (v := nI 2) (by decide) ?_
  refine x_iadd hm rfl ?_
  rw [jI_add]
  refine x_iald hm rfl (lX (by omega) hX) ?_
  refine x_aload_n hm rfl rfl ?_
  refine x_iload_n hm rfl rfl ?_
  refine x_iconst hm rfl (v := nI 3) (by decide) ?_
  refine x_iadd hm rfl ?_
  rw [jI_add]
  refine x_iald hm rfl (lX (by omega) hX) ?_
  refine x_aload_n hm rfl rfl ?_
  refine x_iload_n hm rfl rfl ?_
  refine x_iconst hm rfl (v := nI 4) (by decide) ?_
  refine x_iadd hm rfl ?_
  rw [jI_add]
  refine x_iald hm rfl (lX (by omega) hX) ?_
  refine x_aload_n hm rfl rfl ?_
  refine x_iload_n hm rfl rfl ?_
  refine x_iconst hm rfl (v := nI 5) (by decide) ?_
  refine x_iadd hm rfl ?_
  rw [jI_add]
  refine x_iald hm rfl (lX (by omega) hX) ?_
  refine x_callV hm rfl rfl hc2 ?_
  refine x_pop hm rfl rfl ?_
  refine x_goto hm rfl (t := 1719) rfl ?_
  exact hout _ hJ2
theorem lw_43 {i : Nat} {M : mM} (hX : X.1 ≤ 3072) (h6 : i + 6 ≤ X.1) (hJ : J M) (hout : ∀ M, J M → mEv X (fun r D => r = some (.int (nI 1)) ∧ ∃ M, D = con M) 245 1719 [some (.ref 1000200), some (.ref 0), some (.ref 66), some (.int (nI i))] [] (con M)) : mEv X (fun r D => r = some (.int (nI 1)) ∧ ∃ M, D = con M) 245 1588 [some (.ref 1000200), some (.ref 0), some (.ref 66), some (.int (nI i))] [] (con M) := by
  have hm : mMet 245 = some _ := rfl
  refine x_aload_n hm rfl rfl ?_
  refine x_aload_n hm rfl rfl ?_
  refine x_iload_n hm rfl rfl ?_
  refine x_iconst hm rfl (v := nI 1) (by decide) ?_
  refine x_iadd hm rfl ?_
  rw [jI_add]
  refine x_iald hm rfl (lX (by omega) hX) ?_
  obtain ⟨v1, M1, w1, M2, hc1, hc2, hJ2, he⟩ := j_load (X := X) (a1 := X.2 (i + 1)) hJ
  refine x_callV hm rfl rfl hc1 ?_
  refine x_pop hm rfl rfl ?_
  refine x_aload_n hm rfl rfl ?_
  refine x_aload_n hm rfl rfl ?_
  refine x_iload_n hm rfl rfl ?_
  refine x_iconst hm rfl (v := nI 1) (by decide) ?_
  refine x_iadd hm rfl ?_
  rw [jI_add]
  refine x_iald hm rfl (lX (by omega) hX) ?_
  refine x_callV hm rfl rfl hc2 ?_
  refine x_pop hm rfl rfl ?_
  refine x_goto hm rfl (t := 1719) rfl ?_
  exact hout _ hJ2
theorem lw_44 {i : Nat} {M : mM} (hX : X.1 ≤ 3072) (h6 : i + 6 ≤ X.1) (hJ : J M) (hout : ∀ M, J M → mEv X (fun r D => r = some (.int (nI 1)) ∧ ∃ M, D = con M) 245 1719 [some (.ref 1000200), some (.ref 0), some (.ref 66), some (.int (nI i))] [] (con M)) : mEv X (fun r D => r = some (.int (nI 1)) ∧ ∃ M, D = con M) 245 1611 [some (.ref 1000200), some (.ref 0), some (.ref 66), some (.int (nI i))] [] (con M) := by
  have hm : mMet 245 = some _ := rfl
  refine x_aload_n hm rfl rfl ?_
  refine x_aload_n hm rfl rfl ?_
  refine x_iload_n hm rfl rfl ?_
  refine x_iconst hm rfl (v := nI 1) (by decide) ?_
  refine x_iadd hm rfl ?_
  rw [jI_add]
  refine x_iald hm rfl (lX (by omega) hX) ?_
  obtain ⟨v1, M1, w1, M2, hc1, hc2, hJ2, he⟩ := a_judge (X := X) (a1 := X.2 (i + 1)) hJ
  refine x_callV hm rfl rfl hc1 ?_
  refine x_pop hm rfl rfl ?_
  refine x_aload_n hm rfl rfl ?_
  refine x_aload_n hm rfl rfl ?_
  refine x_iload_n hm rfl rfl ?_
  refine x_iconst hm rfl (v := nI 1) (by decide) ?_
  refine x_iadd hm rfl ?_
  rw [jI_add]
  refine x_iald hm rfl (lX (by omega) hX) ?_
  refine x_callV hm rfl rfl hc2 ?_
  refine x_pop hm rfl rfl ?_
  refine x_goto hm rfl (t := 1719) rfl ?_
  exact hout _ hJ2
theorem lw_45 {i : Nat} {M : mM} (hX : X.1 ≤ 3072) (h6 : i + 6 ≤ X.1) (hJ : J M) (hout : ∀ M, J M → mEv X (fun r D => r = some (.int (nI 1)) ∧ ∃ M, D = con M) 245 1719 [some (.ref 1000200), some (.ref 0), some (.ref 66), some (.int (nI i))] [] (con M)) : mEv X (fun r D => r = some (.int (nI 1)) ∧ ∃ M, D = con M) 245 1634 [some (.ref 1000200), some (.ref 0), some (.ref 66), some (.int (nI i))] [] (con M) := by
  have hm : mMet 245 = some _ := rfl
  refine x_aload_n hm rfl rfl ?_
  obtain ⟨v1, M1, w1, M2, hc1, hc2, hJ2, he⟩ := j_image (X := X) hJ
  refine x_callV hm rfl rfl hc1 ?_
  refine x_pop hm rfl rfl ?_
  refine x_aload_n hm rfl rfl ?_
  refine x_callV hm rfl rfl hc2 ?_
  refine x_pop hm rfl rfl ?_
  refine x_goto hm rfl (t := 1719) rfl ?_
  exact hout _ hJ2
theorem lw_46 {i : Nat} {M : mM} (hX : X.1 ≤ 3072) (h6 : i + 6 ≤ X.1) (hJ : J M) (hout : ∀ M, J M → mEv X (fun r D => r = some (.int (nI 1)) ∧ ∃ M, D = con M) 245 1719 [some (.ref 1000200), some (.ref 0), some (.ref 66), some (.int (nI i))] [] (con M)) : mEv X (fun r D => r = some (.int (nI 1)) ∧ ∃ M, D = con M) 245 1647 [some (.ref 1000200), some (.ref 0), some (.ref 66), some (.int (nI i))] [] (con M) := by
  have hm : mMet 245 = some _ := rfl
  refine x_aload_n hm rfl rfl ?_
  obtain ⟨v1, M1, w1, M2, hc1, hc2, hJ2, he⟩ := j_undo (X := X) hJ
  refine x_callV hm rfl rfl hc1 ?_
  refine x_pop hm rfl rfl ?_
  refine x_aload_n hm rfl rfl ?_
  refine x_callV hm rfl rfl hc2 ?_
  refine x_pop hm rfl rfl ?_
  refine x_goto hm rfl (t := 1719) rfl ?_
  exact hout _ hJ2
theorem lw_47 {i : Nat} {M : mM} (hX : X.1 ≤ 3072) (h6 : i + 6 ≤ X.1) (hJ : J M) (hout : ∀ M, J M → mEv X (fun r D => r = some (.int (nI 1)) ∧ ∃ M, D = con M) 245 1719 [some (.ref 1000200), some (.ref 0), some (.ref 66), some (.int (nI i))] [] (con M)) : mEv X (fun r D => r = some (.int (nI 1)) ∧ ∃ M, D = con M) 245 1660 [some (.ref 1000200), some (.ref 0), some (.ref 66), some (.int (nI i))] [] (con M) := by
  have hm : mMet 245 = some _ := rfl
  refine x_aload_n hm rfl rfl ?_
  obtain ⟨v1, M1, w1, M2, hc1, hc2, hJ2, he⟩ := j_tear (X := X) hJ
  refine x_callV hm rfl rfl hc1 ?_
  refine x_pop hm rfl rfl ?_
  refine x_aload_n hm rfl rfl ?_
  refine x_callV hm rfl rfl hc2 ?_
  refine x_pop hm rfl rfl ?_
  refine x_goto hm rfl (t := 1719) rfl ?_
  exact hout _ hJ2
theorem lw_48 {i : Nat} {M : mM} (hX : X.1 ≤ 3072) (h6 : i + 6 ≤ X.1) (hJ : J M) (hout : ∀ M, J M → mEv X (fun r D => r = some (.int (nI 1)) ∧ ∃ M, D = con M) 245 1719 [some (.ref 1000200), some (.ref 0), some (.ref 66), some (.int (nI i))] [] (con M)) : mEv X (fun r D => r = some (.int (nI 1)) ∧ ∃ M, D = con M) 245 1673 [some (.ref 1000200), some (.ref 0), some (.ref 66), some (.int (nI i))] [] (con M) := by
  have hm : mMet 245 = some _ := rfl
  refine x_aload_n hm rfl rfl ?_
  refine x_aload_n hm rfl rfl ?_
  refine x_iload_n hm rfl rfl ?_
  refine x_iconst hm rfl (v := nI 1) (by decide) ?_
  refine x_iadd hm rfl ?_
  rw [jI_add]
  refine x_iald hm rfl (lX (by omega) hX) ?_
  obtain ⟨v1, M1, w1, M2, hc1, hc2, hJ2, he⟩ := j_count (X := X) (a1 := X.2 (i + 1)) hJ
  refine x_callV hm rfl rfl hc1 ?_
  refine x_pop hm rfl rfl ?_
  refine x_aload_n hm rfl rfl ?_
  refine x_aload_n hm rfl rfl ?_
  refine x_iload_n hm rfl rfl ?_
  refine x_iconst hm rfl (v := nI 1) (by decide) ?_
  refine x_iadd hm rfl ?_
  rw [jI_add]
  refine x_iald hm rfl (lX (by omega) hX) ?_
  refine x_callV hm rfl rfl hc2 ?_
  refine x_pop hm rfl rfl ?_
  refine x_goto hm rfl (t := 1719) rfl ?_
  exact hout _ hJ2
theorem lw_49 {i : Nat} {M : mM} (hX : X.1 ≤ 3072) (h6 : i + 6 ≤ X.1) (hJ : J M) (hout : ∀ M, J M → mEv X (fun r D => r = some (.int (nI 1)) ∧ ∃ M, D = con M) 245 1719 [some (.ref 1000200), some (.ref 0), some (.ref 66), some (.int (nI i))] [] (con M)) : mEv X (fun r D => r = some (.int (nI 1)) ∧ ∃ M, D = con M) 245 1696 [some (.ref 1000200), some (.ref 0), some (.ref 66), some (.int (nI i))] [] (con M) := by
  have hm : mMet 245 = some _ := rfl
  refine x_aload_n hm rfl rfl ?_
  refine x_aload_n hm rfl rfl ?_
  refine x_iload_n hm rfl rfl ?_
  refine x_iconst hm rfl (v := nI 1) (by decide) ?_
  refine x_iadd hm rfl ?_
  rw [jI_add]
  refine x_iald hm rfl (lX (by omega) hX) ?_
  obtain ⟨v1, M1, w1, M2, hc1, hc2, hJ2, he⟩ := a_status (X := X) (a1 := X.2 (i + 1)) hJ
  refine x_callV hm rfl rfl hc1 ?_
  refine x_pop hm rfl rfl ?_
  refine x_aload_n hm rfl rfl ?_
  refine x_aload_n hm rfl rfl ?_
  refine x_iload_n hm rfl rfl ?_
  refine x_iconst hm rfl (v := nI 1) (by decide) ?_
  refine x_iadd hm rfl ?_
  rw [jI_add]
  refine x_iald hm rfl (lX (by omega) hX) ?_
  refine x_callV hm rfl rfl hc2 ?_
  refine x_pop hm rfl rfl ?_
  refine x_goto hm rfl (t := 1719) rfl ?_
  exact hout _ hJ2
theorem l_law (hX : X.1 ≤ 3072) : ∀ (n i : Nat) (M : mM), X.1 + 6 - i < n → i ≤ X.1 + 5 → J M → mEv X (fun r D => r = some (.int (nI 1)) ∧ ∃ M, D = con M) 245 18 [some (.ref 1000200), some (.ref 0), some (.ref 66), some (.int (nI i))] [] (con M) := by
  have hm : mMet 245 = some _ := rfl
  intro n
  induction n with
  | zero =>
    intro i M hin hi hJ
    omega
  | succ n ih =>
    intro i M hin hi hJ
    refine x_iload_n hm rfl rfl ?_
    refine x_aload_n hm rfl rfl ?_
    refine x_alen hm rfl lenX ?_
    refine x_bipush hm rfl (v := nI 6) (by decide) ?_
    refine x_isub hm rfl ?_
    refine x_icmp_gt hm rfl (t := 1725) rfl (fun h1 => ?_) (fun h1 => ?_)
    · refine x_iconst hm rfl (v := nI 1) (by decide) ?_
      refine x_iret hm rfl rfl (by first | rfl | exact bI_nar | decide) ?_
      exact ⟨rfl, _, rfl⟩
    · have h6 : i + 6 ≤ X.1 := sub6 hX (by omega) h1
      have hout : ∀ M, J M → mEv X (fun r D => r = some (.int (nI 1)) ∧ ∃ M, D = con M) 245 1719 [some (.ref 1000200), some (.ref 0), some (.ref 66), some (.int (nI i))] [] (con M) := fun M hJ => by
        refine x_iinc hm rfl rfl (v := nI 6) (by decide) rfl ?_
        rw [jI_add]
        refine x_goto hm rfl (t := 18) rfl ?_
        exact ih (i + 6) _ (by omega) (by omega) hJ
      refine x_aload_n hm rfl rfl ?_
      refine x_iload_n hm rfl rfl ?_
      refine x_iald hm rfl (lX (by omega) hX) ?_
      refine x_bipush hm rfl (v := nI 63) (by decide) ?_
      refine x_iand hm rfl ?_
      refine x_ts hm rfl (fun h2 => ⟨1719, rfl, ?_⟩) (fun i2 h2 g2 => ?_)
      · exact hout _ hJ
      · have k2 : i2 = 0 ∨ i2 = 1 ∨ i2 = 2 ∨ i2 = 3 ∨ i2 = 4 ∨ i2 = 5 ∨ i2 = 6 ∨ i2 = 7 ∨ i2 = 8 ∨ i2 = 9 ∨ i2 = 10 ∨ i2 = 11 ∨ i2 = 12 ∨ i2 = 13 ∨ i2 = 14 ∨ i2 = 15 ∨ i2 = 16 ∨ i2 = 17 ∨ i2 = 18 ∨ i2 = 19 ∨ i2 = 20 ∨ i2 = 21 ∨ i2 = 22 ∨ i2 = 23 ∨ i2 = 24 ∨ i2 = 25 ∨ i2 = 26 ∨ i2 = 27 ∨ i2 = 28 ∨ i2 = 29 ∨ i2 = 30 ∨ i2 = 31 ∨ i2 = 32 ∨ i2 = 33 ∨ i2 = 34 ∨ i2 = 35 ∨ i2 = 36 ∨ i2 = 37 ∨ i2 = 38 ∨ i2 = 39 ∨ i2 = 40 ∨ i2 = 41 ∨ i2 = 42 ∨ i2 = 43 ∨ i2 = 44 ∨ i2 = 45 ∨ i2 = 46 ∨ i2 = 47 ∨ i2 = 48 ∨ i2 = 49 := by omega
        rcases k2 with rfl | rfl | rfl | rfl | rfl | rfl | rfl | rfl | rfl | rfl | rfl | rfl | rfl | rfl | rfl | rfl | rfl | rfl | rfl | rfl | rfl | rfl | rfl | rfl | rfl | rfl | rfl | rfl | rfl | rfl | rfl | rfl | rfl | rfl | rfl | rfl | rfl | rfl | rfl | rfl | rfl | rfl | rfl | rfl | rfl | rfl | rfl | rfl | rfl | rfl
        · refine ⟨_, 248, rfl, rfl, ?_⟩
          exact lw_0 hX h6 hJ hout
        · refine ⟨_, 281, rfl, rfl, ?_⟩
          exact lw_1 hX h6 hJ hout
        · refine ⟨_, 314, rfl, rfl, ?_⟩
          exact lw_2 hX h6 hJ hout
        · refine ⟨_, 357, rfl, rfl, ?_⟩
          exact lw_3 hX h6 hJ hout
        · refine ⟨_, 390, rfl, rfl, ?_⟩
          exact lw_4 hX h6 hJ hout
        · refine ⟨_, 423, rfl, rfl, ?_⟩
          exact lw_5 hX h6 hJ hout
        · refine ⟨_, 466, rfl, rfl, ?_⟩
          exact lw_6 hX h6 hJ hout
        · refine ⟨_, 499, rfl, rfl, ?_⟩
          exact lw_7 hX h6 hJ hout
        · refine ⟨_, 522, rfl, rfl, ?_⟩
          exact lw_8 hX h6 hJ hout
        · refine ⟨_, 545, rfl, rfl, ?_⟩
          exact lw_9 hX h6 hJ hout
        · refine ⟨_, 578, rfl, rfl, ?_⟩
          exact lw_10 hX h6 hJ hout
        · refine ⟨_, 601, rfl, rfl, ?_⟩
          exact lw_11 hX h6 hJ hout
        · refine ⟨_, 624, rfl, rfl, ?_⟩
          exact lw_12 hX h6 hJ hout
        · refine ⟨_, 647, rfl, rfl, ?_⟩
          exact lw_13 hX h6 hJ hout
        · refine ⟨_, 680, rfl, rfl, ?_⟩
          exact lw_14 hX h6 hJ hout
        · refine ⟨_, 713, rfl, rfl, ?_⟩
          exact lw_15 hX h6 hJ hout
        · refine ⟨_, 746, rfl, rfl, ?_⟩
          exact lw_16 hX h6 hJ hout
        · refine ⟨_, 779, rfl, rfl, ?_⟩
          exact lw_17 hX h6 hJ hout
        · refine ⟨_, 812, rfl, rfl, ?_⟩
          exact lw_18 hX h6 hJ hout
        · refine ⟨_, 835, rfl, rfl, ?_⟩
          exact lw_19 hX h6 hJ hout
        · refine ⟨_, 868, rfl, rfl, ?_⟩
          exact lw_20 hX h6 hJ hout
        · refine ⟨_, 901, rfl, rfl, ?_⟩
          exact lw_21 hX h6 hJ hout
        · refine ⟨_, 924, rfl, rfl, ?_⟩
          exact lw_22 hX h6 hJ hout
        · refine ⟨_, 947, rfl, rfl, ?_⟩
          exact lw_23 hX h6 hJ hout
        · refine ⟨_, 960, rfl, rfl, ?_⟩
          exact lw_24 hX h6 hJ hout
        · refine ⟨_, 973, rfl, rfl, ?_⟩
          exact lw_25 hX h6 hJ hout
        · refine ⟨_, 1006, rfl, rfl, ?_⟩
          exact lw_26 hX h6 hJ hout
        · refine ⟨_, 1049, rfl, rfl, ?_⟩
          exact lw_27 hX h6 hJ hout
        · refine ⟨_, 1092, rfl, rfl, ?_⟩
          exact lw_28 hX h6 hJ hout
        · refine ⟨_, 1135, rfl, rfl, ?_⟩
          exact lw_29 hX h6 hJ hout
        · refine ⟨_, 1148, rfl, rfl, ?_⟩
          exact lw_30 hX h6 hJ hout
        · refine ⟨_, 1191, rfl, rfl, ?_⟩
          exact lw_31 hX h6 hJ hout
        · refine ⟨_, 1234, rfl, rfl, ?_⟩
          exact lw_32 hX h6 hJ hout
        · refine ⟨_, 1257, rfl, rfl, ?_⟩
          exact lw_33 hX h6 hJ hout
        · refine ⟨_, 1291, rfl, rfl, ?_⟩
          exact lw_34 hX h6 hJ hout
        · refine ⟨_, 1314, rfl, rfl, ?_⟩
          exact lw_35 hX h6 hJ hout
        · refine ⟨_, 1347, rfl, rfl, ?_⟩
          exact lw_36 hX h6 hJ hout
        · refine ⟨_, 1360, rfl, rfl, ?_⟩
          exact lw_37 hX h6 hJ hout
        · refine ⟨_, 1373, rfl, rfl, ?_⟩
          exact lw_38 hX h6 hJ hout
        · refine ⟨_, 1406, rfl, rfl, ?_⟩
          exact lw_39 hX h6 hJ hout
        · refine ⟨_, 1439, rfl, rfl, ?_⟩
          exact lw_40 hX h6 hJ hout
        · refine ⟨_, 1482, rfl, rfl, ?_⟩
          exact lw_41 hX h6 hJ hout
        · refine ⟨_, 1525, rfl, rfl, ?_⟩
          exact lw_42 hX h6 hJ hout
        · refine ⟨_, 1588, rfl, rfl, ?_⟩
          exact lw_43 hX h6 hJ hout
        · refine ⟨_, 1611, rfl, rfl, ?_⟩
          exact lw_44 hX h6 hJ hout
        · refine ⟨_, 1634, rfl, rfl, ?_⟩
          exact lw_45 hX h6 hJ hout
        · refine ⟨_, 1647, rfl, rfl, ?_⟩
          exact lw_46 hX h6 hJ hout
        · refine ⟨_, 1660, rfl, rfl, ?_⟩
          exact lw_47 hX h6 hJ hout
        · refine ⟨_, 1673, rfl, rfl, ?_⟩
          exact lw_48 hX h6 hJ hout
        · refine ⟨_, 1696, rfl, rfl, ?_⟩
          exact lw_49 hX h6 hJ hout
theorem m_law (hX : X.1 ≤ 3072) : mEv X (fun r D => r = some (.int (nI 1)) ∧ ∃ M, D = con M) 245 0 (mEnv 4 [.ref 1000200]) [] [] := by
  have hm : mMet 245 = some _ := rfl
  refine x_new hm rfl (d := 0) rfl (D2 := [.inr (3, mDf 3)]) rfl ?_
  refine x_dup hm rfl rfl ?_
  refine x_callI hm rfl (mCallN (D := [.inr (3, mDf 3)]) (by decide) rfl rfl rfl rfl rfl rfl) c0 ?_
  refine x_astore_n hm rfl rfl ?_
  refine x_new hm rfl (d := 66) E66_l (D2 := E66 ++ [.inr (4, mDf 4)]) rfl ?_
  refine x_dup hm rfl rfl ?_
  refine x_callI hm rfl (mCallN (by decide) rfl rfl rfl rfl rfl (nw_at E66_l)) (c131 (D0 := E66) (i := 66) E66_l) ?_
  refine x_astore_n hm rfl rfl ?_
  refine x_iconst hm rfl (v := nI 0) (by decide) ?_
  refine x_istore_n hm rfl rfl ?_
  rw [D_con, ← con_cn]
  exact l_law hX _ 0 _ (Nat.lt_succ_self _) (Nat.zero_le _) j_start
end LW
