/-! ===== the law's entry: what the Statement gives of the start ===== -/
noncomputable def mTm (t : Nat) : Term := .string "EnvyRust$TextReader" (mTk.getD t 0)
noncomputable def mTv (t : Nat) : Term := .field (mTm t) "java/lang/String" "value" "[B"
noncomputable def mNwd (q : Nat × Nat × Nat × Nat) : Cond := match q.2.1 with
  | 0 => .exactly (mTm q.2.2.1) "java/lang/String"
  | 1 => .eq (.field (mTm q.2.2.1) "java/lang/String" "coder" "B") (.int 0)
  | 2 => .arrayOf (mTv q.2.2.1) .byte
  | 3 => .eq (.length (mTv q.2.2.1)) (.int (Int32.ofNat (mTx.getD q.2.2.1 []).length))
  | 4 => .eq (.elem (mTv q.2.2.1) (.int (Int32.ofNat q.2.2.2))) (.int (nI ((mTx.getD q.2.2.1 []).getD q.2.2.2 0)))
  | _ => .eq (mTm q.2.2.1) (.string "EnvyRustModel" q.2.2.2)
theorem mNr_wk : mWalk 0 (flatC (Jvm.Cond.and given_1 narrow_1)) (mNr.map fun q => (q.1, mNwd q)) = true := by decide +kernel
def mNrHas (k t j : Nat) : Nat × Nat × Nat × Nat → Bool := fun q => Nat.beq q.2.1 k && Nat.beq q.2.2.1 t && Nat.beq q.2.2.2 j
theorem mNr_ck : ((List.range 15).all fun t => mNr.any (mNrHas 0 t 0) && mNr.any (mNrHas 1 t 0) && mNr.any (mNrHas 2 t 0) && mNr.any (mNrHas 3 t 0) && mNr.any (mNrHas 5 t (mTk4.getD t 0)) && ((List.range (mTx.getD t []).length).all fun j => mNr.any (mNrHas 4 t j)) && Nat.blt (mTx.getD t []).length 100) = true := by decide +kernel
theorem mNr_at {k t j : Nat} (h : mNr.any (mNrHas k t j) = true) : ∃ i, mNwd (i, k, t, j) ∈ flatC (Jvm.Cond.and given_1 narrow_1) := by
  obtain ⟨q, hq, h1⟩ := List.any_eq_true.mp h
  simp only [mNrHas, Bool.and_eq_true] at h1
  have hm := mWalk_spec mNr_wk _ (List.mem_map.mpr ⟨q, hq, rfl⟩)
  obtain ⟨i, k', t', j'⟩ := q
  have e1 := Nat.eq_of_beq_eq_true h1.1.1
  have e2 := Nat.eq_of_beq_eq_true h1.1.2
  have e3 := Nat.eq_of_beq_eq_true h1.2
  dsimp only at e1 e2 e3
  subst e1
  subst e2
  subst e3
  exact ⟨i, hm⟩
/-- a text's reference: by its place in either class -/
theorem mLT_str : mLT.all (fun q => !Nat.beq q.2.2.1 3 || (Nat.beq q.1 1 && Nat.beq q.2.1 (mTk.getD q.2.2.2.2.1 0)) || (Nat.beq q.1 4 && Nat.beq q.2.1 (mTk4.getD q.2.2.2.2.1 0))) = true := by decide +kernel
theorem mEq_ref {args : Array Value} {s : State} {t u : Term} {a : Nat} (h : (Cond.eq t u).before args s = true) (ht : t.eval args s none [] s = some (.ref a)) : u.eval args s none [] s = some (.ref a) := by
  cases hu : u.eval args s none [] s with
  | none => simp [Cond.before, Cond.holds, Cond.value, ht, hu] at h
  | some w =>
    simp only [Cond.before, Cond.holds, Cond.value, ht, hu] at h
    cases w <;> simp_all
section MST
variable {s : State} {b L : Nat} {xs : Nat → Int32}
theorem mTxt_all (hgv : (Jvm.Cond.and given_1 narrow_1).before #[Value.ref b] s = true) (A : Nat → Prop) (hA : ∀ a : Nat, a < s.heap.size → ¬ A a) : ∀ t : Nat, ∃ q : Nat × Nat, t < 15 → (mTm t).eval #[Value.ref b] s none [] s = some (.ref q.1) ∧ va_O "java/lang/String" q.1 A s s.heap ∧ va_OF "java/lang/String" "coder" "B" (.int 0) q.1 A s s.heap ∧ va_OF "java/lang/String" "value" "[B" (.ref q.2) q.1 A s s.heap ∧
    va_T .byte q.2 (mTx.getD t []).length (fun j => .int (nI ((mTx.getD t []).getD j 0))) A s s.heap ∧ (Term.string "EnvyRustModel" (mTk4.getD t 0)).eval #[Value.ref b] s none [] s = some (.ref q.1) := by
  intro t
  by_cases ht : t < 15
  · have hfl := flat_of_before _ hgv
    have hck := List.all_eq_true.mp mNr_ck t (List.mem_range.mpr ht)
    simp only [Bool.and_eq_true] at hck
    obtain ⟨⟨⟨⟨⟨⟨h0, h1⟩, h2⟩, h3⟩, h5⟩, h4⟩, h6⟩ := hck
    obtain ⟨i0, w0⟩ := mNr_at h0
    obtain ⟨i1, w1⟩ := mNr_at h1
    obtain ⟨i2, w2⟩ := mNr_at h2
    obtain ⟨i3, w3⟩ := mNr_at h3
    obtain ⟨i5, w5⟩ := mNr_at h5
    obtain ⟨a, c, cA, kA, q1, q2, q3, q4, q5, q6, -⟩ := Cond.exactly_spec (args := #[Value.ref b]) (first := s) (o := none) (s := s) (idx := []) (t := mTm t) (cls := "java/lang/String") (hfl _ w0)
    have h6 := Nat.blt_eq.mp h6
    obtain ⟨v, hv, hT⟩ := va_Tof (tm := mTv t) (ty := .byte) (N := (mTx.getD t []).length) (f := fun j => .int (nI ((mTx.getD t []).getD j 0))) (A := A) (by omega) (hfl _ w2) (va_eqt (hfl _ w3)) (fun j hj => by
      obtain ⟨i4, w4⟩ := mNr_at (List.all_eq_true.mp h4 j (List.mem_range.mpr hj))
      exact va_eqt (hfl _ w4)) hA
    exact ⟨(a, v), fun _ => ⟨q1, ⟨cA, q3, q5, by rw [q6]; exact q2, hA a (Array.getElem?_eq_some_iff.mp q3).1⟩, vk_OFof q1 (va_eqt (hfl _ w1)) hA, vk_OFof q1 hv hA, hT, mEq_ref (hfl _ w5) q1⟩⟩
  · exact ⟨(0, 0), fun h => absurd h ht⟩
theorem mArrC_spec {args : Array Value} {type : FieldType} (h : (Cond.arrayClass type).before args s = true) : ∃ (c : ClassId) (k : Class) (comp : ClassId), s.vm.findClass ("[" ++ type.toString) = some c ∧ s.vm.classes[c]? = some k ∧ k.kind = .array comp type := by
  obtain ⟨c, k, comp, h1, h2, h3⟩ := Cond.arrayClass_spec h
  exact ⟨c, k, comp, h1, h2, h3⟩
theorem mKn_all {args : Array Value} (hts : ∀ w ∈ lw_tbl, w.before args s = true) : ∃ (dC : Nat → ClassId) (dI : Nat → Nat → Nat), ∀ (k : Nat) (q : vw_C), vwCl[k]? = some q → u_Kn s q.1 q.2.1 q.2.2 (dC k) (dI k) := by
  have h0 : ∀ a : Nat, ∃ x : ClassId × (Nat → Nat), a < 5 → u_Kn s (mNm a) (mFT a) (mFN a) x.1 x.2 := by
    intro a
    by_cases ha : a < 5
    · obtain ⟨c, iS, h⟩ := u_known (C := mNm a) (T := mFT a) (N := mFN a) (n := mFN a) (fun w hw => hts w (List.mem_filter.mp hw).1) (mU_in ha) (hts _ (List.mem_filter.mp (mNI_in ha).1).1)
      exact ⟨(c, iS), fun _ => h⟩
    · exact ⟨(0, fun _ => 0), fun h => absurd h ha⟩
  obtain ⟨f, hf⟩ := Classical.axiomOfChoice h0
  refine ⟨fun k => (f k).1, fun k => (f k).2, fun k q hq => ?_⟩
  have hk : k < 5 := (List.getElem?_eq_some_iff.mp hq).1
  rw [mCl_ok hk] at hq
  cases hq
  exact hf k hk
theorem mAO_w : Cond.arrayOver (.object "EnvyRust$Sheet") ∈ tables_1 ∧ Cond.arrayOver (.object "java/lang/String") ∈ tables_1 ∧ Cond.arrayOver (.array .int) ∈ tables_1 := ⟨by decide +kernel, by decide +kernel, by decide +kernel⟩
theorem mArr_all {args : Array Value} (hts : ∀ w ∈ lw_tbl, w.before args s = true) : ∃ tc : Nat → ClassId, ∀ (k : Nat) (q : ClassId × FieldType), ([(tc 0, .int), (tc 1, .byte), (tc 2, .object "EnvyRust$Sheet"), (tc 3, .array .int), (tc 4, .object "java/lang/String")] : List (ClassId × FieldType))[k]? = some q → ArrOfT s q.1 q.2 ∧ va_RA s q.1 q.2 := by
  have prim : ∀ ty : FieldType, (ty = .int ∨ ty = .byte) → (Cond.arrayClass ty).before args s = true → ∃ c : ClassId, ArrOfT s c ty ∧ va_RA s c ty := by
    intro ty hty h
    obtain ⟨c, k, comp, h1, h2, h3⟩ := mArrC_spec h
    refine ⟨c, fun n z => ⟨fun q hq => (by cases hq), k, h2, comp, h3⟩, ?_⟩
    rcases hty with rfl | rfl <;> exact h1
  have obj : ∀ C : String, (Cond.arrayOver (.object C)).before args s = true → ∃ c : ClassId, ArrOfT s c (.object C) ∧ va_RA s c (.object C) := by
    intro C h
    obtain ⟨comp, c, k, h1, -, h3, h4, h5⟩ := Cond.arrayOver_spec h
    exact ⟨c, fun n z => ⟨fun q hq => (by cases hq), k, h3, comp, h4⟩, k, comp, h3, h4, h1, h5⟩
  have arr : (Cond.arrayOver (.array .int)).before args s = true → ∃ c : ClassId, ArrOfT s c (.array .int) ∧ va_RA s c (.array .int) := by
    intro h
    obtain ⟨comp, c, k, h1, h3, h4, h5⟩ := Cond.arrayOver_specA h
    exact ⟨c, fun n z => ⟨fun q hq => (by cases hq), k, h3, comp, h4⟩, h5⟩
  obtain ⟨c0, k0⟩ := prim .int (Or.inl rfl) (hts _ (List.mem_filter.mp mAC_i).1)
  obtain ⟨c1, k1⟩ := prim .byte (Or.inr rfl) (hts _ (List.mem_filter.mp mAC_b).1)
  obtain ⟨c2, k2⟩ := obj "EnvyRust$Sheet" (hts _ (mTb_in mAO_w.1))
  obtain ⟨c3, k3⟩ := arr (hts _ (mTb_in mAO_w.2.2))
  obtain ⟨c4, k4⟩ := obj "java/lang/String" (hts _ (mTb_in mAO_w.2.1))
  refine ⟨fun k => match k with
    | 0 => c0
    | 1 => c1
    | 2 => c2
    | 3 => c3
    | _ => c4, fun k q hq => ?_⟩
  match k, hq with
  | 0, hq => cases hq; exact k0
  | 1, hq => cases hq; exact k1
  | 2, hq => cases hq; exact k2
  | 3, hq => cases hq; exact k3
  | 4, hq => cases hq; exact k4
  | k + 5, hq => simp at hq
theorem mST_w : Cond.laysStatic "EnvyRust" "KIND_ABOVE" "[I" ∈ tables_1 ∧ Cond.initialized "EnvyRust" ∈ tables_1 ∧ Cond.laysStatic "java/lang/String" "COMPACT_STRINGS" "Z" ∈ tables_1 ∧ Cond.initialized "java/lang/String" ∈ tables_1 ∧ Cond.laysStatic "jdk/internal/util/Preconditions" "SIOOBE_FORMATTER" "Ljava/util/function/BiFunction;" ∈ tables_1 ∧ Cond.initialized "jdk/internal/util/Preconditions" ∈ tables_1 :=
  ⟨by decide +kernel, by decide +kernel, by decide +kernel, by decide +kernel, by decide +kernel, by decide +kernel⟩
def mKst : Term := .static "EnvyRust" "KIND_ABOVE" "[I"
noncomputable def mNA : List Cond := [.arrayOf mKst .int, .eq (.length mKst) (.int (Int32.ofNat 7)), .eq (.static "java/lang/String" "COMPACT_STRINGS" "Z") (.int 1), .isRef (.static "jdk/internal/util/Preconditions" "SIOOBE_FORMATTER" "Ljava/util/function/BiFunction;")] ++ (List.range 7).map (fun j => Cond.eq (.elem mKst (.int (Int32.ofNat j))) (.int (mKA j)))
theorem mNA_w : mNA.all (fun w => decide (w ∈ flatC (Jvm.Cond.and given_1 narrow_1))) = true := by decide +kernel
theorem mStart_E (hts : ∀ w ∈ lw_tbl, w.before #[Value.ref b] s = true) (hX : va_X b L xs s s.heap) (hbl : b < s.heap.size) (hL : L ≤ 3072) (hgv : (Jvm.Cond.and given_1 narrow_1).before #[Value.ref b] s = true) :
    ∃ G : mG, G.1 = s.heap.size ∧ G.2.2.2.2 = (L, xs) ∧ G.2.1 200 = b ∧ mE G s s.heap := by
  have hA : ∀ a : Nat, a < s.heap.size → ¬ (fun q : Nat => s.heap.size ≤ q) a := fun a h => Nat.not_le.mpr h
  have hfl := flat_of_before _ hgv
  have hna : ∀ w ∈ mNA, w.before #[Value.ref b] s = true := fun w hw => hfl _ (of_decide_eq_true (List.all_eq_true.mp mNA_w w hw))
  obtain ⟨tx, htx⟩ := Classical.axiomOfChoice (mTxt_all hgv _ hA)
  obtain ⟨dC, dI, hKn⟩ := mKn_all hts
  obtain ⟨tc, htc⟩ := mArr_all hts
  obtain ⟨ka, hka, hkT⟩ := va_Tof (tm := mKst) (ty := .int) (N := 7) (f := fun j => .int (mKA j)) (A := fun q : Nat => s.heap.size ≤ q) (by decide) (hna _ (by simp [mNA])) (va_eqt (hna _ (by simp [mNA]))) (fun j hj => va_eqt (hna _ (List.mem_append_right _ (List.mem_map.mpr ⟨j, List.mem_range.mpr hj, rfl⟩)))) hA
  let ro : Nat → Nat := fun i => if i = 100 then ka else if i = 200 then b else if 300 ≤ i then (tx (i - 300)).2 else (tx i).1
  have ro1 : ∀ t, t < 15 → ro t = (tx t).1 := fun t ht => by
    show (if t = 100 then ka else if t = 200 then b else if 300 ≤ t then _ else _) = _
    rw [if_neg (by omega), if_neg (by omega), if_neg (by omega)]
  have ro3 : ∀ t, t < 15 → ro (300 + t) = (tx t).2 := fun t ht => by
    show (if 300 + t = 100 then ka else if 300 + t = 200 then b else if 300 ≤ 300 + t then (tx (300 + t - 300)).2 else _) = _
    rw [if_neg (by omega), if_neg (by omega), if_pos (by omega), Nat.add_sub_cancel_left]
  refine ⟨(s.heap.size, ro, (dC, dI), tc, (L, xs)), rfl, rfl, rfl, ⟨hKn, fun k q hq => htc k q hq⟩, fun w hw => ?_, ⟨hts _ (mTb_in mAO_w.1), hts _ (mTb_in mAO_w.2.1), hts _ (mTb_in mAO_w.2.2)⟩, fun t ht => ?_, fun q hq hk => ?_, ?_, hkT, ?_, ?_, ?_⟩
  · have hm := List.mem_filter.mp hw
    have hk := hm.2
    unfold mNest at hk
    split at hk
    · exact va_Nw.of rfl (hts _ hm.1)
    · exact va_Nw.of rfl (hts _ hm.1)
    · cases hk
  · show va_O "java/lang/String" (ro t) _ s s.heap ∧ va_OF "java/lang/String" "coder" "B" (.int 0) (ro t) _ s s.heap ∧ va_OF "java/lang/String" "value" "[B" (.ref (ro (300 + t))) (ro t) _ s s.heap ∧ va_T .byte (ro (300 + t)) _ _ _ s s.heap
    rw [ro1 t ht, ro3 t ht]
    obtain ⟨-, h1, h2, h3, h4, -⟩ := htx t ht
    exact ⟨h1, h2, h3, h4⟩
  · obtain ⟨hw, hck⟩ := mLT_at (q := q) (List.getElem?_of_mem hq).choose_spec
    obtain ⟨oc, idx, kd, a, bb, z⟩ := q
    dsimp only at hk
    subst hk
    simp only [mLck] at hck
    have hb15 : bb < 15 := Nat.blt_eq.mp hck
    have hs := List.all_eq_true.mp mLT_str _ hq
    simp only [Bool.or_eq_true, Bool.and_eq_true] at hs
    obtain ⟨h0, -, -, -, -, h5⟩ := htx bb hb15
    refine vk_R.of (A := #[Value.ref b]) (hts _ (mTb_in hw)) ?_
    show (Term.string (mNm oc) idx).eval #[Value.ref b] s none [] s = some (.ref (ro bb))
    rw [ro1 bb hb15]
    rcases hs with (hs | ⟨e1, e2⟩) | ⟨e1, e2⟩
    · cases hs
    · have e1 := Nat.eq_of_beq_eq_true e1
      have e2 := Nat.eq_of_beq_eq_true e2
      subst e1
      rw [e2]
      exact h0
    · have e1 := Nat.eq_of_beq_eq_true e1
      have e2 := Nat.eq_of_beq_eq_true e2
      subst e1
      rw [e2]
      exact h5
  · exact va_Zref (hts _ (mTb_in mST_w.1)) (hts _ (mTb_in mST_w.2.1)) hka hA
  · obtain ⟨scr, h1, h2, h3, h4, h5⟩ := hX
    exact ⟨scr, h1, h2, h3, by show L ≤ _; omega, by rw [h4] <;> rfl, fun j hj => h5 j hj, hA b hbl⟩
  · exact va_Zof (hts _ (mTb_in mST_w.2.2.1)) (hts _ (mTb_in mST_w.2.2.2.1)) (va_eqt (hna _ (by simp [mNA]))) hA
  · exact va_Zqof (hts _ (mTb_in mST_w.2.2.2.2.1)) (hts _ (mTb_in mST_w.2.2.2.2.2)) (hna _ (by simp [mNA])) hA
end MST
