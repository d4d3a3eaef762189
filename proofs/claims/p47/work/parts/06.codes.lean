theorem mIS_wk : mWalk 0 tables_1 (mIS.map fun q => (q.1, cond (Nat.beq q.2.2 1) (.static (mY q.2.1)) (.instanceMethod (mY q.2.1)))) = true := by decide +kernel
theorem mSE2_wk : mWalk 0 tables_1 (mSE2.map fun q => (q.1, .selects (mY q.2).cls (mY q.2) (mY q.2))) = true := by decide +kernel
theorem mSE1_wk : mWalk 0 (k2_sels lw_privs) (mSE1.map fun q => (q.1, .selects (mY q.2).cls (mY q.2) (mY q.2))) = true := by decide +kernel
theorem mIN_wk : mWalk 0 tables_1 (mIN.map fun q => (q.1, .initialized (mNm q.2))) = true := by decide +kernel
noncomputable def mMck (i : Nat) (r : mRow) : Bool := Nat.beq r.1 5 || Nat.ble 7 r.1 || (plainName r.2.1.cls && decide (r.2.1.cls = mNm r.1) && decide (r.2.1.cls ≠ "java/lang/invoke/MethodHandle" ∧ r.2.1.cls ≠ "java/lang/invoke/VarHandle")
  && mIN.any (fun q => Nat.beq q.2 r.1) && (mIS.any (fun q => Nat.beq q.2.1 i && Nat.beq q.2.2 1) || (mIS.any (fun q => Nat.beq q.2.1 i && !Nat.beq q.2.2 1) && (decide (r.2.1.name = "<init>") || mSE1.any (fun q => Nat.beq q.2 i) || mSE2.any (fun q => Nat.beq q.2 i)))))
theorem mM_ck : (List.range 256).all (fun i => match mMet i with
    | some r => mMck i r
    | none => true) = true := by decide +kernel
theorem mMs_len : mMs.length ≤ 16 := by decide +kernel
theorem mMs_last : mMs.flatten.getLast?.map (fun r => r.1) = some 5 := by decide +kernel
theorem mMet_lt {i : Nat} {r : mRow} (h : mMet i = some r) : i < 256 := by
  unfold mMet at h
  cases hl : mMs[i / 16]? with
  | none => rw [hl] at h; cases h
  | some l =>
    have := (List.getElem?_eq_some_iff.mp hl).1
    have := mMs_len
    omega
theorem mMet_in {i : Nat} {r : mRow} (h : mMet i = some r) : r ∈ mMs.flatten := by
  unfold mMet at h
  cases hl : mMs[i / 16]? with
  | none => rw [hl] at h; cases h
  | some l =>
    rw [hl, Option.bind_some] at h
    exact List.mem_flatten.mpr ⟨l, List.mem_of_getElem? hl, List.mem_of_getElem? h⟩
theorem mY_of {i : Nat} {r : mRow} (h : mMet i = some r) : mY i = r.2.1 := by unfold mY; rw [h]; rfl
theorem mM_code {i : Nat} {r : mRow} (h : mMet i = some r) (h5 : r.1 ≠ 5) : Cond.code r.2.1 r.2.2.1 r.2.2.2.1 r.2.2.2.2.1 ∈ tables_1 := by
  have hr := mMet_in h
  have hd : r ∈ mMs.flatten.dropLast := by
    have hn : mMs.flatten ≠ [] := fun e => by rw [e] at hr; cases hr
    rw [← List.dropLast_concat_getLast hn] at hr
    rcases List.mem_append.mp hr with q | q
    · exact q
    · exfalso
      have hl := mMs_last
      rw [List.getLast?_eq_some_getLast hn] at hl
      rw [List.mem_singleton.mp q] at h5
      exact h5 (Option.some.inj hl)
  have hm : mCw r ∈ mMs.flatten.dropLast.map mCw := List.mem_map.mpr ⟨r, hd, rfl⟩
  rw [← mM_cw] at hm
  obtain ⟨w, hw, he⟩ := List.mem_filterMap.mp hm
  split at he
  · cases he
    exact hw
  · cases he
theorem mM_at {i : Nat} {r : mRow} (h : mMet i = some r) (h5 : Nat.ble r.1 6 = true) (h6 : r.1 ≠ 5) : plainName r.2.1.cls = true ∧ r.2.1.cls = mNm r.1 ∧ (r.2.1.cls ≠ "java/lang/invoke/MethodHandle" ∧ r.2.1.cls ≠ "java/lang/invoke/VarHandle")
    ∧ Cond.initialized r.2.1.cls ∈ tables_1 ∧ (Cond.static r.2.1 ∈ tables_1 ∨ (Cond.instanceMethod r.2.1 ∈ tables_1 ∧ (r.2.1.name = "<init>" ∨ Cond.selects r.2.1.cls r.2.1 r.2.1 ∈ lw_tbl))) := by
  have hc := List.all_eq_true.mp mM_ck i (List.mem_range.mpr (mMet_lt h))
  simp only [h] at hc
  unfold mMck at hc
  have e5 : Nat.beq r.1 5 = false := by
    cases hb : Nat.beq r.1 5 with
    | false => rfl
    | true => exact absurd (Nat.eq_of_beq_eq_true hb) h6
  have e7 : Nat.ble 7 r.1 = false := by
    cases hb : Nat.ble 7 r.1 with
    | false => rfl
    | true =>
      have := Nat.le_of_ble_eq_true hb
      have := Nat.le_of_ble_eq_true h5
      omega
  rw [e5, e7] at hc
  simp only [Bool.false_or, Bool.and_eq_true, decide_eq_true_eq, Bool.or_eq_true, List.any_eq_true] at hc
  obtain ⟨⟨⟨⟨h1, h2⟩, h3⟩, qi, hqi, hqe⟩, h8⟩ := hc
  have hY := mY_of h
  refine ⟨h1, h2, h3, ?_, ?_⟩
  · have hm := mWalk_spec mIN_wk _ (List.mem_map.mpr ⟨qi, hqi, rfl⟩)
    rw [h2]
    have : qi.2 = r.1 := Nat.eq_of_beq_eq_true hqe
    rw [← this]
    exact hm
  · rcases h8 with ⟨q, hq, hqa, hqb⟩ | ⟨⟨q, hq, hqa, hqb⟩, h9⟩
    · left
      have hm := mWalk_spec mIS_wk _ (List.mem_map.mpr ⟨q, hq, rfl⟩)
      simp only [hqb, cond_true] at hm
      rw [Nat.eq_of_beq_eq_true hqa, hY] at hm
      exact hm
    · right
      refine ⟨?_, ?_⟩
      · have hm := mWalk_spec mIS_wk _ (List.mem_map.mpr ⟨q, hq, rfl⟩)
        have hqb' : Nat.beq q.2.2 1 = false := by simpa using hqb
        simp only [hqb', cond_false] at hm
        rw [Nat.eq_of_beq_eq_true hqa, hY] at hm
        exact hm
      · rcases h9 with (h9 | ⟨q, hq, hqa⟩) | ⟨q, hq, hqa⟩
        · exact Or.inl h9
        · right
          have hm := mWalk_spec mSE1_wk _ (List.mem_map.mpr ⟨q, hq, rfl⟩)
          simp only [Nat.eq_of_beq_eq_true hqa, hY] at hm
          exact List.mem_append_left _ hm
        · right
          have hm := mWalk_spec mSE2_wk _ (List.mem_map.mpr ⟨q, hq, rfl⟩)
          simp only [Nat.eq_of_beq_eq_true hqa, hY] at hm
          exact mTb_in hm
def mKi (i : Instr) : Option Nat := match i with
  | .getfield k => some k
  | .putfield k => some k
  | .getstatic k => some k
  | .ldc k => some k
  | .ldc_w k => some k
  | .new k => some k
  | .anewarray k => some k
  | .multianewarray k _ => some k
  | .invokestatic k => some k
  | .invokevirtual k => some k
  | .invokespecial k => some k
  | _ => none
def mKd (i : Instr) (k : Nat) : Bool := match i with
  | .getfield _ => Nat.ble k 1
  | .putfield _ => Nat.ble k 1
  | .getstatic _ => Nat.beq k 7
  | .ldc _ => Nat.beq k 2 || Nat.beq k 3
  | .ldc_w _ => Nat.beq k 2 || Nat.beq k 3
  | .new _ => Nat.beq k 4
  | .anewarray _ => Nat.beq k 5
  | .multianewarray _ _ => Nat.beq k 6
  | .invokestatic _ => Nat.beq k 12 || Nat.beq k 13 || Nat.beq k 21 || Nat.beq k 24 || Nat.beq k 25
  | .invokevirtual _ => Nat.beq k 10 || Nat.beq k 11 || Nat.beq k 22 || Nat.beq k 23
  | .invokespecial _ => Nat.beq k 14 || Nat.beq k 15 || Nat.beq k 20
  | _ => true
/-- the callee's room fits, and it is no law -/
noncomputable def mRm (row : mRow) (k a : Nat) : Bool := match k with
  | 20 => Nat.ble 1 row.2.2.2.2.2.1 && Nat.ble 20 row.2.2.2.2.2.2
  | 21 => Nat.ble 1 row.2.2.2.2.2.1 && Nat.ble 30 row.2.2.2.2.2.2
  | 22 => Nat.ble 2 row.2.2.2.2.2.1 && Nat.ble 40 row.2.2.2.2.2.2
  | 23 => Nat.ble 5 row.2.2.2.2.2.1 && Nat.ble 121 row.2.2.2.2.2.2
  | 24 => Nat.ble 1 row.2.2.2.2.2.1 && Nat.ble 21 row.2.2.2.2.2.2
  | 25 => Nat.ble 1 row.2.2.2.2.2.1 && Nat.ble 21 row.2.2.2.2.2.2
  | _ => match mMet a with
    | some r => Nat.ble (r.2.2.2.2.2.1 + 1) row.2.2.2.2.2.1 && Nat.ble (8 + (r.2.2.2.1 + 11) + r.2.2.2.2.2.2) row.2.2.2.2.2.2 && !Nat.beq r.1 5 && Nat.ble r.1 6
    | none => false
def mLn (i : Instr) : Nat := match i with
  | .bipush _ => 2
  | .sipush _ => 3
  | .ldc _ => 2
  | .ldc_w _ => 3
  | .iload _ => 2
  | .lload _ => 2
  | .aload _ => 2
  | .istore _ => 2
  | .lstore _ => 2
  | .astore _ => 2
  | .iinc _ _ => 3
  | .ifCond _ _ => 3
  | .if_icmp _ _ => 3
  | .goto _ => 3
  | .getfield _ => 3
  | .putfield _ => 3
  | .getstatic _ => 3
  | .invokestatic _ => 3
  | .invokevirtual _ => 3
  | .invokespecial _ => 3
  | .new _ => 3
  | .newarray _ => 2
  | .anewarray _ => 3
  | .multianewarray _ _ => 4
  | _ => 1
def mLnk' (i : Instr) (n : Nat) : Bool := match i with
  | .tableswitch _ _ _ _ => true
  | i => Nat.beq n (mLn i)
noncomputable def mEck (row : mRow) (e : mEnt) : Bool := mLnk' e.1 e.2.1 && match mKi e.1 with
  | none => true
  | some idx => mKd e.1 e.2.2.2.1 && decide (mLT[e.2.2.1]? = some (row.1, idx, e.2.2.2.1, e.2.2.2.2.1, e.2.2.2.2.2.1, e.2.2.2.2.2.2)) && (Nat.blt e.2.2.2.1 10 || mRm row e.2.2.2.1 e.2.2.2.2.1)
/-- the code at one place -/
noncomputable def mPck (row : mRow) (pc : Nat) (e : Option mEnt) : Bool := match e with
  | none => true
  | some e => decide (decode row.2.2.1 pc = .ok (e.1, e.2.1)) && mEck row e
noncomputable def mLc (row : mRow) : Nat → List (Option mEnt) → Bool
  | _, [] => true
  | pc, e :: l => mPck row pc e && mLc row (pc + 1) l
noncomputable def mLcc (row : mRow) : Nat → List (List (Option mEnt)) → Bool
  | _, [] => true
  | k, c :: l => mLc row (32 * k) c && mLcc row (k + 1) l
noncomputable def mCk (i : Nat) : Bool := match mMet i, mCode i with
  | some row, some k => mLcc row 0 k
  | none, none => true
  | _, _ => false
theorem mLc_at {row : mRow} : ∀ (l : List (Option mEnt)) (pc i : Nat) (e : Option mEnt), mLc row pc l = true → l[i]? = some e → mPck row (pc + i) e = true := by
  intro l
  induction l with
  | nil => intro pc i e h hi; simp at hi
  | cons d l ih =>
    intro pc i e h hi
    simp only [mLc, Bool.and_eq_true] at h
    cases i with
    | zero => simp only [List.getElem?_cons_zero, Option.some.injEq] at hi; subst hi; exact h.1
    | succ i =>
      simp only [List.getElem?_cons_succ] at hi
      have := ih (pc + 1) i e h.2 hi
      rwa [show pc + 1 + i = pc + (i + 1) by omega] at this
theorem mLcc_at {row : mRow} : ∀ (l : List (List (Option mEnt))) (k i : Nat) (c : List (Option mEnt)), mLcc row k l = true → l[i]? = some c → mLc row (32 * (k + i)) c = true := by
  intro l
  induction l with
  | nil => intro k i c h hi; simp at hi
  | cons d l ih =>
    intro k i c h hi
    simp only [mLcc, Bool.and_eq_true] at h
    cases i with
    | zero => simp only [List.getElem?_cons_zero, Option.some.injEq] at hi; subst hi; exact h.1
    | succ i =>
      simp only [List.getElem?_cons_succ] at hi
      have := ih (k + 1) i c h.2 hi
      rwa [show k + 1 + i = k + (i + 1) by omega] at this
theorem mCk_at {i pc : Nat} {row : mRow} {e : mEnt} (h : mCk i = true) (hr : mMet i = some row) (he : mFetch i pc = some e) : decode row.2.2.1 pc = .ok (e.1, e.2.1) ∧ mEck row e = true := by
  unfold mCk at h
  unfold mFetch at he
  cases hk : mCode i with
  | none => rw [hk] at he; cases he
  | some k =>
    rw [hk] at he
    simp only [hr, hk] at h
    simp only [Option.bind_some, Option.bind_eq_some_iff] at he
    obtain ⟨c, hc, o, ho, ho2⟩ := he
    have ho3 : o = some e := ho2
    subst ho3
    have h1 := mLcc_at k 0 (pc / 32) c h hc
    have h2 := mLc_at c _ (pc % 32) _ h1 ho
    rw [show 32 * (0 + pc / 32) + pc % 32 = pc by omega] at h2
    simp only [mPck, Bool.and_eq_true, decide_eq_true_eq] at h2
    exact h2
