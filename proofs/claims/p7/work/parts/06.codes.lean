theorem mIS_wk : mWalk 0 tables_1 (mIS.map fun q => (q.1, cond (Nat.beq q.2.2 1) (.static (mY q.2.1)) (.instanceMethod (mY q.2.1)))) = true := by decide +kernel
theorem mSE2_wk : mWalk 0 tables_1 (mSE2.map fun q => (q.1, .selects (mY q.2).cls (mY q.2) (mY q.2))) = true := by decide +kernel
theorem mSE1_wk : mWalk 0 (k2_sels lw_privs) (mSE1.map fun q => (q.1, .selects (mY q.2).cls (mY q.2) (mY q.2))) = true := by decide +kernel
theorem mIN_wk : mWalk 0 tables_1 (mIN.map fun q => (q.1, .initialized (mNm q.2))) = true := by decide +kernel
noncomputable def mMck (i : Nat) (r : mRow) : Bool := Nat.beq r.1 5 || Nat.ble 7 r.1 || (plainName r.2.1.cls && decide (r.2.1.cls = mNm r.1) && decide (r.2.1.cls ≠ "java/lang/invoke/MethodHandle" ∧ r.2.1.cls ≠ "java/lang/invoke/VarHandle")
  && mIN.any (fun q => Nat.beq q.2 r.1) && (mIS.any (fun q => Nat.beq q.2.1 i && Nat.beq q.2.2 1) || (mIS.any (fun q => Nat.beq q.2.1 i && !Nat.beq q.2.2 1) && (decide (r.2.1.name = "<init>") || mSE1.any (fun q => Nat.beq q.2 i) || mSE2.any (fun q => Nat.beq q.2 i)))))
theorem mM_ck : (List.range 256).all (fun i => match mMet i with
    | some r => mMck i r
    | none => true) = true := by decide +kernel
theorem mMs_len : mMs.length ≤ 16 := by decide +kernel
theorem mMs_last : mMs.flatten.getLast?.map (fun r => r.1) = some 5 := by decide +kernel
theorem mMet_lt {i : Nat} {r : mRow} (h : mMet i = some r) : i < 256 := by
  unfold mMet at h
  cases hl : mMs[i / 16]? with
  | none => rw [hl] at h; cases h
  | some l =>
    have := (List.getElem?_eq_some_iff.mp hl).1
    have := mMs_len
    omega
theorem mMet_in {i : Nat} {r : mRow} (h : mMet i = some r) : r ∈ mMs.flatten := by
  unfold mMet at h
  cases hl : mMs[i / 16]? with
  | none => rw [hl] at h; cases h
  | some l =>
    rw [hl, Option.bind_some] at h
    exact List.mem_flatten.mpr ⟨l, List.mem_of_getElem? hl, List.mem_of_getElem? h⟩
theorem mY_of {i : Nat} {r : mRow} (h : mMet i = some r) : mY i = r.2.1 := by unfold mY; rw [h]; rfl
theorem mM_code {i : Nat} {r : mRow} (h : mMet i = some r) (h5 : r.1 ≠ 5) : Cond.code r.2.1 r.2.2.1 r.2.2.2.1 r.2.2.2.2.1 ∈ tables_1 := by
  have hr := mMet_in h
  have hd : r ∈ mMs.flatten.dropLast := by
    have hn : mMs.flatten ≠ [] := fun e => by rw [e] at hr; cases hr
    rw [← List.dropLast_concat_getLast hn] at hr
    rcases List.mem_append.mp hr with q | q
    · exact q
    · exfalso
      have hl := mMs_last
      rw [List.getLast?_eq_some_getLast hn] at hl
      rw [List.mem_singleton.mp q] at h5
      exact h5 (Option.some.inj hl)
  have hm : mCw r ∈ mMs.flatten.dropLast.map mCw := List.mem_map.mpr ⟨r, hd, rfl⟩
  rw [← mM_cw] at hm
  obtain ⟨w, hw, he⟩ := List.mem_filterMap.mp hm
  split at he
  · cases he
    exact hw
  · cases he
theorem mM_at {i : Nat} {r : mRow} (h : mMet i = some r) (h5 : Nat.ble r.1 6 = true) (h6 : r.1 ≠ 5) : plainName r.2.1.cls = true ∧ r.2.1.cls = mNm r.1 ∧ (r.2.1.cls ≠ "java/lang/invoke/MethodHandle" ∧ r.2.1.cls ≠ "java/lang/invoke/VarHandle")
    ∧ Cond.initialized r.2.1.cls ∈ tables_1 ∧ (Cond.static r.2.1 ∈ tables_1 ∨ (Cond.instanceMethod r.2.1 ∈ tables_1 ∧ (r.2.1.name = "<init>" ∨ Cond.selects r.2.1.cls r.2.1 r.2.1 ∈ lw_tbl))) := by
  have hc := List.all_eq_true.mp mM_ck i (List.mem_range.mpr (mMet_lt h))
  simp only [h] at hc
  unfold mMck at hc
  have e5 : Nat.beq r.1 5 = false := by
    cases hb : Nat.beq r.1 5 with
    | false => rfl
    | true => exact absurd (Nat.eq_of_beq_eq_true hb) h6
  have e7 : Nat.ble 7 r.1 = false := by
    cases hb : Nat.ble 7 r.1 with
    | false => rfl
    | true =>
      have := Nat.le_of_ble_eq_true hb
      have := Nat.le_of_ble_eq_true h5
      omega
  rw [e5, e7] at hc
  simp only [Bool.false_or, Bool.and_eq_true, decide_eq_true_eq, Bool.or_eq_true, List.any_eq_true] at hc
  obtain ⟨⟨⟨⟨h1, h2⟩, h3⟩, qi, hqi, hqe⟩, h8⟩ := hc
  have hY := mY_of h
  refine ⟨h1, h2, h3, ?_, ?_⟩
  · have hm := mWalk_spec mIN_wk _ (List.mem_map.mpr ⟨qi, hqi, rfl⟩)
    rw [h2]
    have : qi.2 = r.1 := Nat.eq_of_beq_eq_true hqe
    rw [← this]
    exact hm
  · rcases h8 with ⟨q, hq, hqa, hqb⟩ | ⟨⟨q, hq, hqa, hqb⟩, h9⟩
    · left
      have hm := mWalk_spec mIS_wk _ (List.mem_map.mpr ⟨q, hq, rfl⟩)
      simp only [hqb, cond_true] at hm
      rw [Nat.eq_of_beq_eq_true hqa, hY] at hm
      exact hm
    · right
      refine ⟨?_, ?_⟩
      · have hm := mWalk_spec mIS_wk _ (List.mem_map.mpr ⟨q, hq, rfl⟩)
        have hqb' : Nat.beq q.2.2 1 = false := by simpa using hqb
        simp only [hqb', cond_false] at hm
        rw [Nat.eq_of_beq_eq_true hqa, hY] at hm
        exact hm
      · rcases h9 with (h9 | ⟨q, hq, hqa⟩) | ⟨q, hq, hqa⟩
        · exact Or.inl h9
        · right
          have hm := mWalk_spec mSE1_wk _ (List.mem_map.mpr ⟨q, hq, rfl⟩)
          simp only [Nat.eq_of_beq_eq_true hqa, hY] at hm
          exact List.mem_append_left _ hm
        · right
          have hm := mWalk_spec mSE2_wk _ (List.mem_map.mpr ⟨q, hq, rfl⟩)
          simp only [Nat.eq_of_beq_eq_true hqa, hY] at hm
          exact mTb_in hm
def mKi (i : Instr) : Option Nat := match i with
  | .getfield k => some k
  | .putfield k => some k
  | .getstatic k => some k
  | .ldc k => some k
  | .ldc_w k => some k
  | .new k => some k
  | .anewarray k => some k
  | .multianewarray k _ => some k
  | .invokestatic k => some k
  | .invokevirtual k => some k
  | .invokespecial k => some k
  | _ => none
def mKd (i : Instr) (k : Nat) : Bool := match i with
  | .getfield _ => Nat.ble k 1
  | .putfield _ => Nat.ble k 1
  | .getstatic _ => Nat.beq k 7
  | .ldc _ => Nat.beq k 2 || Nat.beq k 3
  | .ldc_w _ => Nat.beq k 2 || Nat.beq k 3
  | .new _ => Nat.beq k 4
  | .anewarray _ => Nat.beq k 5
  | .multianewarray _ _ => Nat.beq k 6
  | .invokestatic _ => Nat.beq k 12 || Nat.beq k 13 || Nat.beq k 21 || Nat.beq k 24 || Nat.beq k 25
  | .invokevirtual _ => Nat.beq k 10 || Nat.beq k 11 || Nat.beq k 22 || Nat.beq k 23
  | .invokespecial _ => Nat.beq k 14 || Nat.beq k 15 || Nat.beq k 20
  | _ => true
/-- the callee's room fits, and it is no law -/
noncomputable def mRm (row : mRow) (k a : Nat) : Bool := match k with
  | 20 => Nat.ble 1 row.2.2.2.2.2.1 && Nat.ble 20 row.2.2.2.2.2.2
  | 21 => Nat.ble 1 row.2.2.2.2.2.1 && Nat.ble 30 row.2.2.2.2.2.2
  | 22 => Nat.ble 2 row.2.2.2.2.2.1 && Nat.ble 40 row.2.2.2.2.2.2
  | 23 => Nat.ble 5 row.2.2.2.2.2.1 && Nat.ble 121 row.2.2.2.2.2.2
  | 24 => Nat.ble 1 row.2.2.2.2.2.1 && Nat.ble 21 row.2.2.2.2.2.2
  | 25 => Nat.ble 1 row.2.2.2.2.2.1 && Nat.ble 21 row.2.2.2.2.2.2
  | _ => match mMet a with
    | some r => Nat.ble (r.2.2.2.2.2.1 + 1) row.2.2.2.2.2.1 && Nat.ble (8 + (r.2.2.2.1 + 11) + r.2.2.2.2.2.2) row.2.2.2.2.2.2 && !Nat.beq r.1 5 && Nat.ble r.1 6
    | none => false
def mLn (i : Instr) : Nat := match i with
  | .bipush _ => 2
  | .sipush _ => 3
  | .ldc _ => 2
  | .ldc_w _ => 3
  | .iload _ => 2
  | .lload _ => 2
  | .aload _ => 2
  | .istore _ => 2
  | .lstore _ => 2
  | .astore _ => 2
  | .iinc _ _ => 3
  | .ifCond _ _ => 3
  | .if_icmp _ _ => 3
  | .goto _ => 3
  | .getfield _ => 3
  | .putfield _ => 3
  | .getstatic _ => 3
  | .invokestatic _ => 3
  | .invokevirtual _ => 3
  | .invokespecial _ => 3
  | .new _ => 3
  | .newarray _ => 2
  | .anewarray _ => 3
  | .multianewarray _ _ => 4
  | _ => 1
def mLnk' (i : Instr) (n : Nat) : Bool := match i with
  | .tableswitch _ _ _ _ => true
  | i => Nat.beq n (mLn i)
noncomputable def mEck (row : mRow) (e : mEnt) : Bool := mLnk' e.1 e.2.1 && match mKi e.1 with
  | none => true
  | some idx => mKd e.1 e.2.2.2.1 && decide (mLT[e.2.2.1]? = some (row.1, idx, e.2.2.2.1, e.2.2.2.2.1, e.2.2.2.2.2.1, e.2.2.2.2.2.2)) && (Nat.blt e.2.2.2.1 10 || mRm row e.2.2.2.1 e.2.2.2.2.1)
/-- the code read in a line, by windows -/
noncomputable def mLin : List UInt8 → Nat → List (Option mEnt) → Bool
  | _, _, [] => true
  | l, pc, none :: t => mLin l.tail (pc + 1) t
  | l, pc, some e :: t => (!l.isEmpty && match Decoder.instr pc (Jvm.Free.DS.win l pc e.2.1) (pc % 4) with
    | .ok (j, q) => decide (j = e.1) && Nat.beq q (pc % 4 + e.2.1)
    | .error _ => false) && mLin l.tail (pc + 1) t
noncomputable def mLinC : List UInt8 → Nat → List (List (Option mEnt)) → Bool
  | _, _, [] => true
  | l, k, c :: t => mLin l (32 * k) c && mLinC (l.drop 32) (k + 1) t
noncomputable def mCd (i : Nat) : Bool := match mMet i, mCode i with
  | some row, some k => mLinC row.2.2.1.data.toList 0 k
  | none, none => true
  | _, _ => false
noncomputable def mCe (i : Nat) : Bool := match mMet i, mCode i with
  | some row, some k => k.all fun c => c.all fun e => match e with
    | none => true
    | some e => mEck row e
  | none, none => true
  | _, _ => false
noncomputable def mCk (i : Nat) : Bool := mCd i && mCe i
theorem mLin_at {code : ByteArray} : ∀ (t : List (Option mEnt)) (l : List UInt8) (pc i : Nat) (e : mEnt), mLin l pc t = true → (∀ j, l[j]? = code.data.toList[pc + j]?) → t[i]? = some (some e) → decode code (pc + i) = .ok (e.1, e.2.1) := by
  intro t
  induction t with
  | nil => intro l pc i e h hl hi; simp at hi
  | cons d t ih =>
    intro l pc i e h hl hi
    have hl2 : ∀ j, l.tail[j]? = code.data.toList[pc + 1 + j]? := fun j => by
      rw [List.getElem?_tail, hl]
      congr 1
      omega
    have hnx : mLin l.tail (pc + 1) t = true := by
      cases d with
      | none => exact h
      | some d =>
        have h' : ((!l.isEmpty && match Decoder.instr pc (Jvm.Free.DS.win l pc d.2.1) (pc % 4) with
          | .ok (j, q) => decide (j = d.1) && Nat.beq q (pc % 4 + d.2.1)
          | .error _ => false) && mLin l.tail (pc + 1) t) = true := h
        rw [Bool.and_eq_true] at h'
        exact h'.2
    cases i with
    | succ i =>
      rw [List.getElem?_cons_succ] at hi
      have := ih _ _ i e hnx hl2 hi
      rwa [show pc + 1 + i = pc + (i + 1) by omega] at this
    | zero =>
      rw [List.getElem?_cons_zero, Option.some.injEq] at hi
      subst hi
      have h' : ((!l.isEmpty && match Decoder.instr pc (Jvm.Free.DS.win l pc e.2.1) (pc % 4) with
        | .ok (j, q) => decide (j = e.1) && Nat.beq q (pc % 4 + e.2.1)
        | .error _ => false) && mLin l.tail (pc + 1) t) = true := h
      rw [Bool.and_eq_true, Bool.and_eq_true] at h'
      obtain ⟨⟨h0, h1⟩, -⟩ := h'
      have hp : pc ≤ code.size := by
        have h2 : l ≠ [] := fun q => by subst q; cases h0
        have h3 := hl 0
        rw [List.getElem?_eq_getElem (List.length_pos_iff.mpr h2)] at h3
        have h4 := (List.getElem?_eq_some_iff.mp h3.symm).1
        have h5 : code.data.toList.length = code.size := by simp
        omega
      cases hr : Decoder.instr pc (Jvm.Free.DS.win l pc e.2.1) (pc % 4) with
      | error x => rw [hr] at h1; cases h1
      | ok jq =>
        obtain ⟨j, q⟩ := jq
        rw [hr] at h1
        have h1' : (decide (j = e.1) && Nat.beq q (pc % 4 + e.2.1)) = true := h1
        rw [Bool.and_eq_true, decide_eq_true_eq] at h1'
        obtain ⟨rfl, h6⟩ := h1'
        obtain rfl := Nat.eq_of_beq_eq_true h6
        have := Jvm.Free.DS.shift (Jvm.Free.DS.win_agree (n := e.2.1) hl hp) hr
        rw [Nat.add_sub_cancel_left] at this
        exact this
theorem mLinC_at {code : ByteArray} : ∀ (t : List (List (Option mEnt))) (l : List UInt8) (k i : Nat) (c : List (Option mEnt)), mLinC l k t = true → (∀ j, l[j]? = code.data.toList[32 * k + j]?) → t[i]? = some c → ∃ l', mLin l' (32 * (k + i)) c = true ∧ ∀ j, l'[j]? = code.data.toList[32 * (k + i) + j]? := by
  intro t
  induction t with
  | nil => intro l k i c h hl hi; simp at hi
  | cons d t ih =>
    intro l k i c h hl hi
    simp only [mLinC, Bool.and_eq_true] at h
    cases i with
    | zero =>
      rw [List.getElem?_cons_zero, Option.some.injEq] at hi
      subst hi
      exact ⟨l, h.1, hl⟩
    | succ i =>
      rw [List.getElem?_cons_succ] at hi
      have := ih (l.drop 32) (k + 1) i c h.2 (fun j => by
        rw [List.getElem?_drop, hl]
        congr 1
        omega) hi
      rwa [show k + 1 + i = k + (i + 1) by omega] at this
theorem mCk_at {i pc : Nat} {row : mRow} {e : mEnt} (h : mCk i = true) (hr : mMet i = some row) (he : mFetch i pc = some e) : decode row.2.2.1 pc = .ok (e.1, e.2.1) ∧ mEck row e = true := by
  unfold mCk at h
  rw [Bool.and_eq_true] at h
  obtain ⟨hd, hE⟩ := h
  unfold mFetch at he
  cases hk : mCode i with
  | none => rw [hk] at he; cases he
  | some k =>
    rw [hk] at he
    simp only [mCd, hr, hk] at hd
    simp only [mCe, hr, hk] at hE
    simp only [Option.bind_some, Option.bind_eq_some_iff] at he
    obtain ⟨c, hc, o, ho, ho2⟩ := he
    have ho3 : o = some e := ho2
    subst ho3
    obtain ⟨l', h1, h2⟩ := mLinC_at (code := row.2.2.1) k _ 0 (pc / 32) c hd (fun j => by rw [Nat.mul_zero, Nat.zero_add]) hc
    refine ⟨?_, ?_⟩
    · have := mLin_at c l' _ (pc % 32) e h1 h2 ho
      rwa [show 32 * (0 + pc / 32) + pc % 32 = pc by omega] at this
    · have := List.all_eq_true.mp (List.all_eq_true.mp hE c (List.mem_of_getElem? hc)) _ (List.mem_of_getElem? ho)
      exact this
