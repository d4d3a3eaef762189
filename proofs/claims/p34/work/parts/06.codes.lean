theorem mIS_wk : mWalk 0 tables_1 (mIS.map fun q => (q.1, cond (Nat.beq q.2.2 1) (.static (mY q.2.1)) (.instanceMethod (mY q.2.1)))) = true := by decide +kernel
theorem mSE2_wk : mWalk 0 tables_1 (mSE2.map fun q => (q.1, .selects (mY q.2).cls (mY q.2) (mY q.2))) = true := by decide +kernel
theorem mSE1_wk : mWalk 0 (k2_sels lw_privs) (mSE1.map fun q => (q.1, .selects (mY q.2).cls (mY q.2) (mY q.2))) = true := by decide +kernel
theorem mIN_wk : mWalk 0 tables_1 (mIN.map fun q => (q.1, .initialized (mNm q.2))) = true := by decide +kernel
noncomputable def mMck (i : Nat) (r : mRow) : Bool := Nat.beq r.1 5 || Nat.ble 7 r.1 || (plainName r.2.1.cls && decide (r.2.1.cls = mNm r.1) && decide (r.2.1.cls ≠ "java/lang/invoke/MethodHandle" ∧ r.2.1.cls ≠ "java/lang/invoke/VarHandle")
  && mIN.any (fun q => Nat.beq q.2 r.1) && (mIS.any (fun q => Nat.beq q.2.1 i && Nat.beq q.2.2 1) || (mIS.any (fun q => Nat.beq q.2.1 i && !Nat.beq q.2.2 1) && (decide (r.2.1.name = "<init>") || mSE1.any (fun q => Nat.beq q.2 i) || mSE2.any (fun q => Nat.beq q.2 i)))))
theorem mM_ck : (List.range 256).all (fun i => match mMet i with
    | some r => mMck i r
    | none => true) = true := by decide +kernel
theorem mMs_len : mMs.length ≤ 16 := by decide +kernel
theorem mMs_last : mMs.flatten.getLast?.map (fun r => r.1) = some 5 := by decide +kernel
theorem mMet_lt {i : Nat} {r : mRow} (h : mMet i = some r) : i < 256 := by
  unfold mMet at h
  cases hl : mMs[i / 16]? with
  | none => rw [hl] at h; cases h
  | some l =>
    have := (List.getElem?_eq_some_iff.mp hl).1
    have := mMs_len
    omega
theorem mMet_in {i : Nat} {r : mRow} (h : mMet i = some r) : r ∈ mMs.flatten := by
  unfold mMet at h
  cases hl : mMs[i / 16]? with
  | none => rw [hl] at h; cases h
  | some l =>
    rw [hl, Option.bind_some] at h
    exact List.mem_flatten.mpr ⟨l, List.mem_of_getElem? hl, List.mem_of_getElem? h⟩
theorem mY_of {i : Nat} {r : mRow} (h : mMet i = some r) : mY i = r.2.1 := by unfold mY; rw [h]; rfl
theorem mM_code {i : Nat} {r : mRow} (h : mMet i = some r) (h5 : r.1 ≠ 5) : Cond.code r.2.1 r.2.2.1 r.2.2.2.1 r.2.2.2.2.1 ∈ tables_1 := by
  have hr := mMet_in h
  have hd : r ∈ mMs.flatten.dropLast := by
    have hn : mMs.flatten ≠ [] := fun e => by rw [e] at hr; cases hr
    rw [← List.dropLast_concat_getLast hn] at hr
    rcases List.mem_append.mp hr with q | q
    · exact q
    · exfalso
      have hl := mMs_last
      rw [List.getLast?_eq_some_getLast hn] at hl
      rw [List.mem_singleton.mp q] at h5
      exact h5 (Option.some.inj hl)
  have hm : mCw r ∈ mMs.flatten.dropLast.map mCw := List.mem_map.mpr ⟨r, hd, rfl⟩
  rw [← mM_cw] at hm
  obtain ⟨w, hw, he⟩ := List.mem_filterMap.mp hm
  split at he
  · cases he
    exact hw
  · cases he
theorem mM_at {i : Nat} {r : mRow} (h : mMet i = some r) (h5 : Nat.ble r.1 6 = true) (h6 : r.1 ≠ 5) : plainName r.2.1.cls = true ∧ r.2.1.cls = mNm r.1 ∧ (r.2.1.cls ≠ "java/lang/invoke/MethodHandle" ∧ r.2.1.cls ≠ "java/lang/invoke/VarHandle")
    ∧ Cond.initialized r.2.1.cls ∈ tables_1 ∧ (Cond.static r.2.1 ∈ tables_1 ∨ (Cond.instanceMethod r.2.1 ∈ tables_1 ∧ (r.2.1.name = "<init>" ∨ Cond.selects r.2.1.cls r.2.1 r.2.1 ∈ lw_tbl))) := by
  have hc := List.all_eq_true.mp mM_ck i (List.mem_range.mpr (mMet_lt h))
  simp only [h] at hc
  unfold mMck at hc
  have e5 : Nat.beq r.1 5 = false := by
    cases hb : Nat.beq r.1 5 with
    | false => rfl
    | true => exact absurd (Nat.eq_of_beq_eq_true hb) h6
  have e7 : Nat.ble 7 r.1 = false := by
    cases hb : Nat.ble 7 r.1 with
    | false => rfl
    | true =>
      have := Nat.le_of_ble_eq_true hb
      have := Nat.le_of_ble_eq_true h5
      omega
  rw [e5, e7] at hc
  simp only [Bool.false_or, Bool.and_eq_true, decide_eq_true_eq, Bool.or_eq_true, List.any_eq_true] at hc
  obtain ⟨⟨⟨⟨h1, h2⟩, h3⟩, qi, hqi, hqe⟩, h8⟩ := hc
  have hY := mY_of h
  refine ⟨h1, h2, h3, ?_, ?_⟩
  · have hm := mWalk_spec mIN_wk _ (List.mem_map.mpr ⟨qi, hqi, rfl⟩)
    rw [h2]
    have : qi.2 = r.1 := Nat.eq_of_beq_eq_true hqe
    rw [← this]
    exact hm
  · rcases h8 with ⟨q, hq, hqa, hqb⟩ | ⟨⟨q, hq, hqa, hqb⟩, h9⟩
    · left
      have hm := mWalk_spec mIS_wk _ (List.mem_map.mpr ⟨q, hq, rfl⟩)
      simp only [hqb, cond_true] at hm
      rw [Nat.eq_of_beq_eq_true hqa, hY] at hm
      exact hm
    · right
      refine ⟨?_, ?_⟩
      · have hm := mWalk_spec mIS_wk _ (List.mem_map.mpr ⟨q, hq, rfl⟩)
        have hqb' : Nat.beq q.2.2 1 = false := by simpa using hqb
        simp only [hqb', cond_false] at hm
        rw [Nat.eq_of_beq_eq_true hqa, hY] at hm
        exact hm
      · rcases h9 with (h9 | ⟨q, hq, hqa⟩) | ⟨q, hq, hqa⟩
        · exact Or.inl h9
        · right
          have hm := mWalk_spec mSE1_wk _ (List.mem_map.mpr ⟨q, hq, rfl⟩)
          simp only [Nat.eq_of_beq_eq_true hqa, hY] at hm
          exact List.mem_append_left _ hm
        · right
          have hm := mWalk_spec mSE2_wk _ (List.mem_map.mpr ⟨q, hq, rfl⟩)
          simp only [Nat.eq_of_beq_eq_true hqa, hY] at hm
          exact mTb_in hm
def mKi (i : Instr) : Option Nat := match i with
  | .getfield k => some k
  | .putfield k => some k
  | .getstatic k => some k
  | .ldc k => some k
  | .ldc_w k => some k
  | .new k => some k
  | .anewarray k => some k
  | .multianewarray k _ => some k
  | .invokestatic k => some k
  | .invokevirtual k => some k
  | .invokespecial k => some k
  | _ => none
def mKd (i : Instr) (k : Nat) : Bool := match i with
  | .getfield _ => Nat.ble k 1
  | .putfield _ => Nat.ble k 1
  | .getstatic _ => Nat.beq k 7
  | .ldc _ => Nat.beq k 2 || Nat.beq k 3
  | .ldc_w _ => Nat.beq k 2 || Nat.beq k 3
  | .new _ => Nat.beq k 4
  | .anewarray _ => Nat.beq k 5
  | .multianewarray _ _ => Nat.beq k 6
  | .invokestatic _ => Nat.beq k 12 || Nat.beq k 13 || Nat.beq k 21 || Nat.beq k 24 || Nat.beq k 25
  | .invokevirtual _ => Nat.beq k 10 || Nat.beq k 11 || Nat.beq k 22 || Nat.beq k 23
  | .invokespecial _ => Nat.beq k 14 || Nat.beq k 15 || Nat.beq k 20
  | _ => true
/-- the callee's room fits, and it is no law -/
noncomputable def mRm (row : mRow) (k a : Nat) : Bool := match k with
  | 20 => Nat.ble 1 row.2.2.2.2.2.1 && Nat.ble 20 row.2.2.2.2.2.2
  | 21 => Nat.ble 1 row.2.2.2.2.2.1 && Nat.ble 30 row.2.2.2.2.2.2
  | 22 => Nat.ble 2 row.2.2.2.2.2.1 && Nat.ble 40 row.2.2.2.2.2.2
  | 23 => Nat.ble 5 row.2.2.2.2.2.1 && Nat.ble 121 row.2.2.2.2.2.2
  | 24 => Nat.ble 1 row.2.2.2.2.2.1 && Nat.ble 21 row.2.2.2.2.2.2
  | 25 => Nat.ble 1 row.2.2.2.2.2.1 && Nat.ble 21 row.2.2.2.2.2.2
  | _ => match mMet a with
    | some r => Nat.ble (r.2.2.2.2.2.1 + 1) row.2.2.2.2.2.1 && Nat.ble (8 + (r.2.2.2.1 + 11) + r.2.2.2.2.2.2) row.2.2.2.2.2.2 && !Nat.beq r.1 5 && Nat.ble r.1 6
    | none => false
def mLn (i : Instr) : Nat := match i with
  | .bipush _ => 2
  | .sipush _ => 3
  | .ldc _ => 2
  | .ldc_w _ => 3
  | .iload _ => 2
  | .lload _ => 2
  | .aload _ => 2
  | .istore _ => 2
  | .lstore _ => 2
  | .astore _ => 2
  | .iinc _ _ => 3
  | .ifCond _ _ => 3
  | .if_icmp _ _ => 3
  | .goto _ => 3
  | .getfield _ => 3
  | .putfield _ => 3
  | .getstatic _ => 3
  | .invokestatic _ => 3
  | .invokevirtual _ => 3
  | .invokespecial _ => 3
  | .new _ => 3
  | .newarray _ => 2
  | .anewarray _ => 3
  | .multianewarray _ _ => 4
  | _ => 1
def mLnk' (i : Instr) (n : Nat) : Bool := match i with
  | .tableswitch _ _ _ _ => true
  | i => Nat.beq n (mLn i)
noncomputable def mEck (row : mRow) (e : mEnt) : Bool := mLnk' e.1 e.2.1 && match mKi e.1 with
  | none => true
  | some idx => mKd e.1 e.2.2.2.1 && decide (mLT[e.2.2.1]? = some (row.1, idx, e.2.2.2.1, e.2.2.2.2.1, e.2.2.2.2.2.1, e.2.2.2.2.2.2)) && (Nat.blt e.2.2.2.1 10 || mRm row e.2.2.2.1 e.2.2.2.2.1)
section FE
/-- the byte at a place of a list -/
noncomputable def fB (l : List UInt8) (k : Nat) : Nat := match l.drop k with
  | [] => 999
  | b :: _ => b.toNat
noncomputable def fW (l : List UInt8) : Nat := fB l 1 * 256 + fB l 2
noncomputable def fC : Jvm.ClassFile.Cond → Nat
  | .eq => 0
  | .ne => 1
  | .lt => 2
  | .ge => 3
  | .gt => 4
  | .le => 5
/-- whether a list of bytes begins with an instruction of n bytes (for the common ones) -/
noncomputable def fEn (i : Instr) (l : List UInt8) (n : Nat) : Bool := match i with
  | .ireturn => Nat.beq (fB l 0) 172 && Nat.beq n 1
  | .iaload => Nat.beq (fB l 0) 46 && Nat.beq n 1
  | .iadd => Nat.beq (fB l 0) 96 && Nat.beq n 1
  | .pop => Nat.beq (fB l 0) 87 && Nat.beq n 1
  | .aaload => Nat.beq (fB l 0) 50 && Nat.beq n 1
  | .iastore => Nat.beq (fB l 0) 79 && Nat.beq n 1
  | .isub => Nat.beq (fB l 0) 100 && Nat.beq n 1
  | .dup => Nat.beq (fB l 0) 89 && Nat.beq n 1
  | .return_ => Nat.beq (fB l 0) 177 && Nat.beq n 1
  | .imul => Nat.beq (fB l 0) 104 && Nat.beq n 1
  | .ishl => Nat.beq (fB l 0) 120 && Nat.beq n 1
  | .iand => Nat.beq (fB l 0) 126 && Nat.beq n 1
  | .ior => Nat.beq (fB l 0) 128 && Nat.beq n 1
  | .aload_n m => Nat.beq (fB l 0) (42 + m.val) && Nat.beq n 1
  | .iload_n m => Nat.beq (fB l 0) (26 + m.val) && Nat.beq n 1
  | .istore_n m => Nat.beq (fB l 0) (59 + m.val) && Nat.beq n 1
  | .iconst z => Nat.ble 2 (fB l 0) && (Nat.ble (fB l 0) 8 && (decide (z = (fB l 0 : Int) - 3) && Nat.beq n 1))
  | .getfield m => Nat.beq (fB l 0) 180 && (Nat.ble (fB l 2) 255 && (Nat.ble (fB l 1) 255 && (Nat.beq m (fW l) && Nat.beq n 3)))
  | .putfield m => Nat.beq (fB l 0) 181 && (Nat.ble (fB l 2) 255 && (Nat.ble (fB l 1) 255 && (Nat.beq m (fW l) && Nat.beq n 3)))
  | .invokevirtual m => Nat.beq (fB l 0) 182 && (Nat.ble (fB l 2) 255 && (Nat.ble (fB l 1) 255 && (Nat.beq m (fW l) && Nat.beq n 3)))
  | .invokespecial m => Nat.beq (fB l 0) 183 && (Nat.ble (fB l 2) 255 && (Nat.ble (fB l 1) 255 && (Nat.beq m (fW l) && Nat.beq n 3)))
  | .invokestatic m => Nat.beq (fB l 0) 184 && (Nat.ble (fB l 2) 255 && (Nat.ble (fB l 1) 255 && (Nat.beq m (fW l) && Nat.beq n 3)))
  | .ldc m => Nat.beq (fB l 0) 18 && (Nat.ble (fB l 1) 255 && (Nat.beq m (fB l 1) && Nat.beq n 2))
  | .iload m => Nat.beq (fB l 0) 21 && (Nat.ble (fB l 1) 255 && (Nat.beq m (fB l 1) && Nat.beq n 2))
  | .istore m => Nat.beq (fB l 0) 54 && (Nat.ble (fB l 1) 255 && (Nat.beq m (fB l 1) && Nat.beq n 2))
  | .bipush z => Nat.beq (fB l 0) 16 && (Nat.ble (fB l 1) 255 && (decide (z = Reader.signed 8 (fB l 1)) && Nat.beq n 2))
  | .goto z => Nat.beq (fB l 0) 167 && (Nat.ble (fB l 2) 255 && (Nat.ble (fB l 1) 255 && (decide (z = Reader.signed 16 (fW l)) && Nat.beq n 3)))
  | .ifCond c z => Nat.beq (fB l 0) (153 + fC c) && (Nat.ble (fB l 2) 255 && (Nat.ble (fB l 1) 255 && (decide (z = Reader.signed 16 (fW l)) && Nat.beq n 3)))
  | .if_icmp c z => Nat.beq (fB l 0) (159 + fC c) && (Nat.ble (fB l 2) 255 && (Nat.ble (fB l 1) 255 && (decide (z = Reader.signed 16 (fW l)) && Nat.beq n 3)))
  | _ => false
variable {C : ByteArray} {p pc n : Nat} {l : List UInt8} {b b1 b2 : UInt8}
theorem fb_at {k x : Nat} (hl : ∀ j, l[j]? = C.data.toList[p + j]?) (h : fB l k = x) (hx : x ≤ 255) : ∃ b : UInt8, C.data.toList[p + k]? = some b ∧ b.toNat = x := by
  unfold fB at h
  cases hd : l.drop k with
  | nil => rw [hd] at h; exact absurd (show 999 = x from h) (by omega)
  | cons b t =>
    rw [hd] at h
    refine ⟨b, ?_, h⟩
    rw [← hl k, ← List.head?_drop, hd]
    rfl
theorem fu1 (h : C.data.toList[p]? = some b) : (Reader.u1 : Reader DecodeError Nat) C p = .ok (b.toNat, p + 1) := by
  have h1 : p < C.size := by
    have := (List.getElem?_eq_some_iff.mp h).1
    simpa using this
  have h2 : C[p] = b := by
    rw [List.getElem?_eq_getElem (by simpa using h1)] at h
    exact Option.some.inj h
  show (do if h : p < C.size then do set (p + 1); Pure.pure C[p].toNat else MonadExcept.throw (HasTruncated.truncated p) : Reader DecodeError Nat) C p = _
  rw [dif_pos h1, h2]
  rfl
theorem fbd {α β : Type} {r : Reader DecodeError α} {f : α → Reader DecodeError β} {a : α} {q : Nat} {z : Except DecodeError (β × Nat)} (h : r C p = .ok (a, q)) (g : f a C q = z) : (r >>= f) C p = z := by
  have e : (r >>= f) C p = (match r C p with | .error e => Except.error e | .ok (a, s) => f a C s) := by
    show (do let (a, s) ← r C p; f a C s : Except DecodeError (β × Nat)) = _
    cases r C p <;> rfl
  rw [e, h]
  exact g
theorem fmp {α β : Type} {r : Reader DecodeError α} {g : α → β} {a : α} {q : Nat} (h : r C p = .ok (a, q)) : (g <$> r) C p = .ok (g a, q) := by
  have e : (g <$> r) = (r >>= fun a => Pure.pure (g a)) := by
    funext A s
    show (do let (a, t) ← r A s; .ok (g a, t) : Except DecodeError (β × Nat)) = (do let (a, t) ← r A s; .ok (g a, t))
    rfl
  rw [e]
  exact fbd h rfl
theorem fu2 (h1 : C.data.toList[p]? = some b1) (h2 : C.data.toList[p + 1]? = some b2) : (Reader.u2 : Reader DecodeError Nat) C p = .ok (b1.toNat * 256 + b2.toNat, p + 2) := fbd (fu1 h1) (fbd (fu1 h2) rfl)
theorem f_op {f : Nat → Reader DecodeError Instr} {k : Nat} {z : Except DecodeError (Instr × Nat)} (hl : ∀ j, l[j]? = C.data.toList[p + j]?) (h : fB l 0 = k) (hk : k ≤ 255) (g : f k C (p + 1) = z) : (Reader.u1 >>= f) C p = z := by
  obtain ⟨b, h1, h2⟩ := fb_at hl h hk
  exact fbd (fu1 h1) (by rw [h2]; exact g)
theorem f_u1 {α : Type} {g : Nat → α} (hl : ∀ j, l[j]? = C.data.toList[p + j]?) (h : fB l 1 ≤ 255) : (Reader.u1 >>= fun x => (Pure.pure (g x) : Reader DecodeError α)) C (p + 1) = .ok (g (fB l 1), p + 2) := by
  obtain ⟨b, h1, h2⟩ := fb_at hl rfl h
  refine fbd (fu1 h1) ?_
  rw [h2]
  rfl
theorem f_s1 {α : Type} {g : Int → α} (hl : ∀ j, l[j]? = C.data.toList[p + j]?) (h : fB l 1 ≤ 255) : (Reader.s1 >>= fun x => (Pure.pure (g x) : Reader DecodeError α)) C (p + 1) = .ok (g (Reader.signed 8 (fB l 1)), p + 2) := by
  obtain ⟨b, h1, h2⟩ := fb_at hl rfl h
  refine fbd (fmp (fu1 h1)) ?_
  rw [h2]
  rfl
theorem f_u2 {α : Type} {g : Nat → α} (hl : ∀ j, l[j]? = C.data.toList[p + j]?) (h : fB l 1 ≤ 255) (h' : fB l 2 ≤ 255) : (Reader.u2 >>= fun x => (Pure.pure (g x) : Reader DecodeError α)) C (p + 1) = .ok (g (fW l), p + 3) := by
  obtain ⟨b1, h1, e1⟩ := fb_at hl rfl h
  obtain ⟨b2, h2, e2⟩ := fb_at hl rfl h'
  refine fbd (fu2 h1 h2) ?_
  rw [e1, e2]
  rfl
theorem f_s2 {α : Type} {g : Int → α} (hl : ∀ j, l[j]? = C.data.toList[p + j]?) (h : fB l 1 ≤ 255) (h' : fB l 2 ≤ 255) : (Reader.s2 >>= fun x => (Pure.pure (g x) : Reader DecodeError α)) C (p + 1) = .ok (g (Reader.signed 16 (fW l)), p + 3) := by
  obtain ⟨b1, h1, e1⟩ := fb_at hl rfl h
  obtain ⟨b2, h2, e2⟩ := fb_at hl rfl h'
  refine fbd (fmp (fu2 h1 h2)) ?_
  rw [e1, e2]
  rfl
theorem and2 {a b : Bool} (h : (a && b) = true) : a = true ∧ b = true := (Bool.and_eq_true _ _).mp h
theorem fe_ireturn (h : (Nat.beq (fB l 0) 172 && Nat.beq n 1) = true) (hl : ∀ j, l[j]? = C.data.toList[p + j]?) : Decoder.instr pc C p = .ok (.ireturn, p + n) := by
  obtain ⟨h1, h2⟩ := and2 h
  obtain rfl := Nat.eq_of_beq_eq_true h2
  delta Decoder.instr
  exact f_op hl (Nat.eq_of_beq_eq_true h1) (by decide) rfl
theorem fe_iaload (h : (Nat.beq (fB l 0) 46 && Nat.beq n 1) = true) (hl : ∀ j, l[j]? = C.data.toList[p + j]?) : Decoder.instr pc C p = .ok (.iaload, p + n) := by
  obtain ⟨h1, h2⟩ := and2 h
  obtain rfl := Nat.eq_of_beq_eq_true h2
  delta Decoder.instr
  exact f_op hl (Nat.eq_of_beq_eq_true h1) (by decide) rfl
theorem fe_iadd (h : (Nat.beq (fB l 0) 96 && Nat.beq n 1) = true) (hl : ∀ j, l[j]? = C.data.toList[p + j]?) : Decoder.instr pc C p = .ok (.iadd, p + n) := by
  obtain ⟨h1, h2⟩ := and2 h
  obtain rfl := Nat.eq_of_beq_eq_true h2
  delta Decoder.instr
  exact f_op hl (Nat.eq_of_beq_eq_true h1) (by decide) rfl
theorem fe_pop (h : (Nat.beq (fB l 0) 87 && Nat.beq n 1) = true) (hl : ∀ j, l[j]? = C.data.toList[p + j]?) : Decoder.instr pc C p = .ok (.pop, p + n) := by
  obtain ⟨h1, h2⟩ := and2 h
  obtain rfl := Nat.eq_of_beq_eq_true h2
  delta Decoder.instr
  exact f_op hl (Nat.eq_of_beq_eq_true h1) (by decide) rfl
theorem fe_aaload (h : (Nat.beq (fB l 0) 50 && Nat.beq n 1) = true) (hl : ∀ j, l[j]? = C.data.toList[p + j]?) : Decoder.instr pc C p = .ok (.aaload, p + n) := by
  obtain ⟨h1, h2⟩ := and2 h
  obtain rfl := Nat.eq_of_beq_eq_true h2
  delta Decoder.instr
  exact f_op hl (Nat.eq_of_beq_eq_true h1) (by decide) rfl
theorem fe_iastore (h : (Nat.beq (fB l 0) 79 && Nat.beq n 1) = true) (hl : ∀ j, l[j]? = C.data.toList[p + j]?) : Decoder.instr pc C p = .ok (.iastore, p + n) := by
  obtain ⟨h1, h2⟩ := and2 h
  obtain rfl := Nat.eq_of_beq_eq_true h2
  delta Decoder.instr
  exact f_op hl (Nat.eq_of_beq_eq_true h1) (by decide) rfl
theorem fe_isub (h : (Nat.beq (fB l 0) 100 && Nat.beq n 1) = true) (hl : ∀ j, l[j]? = C.data.toList[p + j]?) : Decoder.instr pc C p = .ok (.isub, p + n) := by
  obtain ⟨h1, h2⟩ := and2 h
  obtain rfl := Nat.eq_of_beq_eq_true h2
  delta Decoder.instr
  exact f_op hl (Nat.eq_of_beq_eq_true h1) (by decide) rfl
theorem fe_dup (h : (Nat.beq (fB l 0) 89 && Nat.beq n 1) = true) (hl : ∀ j, l[j]? = C.data.toList[p + j]?) : Decoder.instr pc C p = .ok (.dup, p + n) := by
  obtain ⟨h1, h2⟩ := and2 h
  obtain rfl := Nat.eq_of_beq_eq_true h2
  delta Decoder.instr
  exact f_op hl (Nat.eq_of_beq_eq_true h1) (by decide) rfl
theorem fe_return_ (h : (Nat.beq (fB l 0) 177 && Nat.beq n 1) = true) (hl : ∀ j, l[j]? = C.data.toList[p + j]?) : Decoder.instr pc C p = .ok (.return_, p + n) := by
  obtain ⟨h1, h2⟩ := and2 h
  obtain rfl := Nat.eq_of_beq_eq_true h2
  delta Decoder.instr
  exact f_op hl (Nat.eq_of_beq_eq_true h1) (by decide) rfl
theorem fe_imul (h : (Nat.beq (fB l 0) 104 && Nat.beq n 1) = true) (hl : ∀ j, l[j]? = C.data.toList[p + j]?) : Decoder.instr pc C p = .ok (.imul, p + n) := by
  obtain ⟨h1, h2⟩ := and2 h
  obtain rfl := Nat.eq_of_beq_eq_true h2
  delta Decoder.instr
  exact f_op hl (Nat.eq_of_beq_eq_true h1) (by decide) rfl
theorem fe_ishl (h : (Nat.beq (fB l 0) 120 && Nat.beq n 1) = true) (hl : ∀ j, l[j]? = C.data.toList[p + j]?) : Decoder.instr pc C p = .ok (.ishl, p + n) := by
  obtain ⟨h1, h2⟩ := and2 h
  obtain rfl := Nat.eq_of_beq_eq_true h2
  delta Decoder.instr
  exact f_op hl (Nat.eq_of_beq_eq_true h1) (by decide) rfl
theorem fe_iand (h : (Nat.beq (fB l 0) 126 && Nat.beq n 1) = true) (hl : ∀ j, l[j]? = C.data.toList[p + j]?) : Decoder.instr pc C p = .ok (.iand, p + n) := by
  obtain ⟨h1, h2⟩ := and2 h
  obtain rfl := Nat.eq_of_beq_eq_true h2
  delta Decoder.instr
  exact f_op hl (Nat.eq_of_beq_eq_true h1) (by decide) rfl
theorem fe_ior (h : (Nat.beq (fB l 0) 128 && Nat.beq n 1) = true) (hl : ∀ j, l[j]? = C.data.toList[p + j]?) : Decoder.instr pc C p = .ok (.ior, p + n) := by
  obtain ⟨h1, h2⟩ := and2 h
  obtain rfl := Nat.eq_of_beq_eq_true h2
  delta Decoder.instr
  exact f_op hl (Nat.eq_of_beq_eq_true h1) (by decide) rfl
theorem fe_aload_n {m : Fin 4} (h : (Nat.beq (fB l 0) (42 + m.val) && Nat.beq n 1) = true) (hl : ∀ j, l[j]? = C.data.toList[p + j]?) : Decoder.instr pc C p = .ok (.aload_n m, p + n) := by
  obtain ⟨h1, h2⟩ := and2 h
  obtain rfl := Nat.eq_of_beq_eq_true h2
  have h3 := Nat.eq_of_beq_eq_true h1
  delta Decoder.instr
  obtain ⟨m, hm⟩ := m
  have h3 : fB l 0 = 42 + m := h3
  rcases (by omega : m = 0 ∨ m = 1 ∨ m = 2 ∨ m = 3) with rfl | rfl | rfl | rfl
  · exact f_op hl h3 (by decide) rfl
  · exact f_op hl h3 (by decide) rfl
  · exact f_op hl h3 (by decide) rfl
  · exact f_op hl h3 (by decide) rfl
theorem fe_iload_n {m : Fin 4} (h : (Nat.beq (fB l 0) (26 + m.val) && Nat.beq n 1) = true) (hl : ∀ j, l[j]? = C.data.toList[p + j]?) : Decoder.instr pc C p = .ok (.iload_n m, p + n) := by
  obtain ⟨h1, h2⟩ := and2 h
  obtain rfl := Nat.eq_of_beq_eq_true h2
  have h3 := Nat.eq_of_beq_eq_true h1
  delta Decoder.instr
  obtain ⟨m, hm⟩ := m
  have h3 : fB l 0 = 26 + m := h3
  rcases (by omega : m = 0 ∨ m = 1 ∨ m = 2 ∨ m = 3) with rfl | rfl | rfl | rfl
  · exact f_op hl h3 (by decide) rfl
  · exact f_op hl h3 (by decide) rfl
  · exact f_op hl h3 (by decide) rfl
  · exact f_op hl h3 (by decide) rfl
theorem fe_istore_n {m : Fin 4} (h : (Nat.beq (fB l 0) (59 + m.val) && Nat.beq n 1) = true) (hl : ∀ j, l[j]? = C.data.toList[p + j]?) : Decoder.instr pc C p = .ok (.istore_n m, p + n) := by
  obtain ⟨h1, h2⟩ := and2 h
  obtain rfl := Nat.eq_of_beq_eq_true h2
  have h3 := Nat.eq_of_beq_eq_true h1
  delta Decoder.instr
  obtain ⟨m, hm⟩ := m
  have h3 : fB l 0 = 59 + m := h3
  rcases (by omega : m = 0 ∨ m = 1 ∨ m = 2 ∨ m = 3) with rfl | rfl | rfl | rfl
  · exact f_op hl h3 (by decide) rfl
  · exact f_op hl h3 (by decide) rfl
  · exact f_op hl h3 (by decide) rfl
  · exact f_op hl h3 (by decide) rfl
theorem fe_iconst {z : Int} (h : (Nat.ble 2 (fB l 0) && (Nat.ble (fB l 0) 8 && (decide (z = (fB l 0 : Int) - 3) && Nat.beq n 1))) = true) (hl : ∀ j, l[j]? = C.data.toList[p + j]?) : Decoder.instr pc C p = .ok (.iconst z, p + n) := by
  obtain ⟨h1, h⟩ := and2 h
  obtain ⟨h2, h⟩ := and2 h
  obtain ⟨h3, h4⟩ := and2 h
  obtain rfl := Nat.eq_of_beq_eq_true h4
  have h1 := Nat.le_of_ble_eq_true h1
  have h2 := Nat.le_of_ble_eq_true h2
  have h3 := of_decide_eq_true h3
  delta Decoder.instr
  generalize hk : fB l 0 = k at h1 h2 h3
  rcases (by omega : k = 2 ∨ k = 3 ∨ k = 4 ∨ k = 5 ∨ k = 6 ∨ k = 7 ∨ k = 8) with rfl | rfl | rfl | rfl | rfl | rfl | rfl
  · subst h3; exact f_op hl hk (by decide) rfl
  · subst h3; exact f_op hl hk (by decide) rfl
  · subst h3; exact f_op hl hk (by decide) rfl
  · subst h3; exact f_op hl hk (by decide) rfl
  · subst h3; exact f_op hl hk (by decide) rfl
  · subst h3; exact f_op hl hk (by decide) rfl
  · subst h3; exact f_op hl hk (by decide) rfl
theorem fe_getfield {m : Nat} (h : (Nat.beq (fB l 0) 180 && (Nat.ble (fB l 2) 255 && (Nat.ble (fB l 1) 255 && (Nat.beq m (fW l) && Nat.beq n 3)))) = true) (hl : ∀ j, l[j]? = C.data.toList[p + j]?) : Decoder.instr pc C p = .ok (.getfield m, p + n) := by
  obtain ⟨h1, h⟩ := and2 h
  obtain ⟨h2, h⟩ := and2 h
  obtain ⟨h3, h⟩ := and2 h
  obtain ⟨h4, h5⟩ := and2 h
  obtain rfl := Nat.eq_of_beq_eq_true h5
  obtain rfl := Nat.eq_of_beq_eq_true h4
  delta Decoder.instr
  exact f_op hl (Nat.eq_of_beq_eq_true h1) (by decide) (f_u2 (g := Instr.getfield) hl (Nat.le_of_ble_eq_true h3) (Nat.le_of_ble_eq_true h2))
theorem fe_putfield {m : Nat} (h : (Nat.beq (fB l 0) 181 && (Nat.ble (fB l 2) 255 && (Nat.ble (fB l 1) 255 && (Nat.beq m (fW l) && Nat.beq n 3)))) = true) (hl : ∀ j, l[j]? = C.data.toList[p + j]?) : Decoder.instr pc C p = .ok (.putfield m, p + n) := by
  obtain ⟨h1, h⟩ := and2 h
  obtain ⟨h2, h⟩ := and2 h
  obtain ⟨h3, h⟩ := and2 h
  obtain ⟨h4, h5⟩ := and2 h
  obtain rfl := Nat.eq_of_beq_eq_true h5
  obtain rfl := Nat.eq_of_beq_eq_true h4
  delta Decoder.instr
  exact f_op hl (Nat.eq_of_beq_eq_true h1) (by decide) (f_u2 (g := Instr.putfield) hl (Nat.le_of_ble_eq_true h3) (Nat.le_of_ble_eq_true h2))
theorem fe_invokevirtual {m : Nat} (h : (Nat.beq (fB l 0) 182 && (Nat.ble (fB l 2) 255 && (Nat.ble (fB l 1) 255 && (Nat.beq m (fW l) && Nat.beq n 3)))) = true) (hl : ∀ j, l[j]? = C.data.toList[p + j]?) : Decoder.instr pc C p = .ok (.invokevirtual m, p + n) := by
  obtain ⟨h1, h⟩ := and2 h
  obtain ⟨h2, h⟩ := and2 h
  obtain ⟨h3, h⟩ := and2 h
  obtain ⟨h4, h5⟩ := and2 h
  obtain rfl := Nat.eq_of_beq_eq_true h5
  obtain rfl := Nat.eq_of_beq_eq_true h4
  delta Decoder.instr
  exact f_op hl (Nat.eq_of_beq_eq_true h1) (by decide) (f_u2 (g := Instr.invokevirtual) hl (Nat.le_of_ble_eq_true h3) (Nat.le_of_ble_eq_true h2))
theorem fe_invokespecial {m : Nat} (h : (Nat.beq (fB l 0) 183 && (Nat.ble (fB l 2) 255 && (Nat.ble (fB l 1) 255 && (Nat.beq m (fW l) && Nat.beq n 3)))) = true) (hl : ∀ j, l[j]? = C.data.toList[p + j]?) : Decoder.instr pc C p = .ok (.invokespecial m, p + n) := by
  obtain ⟨h1, h⟩ := and2 h
  obtain ⟨h2, h⟩ := and2 h
  obtain ⟨h3, h⟩ := and2 h
  obtain ⟨h4, h5⟩ := and2 h
  obtain rfl := Nat.eq_of_beq_eq_true h5
  obtain rfl := Nat.eq_of_beq_eq_true h4
  delta Decoder.instr
  exact f_op hl (Nat.eq_of_beq_eq_true h1) (by decide) (f_u2 (g := Instr.invokespecial) hl (Nat.le_of_ble_eq_true h3) (Nat.le_of_ble_eq_true h2))
theorem fe_invokestatic {m : Nat} (h : (Nat.beq (fB l 0) 184 && (Nat.ble (fB l 2) 255 && (Nat.ble (fB l 1) 255 && (Nat.beq m (fW l) && Nat.beq n 3)))) = true) (hl : ∀ j, l[j]? = C.data.toList[p + j]?) : Decoder.instr pc C p = .ok (.invokestatic m, p + n) := by
  obtain ⟨h1, h⟩ := and2 h
  obtain ⟨h2, h⟩ := and2 h
  obtain ⟨h3, h⟩ := and2 h
  obtain ⟨h4, h5⟩ := and2 h
  obtain rfl := Nat.eq_of_beq_eq_true h5
  obtain rfl := Nat.eq_of_beq_eq_true h4
  delta Decoder.instr
  exact f_op hl (Nat.eq_of_beq_eq_true h1) (by decide) (f_u2 (g := Instr.invokestatic) hl (Nat.le_of_ble_eq_true h3) (Nat.le_of_ble_eq_true h2))
theorem fe_ldc {m : Nat} (h : (Nat.beq (fB l 0) 18 && (Nat.ble (fB l 1) 255 && (Nat.beq m (fB l 1) && Nat.beq n 2))) = true) (hl : ∀ j, l[j]? = C.data.toList[p + j]?) : Decoder.instr pc C p = .ok (.ldc m, p + n) := by
  obtain ⟨h1, h⟩ := and2 h
  obtain ⟨h3, h⟩ := and2 h
  obtain ⟨h4, h5⟩ := and2 h
  obtain rfl := Nat.eq_of_beq_eq_true h5
  obtain rfl := Nat.eq_of_beq_eq_true h4
  delta Decoder.instr
  exact f_op hl (Nat.eq_of_beq_eq_true h1) (by decide) (f_u1 (g := Instr.ldc) hl (Nat.le_of_ble_eq_true h3))
theorem fe_iload {m : Nat} (h : (Nat.beq (fB l 0) 21 && (Nat.ble (fB l 1) 255 && (Nat.beq m (fB l 1) && Nat.beq n 2))) = true) (hl : ∀ j, l[j]? = C.data.toList[p + j]?) : Decoder.instr pc C p = .ok (.iload m, p + n) := by
  obtain ⟨h1, h⟩ := and2 h
  obtain ⟨h3, h⟩ := and2 h
  obtain ⟨h4, h5⟩ := and2 h
  obtain rfl := Nat.eq_of_beq_eq_true h5
  obtain rfl := Nat.eq_of_beq_eq_true h4
  delta Decoder.instr
  exact f_op hl (Nat.eq_of_beq_eq_true h1) (by decide) (f_u1 (g := Instr.iload) hl (Nat.le_of_ble_eq_true h3))
theorem fe_istore {m : Nat} (h : (Nat.beq (fB l 0) 54 && (Nat.ble (fB l 1) 255 && (Nat.beq m (fB l 1) && Nat.beq n 2))) = true) (hl : ∀ j, l[j]? = C.data.toList[p + j]?) : Decoder.instr pc C p = .ok (.istore m, p + n) := by
  obtain ⟨h1, h⟩ := and2 h
  obtain ⟨h3, h⟩ := and2 h
  obtain ⟨h4, h5⟩ := and2 h
  obtain rfl := Nat.eq_of_beq_eq_true h5
  obtain rfl := Nat.eq_of_beq_eq_true h4
  delta Decoder.instr
  exact f_op hl (Nat.eq_of_beq_eq_true h1) (by decide) (f_u1 (g := Instr.istore) hl (Nat.le_of_ble_eq_true h3))
theorem fe_bipush {z : Int} (h : (Nat.beq (fB l 0) 16 && (Nat.ble (fB l 1) 255 && (decide (z = Reader.signed 8 (fB l 1)) && Nat.beq n 2))) = true) (hl : ∀ j, l[j]? = C.data.toList[p + j]?) : Decoder.instr pc C p = .ok (.bipush z, p + n) := by
  obtain ⟨h1, h⟩ := and2 h
  obtain ⟨h3, h⟩ := and2 h
  obtain ⟨h4, h5⟩ := and2 h
  obtain rfl := Nat.eq_of_beq_eq_true h5
  obtain rfl := of_decide_eq_true h4
  delta Decoder.instr
  exact f_op hl (Nat.eq_of_beq_eq_true h1) (by decide) (f_s1 (g := Instr.bipush) hl (Nat.le_of_ble_eq_true h3))
theorem fe_goto {z : Int} (h : (Nat.beq (fB l 0) 167 && (Nat.ble (fB l 2) 255 && (Nat.ble (fB l 1) 255 && (decide (z = Reader.signed 16 (fW l)) && Nat.beq n 3)))) = true) (hl : ∀ j, l[j]? = C.data.toList[p + j]?) : Decoder.instr pc C p = .ok (.goto z, p + n) := by
  obtain ⟨h1, h⟩ := and2 h
  obtain ⟨h2, h⟩ := and2 h
  obtain ⟨h3, h⟩ := and2 h
  obtain ⟨h4, h5⟩ := and2 h
  obtain rfl := Nat.eq_of_beq_eq_true h5
  obtain rfl := of_decide_eq_true h4
  delta Decoder.instr
  exact f_op hl (Nat.eq_of_beq_eq_true h1) (by decide) (f_s2 (g := Instr.goto) hl (Nat.le_of_ble_eq_true h3) (Nat.le_of_ble_eq_true h2))
theorem fe_ifCond {c : Jvm.ClassFile.Cond} {z : Int} (h : (Nat.beq (fB l 0) (153 + fC c) && (Nat.ble (fB l 2) 255 && (Nat.ble (fB l 1) 255 && (decide (z = Reader.signed 16 (fW l)) && Nat.beq n 3)))) = true) (hl : ∀ j, l[j]? = C.data.toList[p + j]?) : Decoder.instr pc C p = .ok (.ifCond c z, p + n) := by
  obtain ⟨h1, h⟩ := and2 h
  obtain ⟨h2, h⟩ := and2 h
  obtain ⟨h3, h⟩ := and2 h
  obtain ⟨h4, h5⟩ := and2 h
  obtain rfl := Nat.eq_of_beq_eq_true h5
  obtain rfl := of_decide_eq_true h4
  delta Decoder.instr
  have h1 := Nat.eq_of_beq_eq_true h1
  cases c
  · exact f_op hl h1 (by decide) (f_s2 (g := Instr.ifCond .eq) hl (Nat.le_of_ble_eq_true h3) (Nat.le_of_ble_eq_true h2))
  · exact f_op hl h1 (by decide) (f_s2 (g := Instr.ifCond .ne) hl (Nat.le_of_ble_eq_true h3) (Nat.le_of_ble_eq_true h2))
  · exact f_op hl h1 (by decide) (f_s2 (g := Instr.ifCond .lt) hl (Nat.le_of_ble_eq_true h3) (Nat.le_of_ble_eq_true h2))
  · exact f_op hl h1 (by decide) (f_s2 (g := Instr.ifCond .ge) hl (Nat.le_of_ble_eq_true h3) (Nat.le_of_ble_eq_true h2))
  · exact f_op hl h1 (by decide) (f_s2 (g := Instr.ifCond .gt) hl (Nat.le_of_ble_eq_true h3) (Nat.le_of_ble_eq_true h2))
  · exact f_op hl h1 (by decide) (f_s2 (g := Instr.ifCond .le) hl (Nat.le_of_ble_eq_true h3) (Nat.le_of_ble_eq_true h2))
theorem fe_if_icmp {c : Jvm.ClassFile.Cond} {z : Int} (h : (Nat.beq (fB l 0) (159 + fC c) && (Nat.ble (fB l 2) 255 && (Nat.ble (fB l 1) 255 && (decide (z = Reader.signed 16 (fW l)) && Nat.beq n 3)))) = true) (hl : ∀ j, l[j]? = C.data.toList[p + j]?) : Decoder.instr pc C p = .ok (.if_icmp c z, p + n) := by
  obtain ⟨h1, h⟩ := and2 h
  obtain ⟨h2, h⟩ := and2 h
  obtain ⟨h3, h⟩ := and2 h
  obtain ⟨h4, h5⟩ := and2 h
  obtain rfl := Nat.eq_of_beq_eq_true h5
  obtain rfl := of_decide_eq_true h4
  delta Decoder.instr
  have h1 := Nat.eq_of_beq_eq_true h1
  cases c
  · exact f_op hl h1 (by decide) (f_s2 (g := Instr.if_icmp .eq) hl (Nat.le_of_ble_eq_true h3) (Nat.le_of_ble_eq_true h2))
  · exact f_op hl h1 (by decide) (f_s2 (g := Instr.if_icmp .ne) hl (Nat.le_of_ble_eq_true h3) (Nat.le_of_ble_eq_true h2))
  · exact f_op hl h1 (by decide) (f_s2 (g := Instr.if_icmp .lt) hl (Nat.le_of_ble_eq_true h3) (Nat.le_of_ble_eq_true h2))
  · exact f_op hl h1 (by decide) (f_s2 (g := Instr.if_icmp .ge) hl (Nat.le_of_ble_eq_true h3) (Nat.le_of_ble_eq_true h2))
  · exact f_op hl h1 (by decide) (f_s2 (g := Instr.if_icmp .gt) hl (Nat.le_of_ble_eq_true h3) (Nat.le_of_ble_eq_true h2))
  · exact f_op hl h1 (by decide) (f_s2 (g := Instr.if_icmp .le) hl (Nat.le_of_ble_eq_true h3) (Nat.le_of_ble_eq_true h2))
theorem fEn_ok {i : Instr} (h : fEn i l n = true) (hl : ∀ j, l[j]? = C.data.toList[p + j]?) : Decoder.instr pc C p = .ok (i, p + n) := by
  cases i with
  | ireturn => exact fe_ireturn h hl
  | iaload => exact fe_iaload h hl
  | iadd => exact fe_iadd h hl
  | pop => exact fe_pop h hl
  | aaload => exact fe_aaload h hl
  | iastore => exact fe_iastore h hl
  | isub => exact fe_isub h hl
  | dup => exact fe_dup h hl
  | return_ => exact fe_return_ h hl
  | imul => exact fe_imul h hl
  | ishl => exact fe_ishl h hl
  | iand => exact fe_iand h hl
  | ior => exact fe_ior h hl
  | aload_n m => exact fe_aload_n h hl
  | iload_n m => exact fe_iload_n h hl
  | istore_n m => exact fe_istore_n h hl
  | getfield m => exact fe_getfield h hl
  | putfield m => exact fe_putfield h hl
  | invokevirtual m => exact fe_invokevirtual h hl
  | invokespecial m => exact fe_invokespecial h hl
  | invokestatic m => exact fe_invokestatic h hl
  | ldc m => exact fe_ldc h hl
  | iload m => exact fe_iload h hl
  | istore m => exact fe_istore h hl
  | iconst z => exact fe_iconst h hl
  | bipush z => exact fe_bipush h hl
  | goto z => exact fe_goto h hl
  | ifCond c z => exact fe_ifCond h hl
  | if_icmp c z => exact fe_if_icmp h hl
  | _ => exact absurd h Bool.false_ne_true
theorem fEn_dec {i : Instr} (h : fEn i l n = true) (hl : ∀ j, l[j]? = C.data.toList[pc + j]?) : decode C pc = .ok (i, n) := by
  have e : decode C pc = (match Decoder.instr pc C pc with | .error x => .error x | .ok (j, s) => .ok (j, s - pc)) := by
    show (do let (j, s) ← Decoder.instr pc C pc; Pure.pure (j, s - pc) : Except DecodeError (Instr × Nat)) = _
    cases Decoder.instr pc C pc <;> rfl
  rw [e, fEn_ok h hl]
  show Except.ok (i, pc + n - pc) = _
  rw [Nat.add_sub_cancel_left]
end FE
/-- the code read in a line, by windows -/
noncomputable def mLin : List UInt8 → Nat → List (Option mEnt) → Bool
  | _, _, [] => true
  | l, pc, none :: t => mLin l.tail (pc + 1) t
  | l, pc, some e :: t => (fEn e.1 l e.2.1 || (!l.isEmpty && match Decoder.instr pc (Jvm.Free.DS.win l pc e.2.1) (pc % 4) with
    | .ok (j, q) => decide (j = e.1) && Nat.beq q (pc % 4 + e.2.1)
    | .error _ => false)) && mLin l.tail (pc + 1) t
noncomputable def mLinC : List UInt8 → Nat → List (List (Option mEnt)) → Bool
  | _, _, [] => true
  | l, k, c :: t => mLin l (32 * k) c && mLinC (l.drop 32) (k + 1) t
noncomputable def mCd (i : Nat) : Bool := match mMet i, mCode i with
  | some row, some k => mLinC row.2.2.1.data.toList 0 k
  | none, none => true
  | _, _ => false
noncomputable def mCe (i : Nat) : Bool := match mMet i, mCode i with
  | some row, some k => k.all fun c => c.all fun e => match e with
    | none => true
    | some e => mEck row e
  | none, none => true
  | _, _ => false
noncomputable def mCk (i : Nat) : Bool := mCd i && mCe i
theorem mLin_at {code : ByteArray} : ∀ (t : List (Option mEnt)) (l : List UInt8) (pc i : Nat) (e : mEnt), mLin l pc t = true → (∀ j, l[j]? = code.data.toList[pc + j]?) → t[i]? = some (some e) → decode code (pc + i) = .ok (e.1, e.2.1) := by
  intro t
  induction t with
  | nil => intro l pc i e h hl hi; simp at hi
  | cons d t ih =>
    intro l pc i e h hl hi
    have hl2 : ∀ j, l.tail[j]? = code.data.toList[pc + 1 + j]? := fun j => by
      rw [List.getElem?_tail, hl]
      congr 1
      omega
    have hnx : mLin l.tail (pc + 1) t = true := by
      cases d with
      | none => exact h
      | some d =>
        have h' : ((fEn d.1 l d.2.1 || (!l.isEmpty && match Decoder.instr pc (Jvm.Free.DS.win l pc d.2.1) (pc % 4) with
          | .ok (j, q) => decide (j = d.1) && Nat.beq q (pc % 4 + d.2.1)
          | .error _ => false)) && mLin l.tail (pc + 1) t) = true := h
        rw [Bool.and_eq_true] at h'
        exact h'.2
    cases i with
    | succ i =>
      rw [List.getElem?_cons_succ] at hi
      have := ih _ _ i e hnx hl2 hi
      rwa [show pc + 1 + i = pc + (i + 1) by omega] at this
    | zero =>
      rw [List.getElem?_cons_zero, Option.some.injEq] at hi
      subst hi
      have h' : ((fEn e.1 l e.2.1 || (!l.isEmpty && match Decoder.instr pc (Jvm.Free.DS.win l pc e.2.1) (pc % 4) with
        | .ok (j, q) => decide (j = e.1) && Nat.beq q (pc % 4 + e.2.1)
        | .error _ => false)) && mLin l.tail (pc + 1) t) = true := h
      have h'' := ((Bool.and_eq_true _ _).mp h').1
      rcases (Bool.or_eq_true _ _).mp h'' with hf | h''
      · exact fEn_dec hf hl
      rw [Bool.and_eq_true] at h''
      obtain ⟨h0, h1⟩ := h''
      have hp : pc ≤ code.size := by
        have h2 : l ≠ [] := fun q => by subst q; cases h0
        have h3 := hl 0
        rw [List.getElem?_eq_getElem (List.length_pos_iff.mpr h2)] at h3
        have h4 := (List.getElem?_eq_some_iff.mp h3.symm).1
        have h5 : code.data.toList.length = code.size := by simp
        omega
      cases hr : Decoder.instr pc (Jvm.Free.DS.win l pc e.2.1) (pc % 4) with
      | error x => rw [hr] at h1; cases h1
      | ok jq =>
        obtain ⟨j, q⟩ := jq
        rw [hr] at h1
        have h1' : (decide (j = e.1) && Nat.beq q (pc % 4 + e.2.1)) = true := h1
        rw [Bool.and_eq_true, decide_eq_true_eq] at h1'
        obtain ⟨rfl, h6⟩ := h1'
        obtain rfl := Nat.eq_of_beq_eq_true h6
        have := Jvm.Free.DS.shift (Jvm.Free.DS.win_agree (n := e.2.1) hl hp) hr
        rw [Nat.add_sub_cancel_left] at this
        exact this
theorem mLinC_at {code : ByteArray} : ∀ (t : List (List (Option mEnt))) (l : List UInt8) (k i : Nat) (c : List (Option mEnt)), mLinC l k t = true → (∀ j, l[j]? = code.data.toList[32 * k + j]?) → t[i]? = some c → ∃ l', mLin l' (32 * (k + i)) c = true ∧ ∀ j, l'[j]? = code.data.toList[32 * (k + i) + j]? := by
  intro t
  induction t with
  | nil => intro l k i c h hl hi; simp at hi
  | cons d t ih =>
    intro l k i c h hl hi
    simp only [mLinC, Bool.and_eq_true] at h
    cases i with
    | zero =>
      rw [List.getElem?_cons_zero, Option.some.injEq] at hi
      subst hi
      exact ⟨l, h.1, hl⟩
    | succ i =>
      rw [List.getElem?_cons_succ] at hi
      have := ih (l.drop 32) (k + 1) i c h.2 (fun j => by
        rw [List.getElem?_drop, hl]
        congr 1
        omega) hi
      rwa [show k + 1 + i = k + (i + 1) by omega] at this
theorem mCk_at {i pc : Nat} {row : mRow} {e : mEnt} (h : mCk i = true) (hr : mMet i = some row) (he : mFetch i pc = some e) : decode row.2.2.1 pc = .ok (e.1, e.2.1) ∧ mEck row e = true := by
  unfold mCk at h
  rw [Bool.and_eq_true] at h
  obtain ⟨hd, hE⟩ := h
  unfold mFetch at he
  cases hk : mCode i with
  | none => rw [hk] at he; cases he
  | some k =>
    rw [hk] at he
    simp only [mCd, hr, hk] at hd
    simp only [mCe, hr, hk] at hE
    simp only [Option.bind_some, Option.bind_eq_some_iff] at he
    obtain ⟨c, hc, o, ho, ho2⟩ := he
    have ho3 : o = some e := ho2
    subst ho3
    obtain ⟨l', h1, h2⟩ := mLinC_at (code := row.2.2.1) k _ 0 (pc / 32) c hd (fun j => by rw [Nat.mul_zero, Nat.zero_add]) hc
    refine ⟨?_, ?_⟩
    · have := mLin_at c l' _ (pc % 32) e h1 h2 ho
      rwa [show 32 * (0 + pc / 32) + pc % 32 = pc by omega] at this
    · have := List.all_eq_true.mp (List.all_eq_true.mp hE c (List.mem_of_getElem? hc)) _ (List.mem_of_getElem? ho)
      exact this
