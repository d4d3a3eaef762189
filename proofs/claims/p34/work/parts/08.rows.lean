section MRW
variable {p : Program} {l : Launch} {e : Env} {R : Room} {s : State} {m : MethodId} {args : Array Value} {below : List Frame} {meth : Method} {c : Code} {Q : State → Prop} {G : mG} {row : mRow} {d0 s0 : Nat} {pc : Nat} {L : mLoc} {st : List Value} {D : mHp} {q : Nat × mLoc × List Value × mHp}
def mCx (p : Program) (R : Room) (s : State) (m : MethodId) (args : Array Value) (meth : Method) (c : Code) (G : mG) (row : mRow) (d0 : Nat) : Prop :=
  p.tables.exec = Jvm.exec ∧ c.code = row.2.2.1 ∧ c.maxLocals = row.2.2.2.1 ∧ s.vm.findClass (mNm row.1) = some m.cls ∧ (∀ w ∈ mGW, w.before args s = true) ∧ mE G s s.heap ∧ (row.2.1.name = "<init>" → meth.name = "<init>") ∧ s.heap.size = G.1 + d0 ∧ row.2.2.2.2.2.1 ≤ R.frames ∧ row.2.2.2.2.2.2 ≤ R.locals
def mK (p : Program) (l : Launch) (e : Env) (R : Room) (s : State) (m : MethodId) (args : Array Value) (below : List Frame) (meth : Method) (c : Code) (Q : State → Prop) (G : mG) (nL d0 s0 : Nat) (pc : Nat) (L : mLoc) (st : List Value) (D : mHp) : Prop :=
  ∀ (ls : Array Slot) (H : Heap) (locs : List Loc) (cells slots : Nat), mLR G ls nL L → mMS G D H → va_S (mA G) s.heap H locs → cells + d0 = D.length → slots + s0 = mSl D → W p l e R s m args below meth c H locs cells slots Q (F0 m pc ls (st.map (mV G)))
theorem mNx_eq {pc : Nat} {ls : mLoc} {st : List Value} {D : mHp} {q : Nat × mLoc × List Value × mHp} (h : mNx pc ls st D = some (.inl q)) : q = (pc, ls, st, D) := by
  simp only [mNx, Option.some.injEq, Sum.inl.injEq] at h
  exact h.symm
theorem mTo_eq {pc : Nat} {off : Int} {t : Nat} (h : mTo pc off = some t) : (pc : Int) + off = (t : Int) := by
  unfold mTo at h
  split at h
  · rename_i h0
    rw [← Option.some.inj h]
    exact (Int.toNat_of_nonneg h0).symm
  · cases h
theorem mGo_eq {pc : Nat} {off : Int} {ls : mLoc} {st : List Value} {D : mHp} {q : Nat × mLoc × List Value × mHp} (h : mGo pc off ls st D = some (.inl q)) : ∃ t : Nat, (pc : Int) + off = (t : Int) ∧ q = (t, ls, st, D) := by
  unfold mGo at h
  obtain ⟨t, ht, hq⟩ := Option.map_eq_some_iff.mp h
  exact ⟨t, mTo_eq ht, (Sum.inl.inj hq).symm⟩
theorem mBr_eq {b : Bool} {pc : Nat} {off : Int} {ls : mLoc} {st : List Value} {D : mHp} {q : Nat × mLoc × List Value × mHp} (h : mBr b pc off ls st D = some (.inl q)) : ∃ t : Nat, (pc : Int) + off = (t : Int) ∧ q = (cond b t (pc + 3), ls, st, D) := by
  unfold mBr at h
  obtain ⟨t, ht, hq⟩ := Option.map_eq_some_iff.mp h
  exact ⟨t, mTo_eq ht, (Sum.inl.inj hq).symm⟩
theorem mBind_eq {α β : Type} {o : Option α} {f : α → Option β} {b : β} (h : o.bind f = some b) : ∃ a, o = some a ∧ f a = some b := Option.bind_eq_some_iff.mp h
theorem mCond_eq {α : Type} {b : Bool} {o : Option α} {a : α} (h : cond b o none = some a) : b = true ∧ o = some a := by
  cases b with
  | true => exact ⟨rfl, h⟩
  | false => cases h
theorem mOut_in {j : Int32} {n : Nat} (h : (!mOut j n) = true) : vp_in j n := by
  unfold mOut at h
  simpa [vp_in] using h

theorem r_iconst (C : mCx p R s m args meth c G row d0) {n : Int} (hd : decode row.2.2.1 pc = .ok (.iconst n, 1)) (h : (mNx (pc + 1) L (.int (Int32.ofInt n) :: st) D) = some (.inl q)) (k : mK p l e R s m args below meth c Q G row.2.2.2.1 d0 s0 q.1 q.2.1 q.2.2.1 q.2.2.2) : mK p l e R s m args below meth c Q G row.2.2.2.1 d0 s0 pc L st D := by
  intro ls H locs cells slots hL hP hS hc hs
  obtain rfl := mNx_eq h
  exact lv_iconst C.1 C.2.1 hd rfl (k ls H locs cells slots hL hP hS hc hs)
theorem r_bipush (C : mCx p R s m args meth c G row d0) {n : Int} (hd : decode row.2.2.1 pc = .ok (.bipush n, 2)) (h : (mNx (pc + 2) L (.int (Int8.ofInt n).toInt32 :: st) D) = some (.inl q)) (k : mK p l e R s m args below meth c Q G row.2.2.2.1 d0 s0 q.1 q.2.1 q.2.2.1 q.2.2.2) : mK p l e R s m args below meth c Q G row.2.2.2.1 d0 s0 pc L st D := by
  intro ls H locs cells slots hL hP hS hc hs
  obtain rfl := mNx_eq h
  exact lv_bipush C.1 C.2.1 hd rfl (k ls H locs cells slots hL hP hS hc hs)
theorem r_sipush (C : mCx p R s m args meth c G row d0) {n : Int} (hd : decode row.2.2.1 pc = .ok (.sipush n, 3)) (h : (mNx (pc + 3) L (.int (Int16.ofInt n).toInt32 :: st) D) = some (.inl q)) (k : mK p l e R s m args below meth c Q G row.2.2.2.1 d0 s0 q.1 q.2.1 q.2.2.1 q.2.2.2) : mK p l e R s m args below meth c Q G row.2.2.2.1 d0 s0 pc L st D := by
  intro ls H locs cells slots hL hP hS hc hs
  obtain rfl := mNx_eq h
  exact lv_sipush C.1 C.2.1 hd rfl (k ls H locs cells slots hL hP hS hc hs)
theorem r_lconst (C : mCx p R s m args meth c G row d0) {n : Fin 2} (hd : decode row.2.2.1 pc = .ok (.lconst n, 1)) (h : (mNx (pc + 1) L (.long (Int64.ofNat n.val) :: st) D) = some (.inl q)) (k : mK p l e R s m args below meth c Q G row.2.2.2.1 d0 s0 q.1 q.2.1 q.2.2.1 q.2.2.2) : mK p l e R s m args below meth c Q G row.2.2.2.1 d0 s0 pc L st D := by
  intro ls H locs cells slots hL hP hS hc hs
  obtain rfl := mNx_eq h
  exact lv_lconst C.1 C.2.1 hd rfl (k ls H locs cells slots hL hP hS hc hs)
theorem r_iload_n (C : mCx p R s m args meth c G row d0) {i : Fin 4} (hd : decode row.2.2.1 pc = .ok (.iload_n i, 1)) (h : (match L[i.val]? with
    | some (some (.int x)) => mNx (pc + 1) L (.int x :: st) D
    | _ => none) = some (.inl q)) (k : mK p l e R s m args below meth c Q G row.2.2.2.1 d0 s0 q.1 q.2.1 q.2.2.1 q.2.2.2) : mK p l e R s m args below meth c Q G row.2.2.2.1 d0 s0 pc L st D := by
  intro ls H locs cells slots hL hP hS hc hs
  split at h
  · rename_i x hx
    obtain rfl := mNx_eq h
    exact lv_iload_n C.1 C.2.1 hd rfl (hL.2.2.2 _ _ hx) (k ls H locs cells slots hL hP hS hc hs)
  · cases h
theorem r_iload (C : mCx p R s m args meth c G row d0) {i : Nat} (hd : decode row.2.2.1 pc = .ok (.iload i, 2)) (h : (match L[i]? with
    | some (some (.int x)) => mNx (pc + 2) L (.int x :: st) D
    | _ => none) = some (.inl q)) (k : mK p l e R s m args below meth c Q G row.2.2.2.1 d0 s0 q.1 q.2.1 q.2.2.1 q.2.2.2) : mK p l e R s m args below meth c Q G row.2.2.2.1 d0 s0 pc L st D := by
  intro ls H locs cells slots hL hP hS hc hs
  split at h
  · rename_i x hx
    obtain rfl := mNx_eq h
    exact lv_iload C.1 C.2.1 hd (hL.2.2.2 _ _ hx) (k ls H locs cells slots hL hP hS hc hs)
  · cases h
theorem r_lload_n (C : mCx p R s m args meth c G row d0) {i : Fin 4} (hd : decode row.2.2.1 pc = .ok (.lload_n i, 1)) (h : (match L[i.val]? with
    | some (some (.long x)) => mNx (pc + 1) L (.long x :: st) D
    | _ => none) = some (.inl q)) (k : mK p l e R s m args below meth c Q G row.2.2.2.1 d0 s0 q.1 q.2.1 q.2.2.1 q.2.2.2) : mK p l e R s m args below meth c Q G row.2.2.2.1 d0 s0 pc L st D := by
  intro ls H locs cells slots hL hP hS hc hs
  split at h
  · rename_i x hx
    obtain rfl := mNx_eq h
    exact lv_lload_n C.1 C.2.1 hd rfl (hL.2.2.2 _ _ hx) (k ls H locs cells slots hL hP hS hc hs)
  · cases h
theorem r_lload (C : mCx p R s m args meth c G row d0) {i : Nat} (hd : decode row.2.2.1 pc = .ok (.lload i, 2)) (h : (match L[i]? with
    | some (some (.long x)) => mNx (pc + 2) L (.long x :: st) D
    | _ => none) = some (.inl q)) (k : mK p l e R s m args below meth c Q G row.2.2.2.1 d0 s0 q.1 q.2.1 q.2.2.1 q.2.2.2) : mK p l e R s m args below meth c Q G row.2.2.2.1 d0 s0 pc L st D := by
  intro ls H locs cells slots hL hP hS hc hs
  split at h
  · rename_i x hx
    obtain rfl := mNx_eq h
    exact lv_lload C.1 C.2.1 hd (hL.2.2.2 _ _ hx) (k ls H locs cells slots hL hP hS hc hs)
  · cases h
theorem r_aload_n (C : mCx p R s m args meth c G row d0) {i : Fin 4} (hd : decode row.2.2.1 pc = .ok (.aload_n i, 1)) (h : (match L[i.val]? with
    | some (some (.ref x)) => mNx (pc + 1) L (.ref x :: st) D
    | _ => none) = some (.inl q)) (k : mK p l e R s m args below meth c Q G row.2.2.2.1 d0 s0 q.1 q.2.1 q.2.2.1 q.2.2.2) : mK p l e R s m args below meth c Q G row.2.2.2.1 d0 s0 pc L st D := by
  intro ls H locs cells slots hL hP hS hc hs
  split at h
  · rename_i x hx
    obtain rfl := mNx_eq h
    exact lv_aload_n C.1 C.2.1 hd rfl (hL.2.2.2 _ _ hx) (k ls H locs cells slots hL hP hS hc hs)
  · cases h
theorem r_aload (C : mCx p R s m args meth c G row d0) {i : Nat} (hd : decode row.2.2.1 pc = .ok (.aload i, 2)) (h : (match L[i]? with
    | some (some (.ref x)) => mNx (pc + 2) L (.ref x :: st) D
    | _ => none) = some (.inl q)) (k : mK p l e R s m args below meth c Q G row.2.2.2.1 d0 s0 q.1 q.2.1 q.2.2.1 q.2.2.2) : mK p l e R s m args below meth c Q G row.2.2.2.1 d0 s0 pc L st D := by
  intro ls H locs cells slots hL hP hS hc hs
  split at h
  · rename_i x hx
    obtain rfl := mNx_eq h
    exact lv_aload C.1 C.2.1 hd (hL.2.2.2 _ _ hx) (k ls H locs cells slots hL hP hS hc hs)
  · cases h
theorem r_istore_n (C : mCx p R s m args meth c G row d0) {i : Fin 4} (hd : decode row.2.2.1 pc = .ok (.istore_n i, 1)) (h : (match st with
    | .int x :: r => (mS1 L i.val (.int x)).bind fun l => mNx (pc + 1) l r D
    | _ => none) = some (.inl q)) (k : mK p l e R s m args below meth c Q G row.2.2.2.1 d0 s0 q.1 q.2.1 q.2.2.1 q.2.2.2) : mK p l e R s m args below meth c Q G row.2.2.2.1 d0 s0 pc L st D := by
  intro ls H locs cells slots hL hP hS hc hs
  split at h
  · obtain ⟨L1, h1, h2⟩ := mBind_eq h
    obtain rfl := mNx_eq h2
    exact lv_istore_n C.1 C.2.1 hd rfl hL.has (by have := (mS1_spec h1).1; rw [hL.1] at this; exact this) rfl (fun ls1 hl1 => k ls1 H locs cells slots (hL.put1 h1 hl1) hP hS hc hs)
  · cases h
theorem r_istore (C : mCx p R s m args meth c G row d0) {i : Nat} (hd : decode row.2.2.1 pc = .ok (.istore i, 2)) (h : (match st with
    | .int x :: r => (mS1 L i (.int x)).bind fun l => mNx (pc + 2) l r D
    | _ => none) = some (.inl q)) (k : mK p l e R s m args below meth c Q G row.2.2.2.1 d0 s0 q.1 q.2.1 q.2.2.1 q.2.2.2) : mK p l e R s m args below meth c Q G row.2.2.2.1 d0 s0 pc L st D := by
  intro ls H locs cells slots hL hP hS hc hs
  split at h
  · obtain ⟨L1, h1, h2⟩ := mBind_eq h
    obtain rfl := mNx_eq h2
    exact lv_istore C.1 C.2.1 hd hL.has (by have := (mS1_spec h1).1; rw [hL.1] at this; exact this) rfl (fun ls1 hl1 => k ls1 H locs cells slots (hL.put1 h1 hl1) hP hS hc hs)
  · cases h
theorem r_lstore_n (C : mCx p R s m args meth c G row d0) {i : Fin 4} (hd : decode row.2.2.1 pc = .ok (.lstore_n i, 1)) (h : (match st with
    | .long x :: r => (mS2 L i.val (.long x)).bind fun l => mNx (pc + 1) l r D
    | _ => none) = some (.inl q)) (k : mK p l e R s m args below meth c Q G row.2.2.2.1 d0 s0 q.1 q.2.1 q.2.2.1 q.2.2.2) : mK p l e R s m args below meth c Q G row.2.2.2.1 d0 s0 pc L st D := by
  intro ls H locs cells slots hL hP hS hc hs
  split at h
  · obtain ⟨L1, h1, h2⟩ := mBind_eq h
    obtain rfl := mNx_eq h2
    exact lv_lstore_n C.1 C.2.1 hd rfl hL.has (by have := (mS2_spec h1).1; rw [hL.1] at this; exact this) rfl (fun ls1 hl1 => k ls1 H locs cells slots (hL.put2 h1 hl1) hP hS hc hs)
  · cases h
theorem r_lstore (C : mCx p R s m args meth c G row d0) {i : Nat} (hd : decode row.2.2.1 pc = .ok (.lstore i, 2)) (h : (match st with
    | .long x :: r => (mS2 L i (.long x)).bind fun l => mNx (pc + 2) l r D
    | _ => none) = some (.inl q)) (k : mK p l e R s m args below meth c Q G row.2.2.2.1 d0 s0 q.1 q.2.1 q.2.2.1 q.2.2.2) : mK p l e R s m args below meth c Q G row.2.2.2.1 d0 s0 pc L st D := by
  intro ls H locs cells slots hL hP hS hc hs
  split at h
  · obtain ⟨L1, h1, h2⟩ := mBind_eq h
    obtain rfl := mNx_eq h2
    exact lv_lstore C.1 C.2.1 hd hL.has (by have := (mS2_spec h1).1; rw [hL.1] at this; exact this) rfl (fun ls1 hl1 => k ls1 H locs cells slots (hL.put2 h1 hl1) hP hS hc hs)
  · cases h
theorem r_astore_n (C : mCx p R s m args meth c G row d0) {i : Fin 4} (hd : decode row.2.2.1 pc = .ok (.astore_n i, 1)) (h : (match st with
    | .ref x :: r => (mS1 L i.val (.ref x)).bind fun l => mNx (pc + 1) l r D
    | _ => none) = some (.inl q)) (k : mK p l e R s m args below meth c Q G row.2.2.2.1 d0 s0 q.1 q.2.1 q.2.2.1 q.2.2.2) : mK p l e R s m args below meth c Q G row.2.2.2.1 d0 s0 pc L st D := by
  intro ls H locs cells slots hL hP hS hc hs
  split at h
  · obtain ⟨L1, h1, h2⟩ := mBind_eq h
    obtain rfl := mNx_eq h2
    exact lv_astore_n C.1 C.2.1 hd rfl hL.has (by have := (mS1_spec h1).1; rw [hL.1] at this; exact this) rfl (fun ls1 hl1 => k ls1 H locs cells slots (hL.put1 h1 hl1) hP hS hc hs)
  · cases h
theorem r_astore (C : mCx p R s m args meth c G row d0) {i : Nat} (hd : decode row.2.2.1 pc = .ok (.astore i, 2)) (h : (match st with
    | .ref x :: r => (mS1 L i (.ref x)).bind fun l => mNx (pc + 2) l r D
    | _ => none) = some (.inl q)) (k : mK p l e R s m args below meth c Q G row.2.2.2.1 d0 s0 q.1 q.2.1 q.2.2.1 q.2.2.2) : mK p l e R s m args below meth c Q G row.2.2.2.1 d0 s0 pc L st D := by
  intro ls H locs cells slots hL hP hS hc hs
  split at h
  · obtain ⟨L1, h1, h2⟩ := mBind_eq h
    obtain rfl := mNx_eq h2
    exact lv_astore C.1 C.2.1 hd hL.has (by have := (mS1_spec h1).1; rw [hL.1] at this; exact this) rfl (fun ls1 hl1 => k ls1 H locs cells slots (hL.put1 h1 hl1) hP hS hc hs)
  · cases h
theorem mPr_at {G : mG} {L : mLoc} {i : Nat} {v : Value} (h : L[i]? = some (some v)) : ∃ k : Nat, (mPr G L)[k]? = some (i, mV G v) := List.getElem?_of_mem (mPr_mem h)

theorem r_iinc (C : mCx p R s m args meth c G row d0) {i : Nat} {n : Int} (hd : decode row.2.2.1 pc = .ok (.iinc i n, 3)) (h : (match L[i]? with
    | some (some (.int x)) => (mS1 L i (.int (x + Int32.ofInt n))).bind fun l => mNx (pc + 3) l st D
    | _ => none) = some (.inl q)) (k : mK p l e R s m args below meth c Q G row.2.2.2.1 d0 s0 q.1 q.2.1 q.2.2.1 q.2.2.2) : mK p l e R s m args below meth c Q G row.2.2.2.1 d0 s0 pc L st D := by
  intro ls H locs cells slots hL hP hS hc hs
  split at h
  · rename_i x hx
    obtain ⟨L1, h1, h2⟩ := mBind_eq h
    obtain rfl := mNx_eq h2
    obtain ⟨k9, hk9⟩ := mPr_at (G := G) hx
    exact lv_iinc C.1 C.2.1 hd hL.has hk9 rfl (by have := (mS1_spec h1).1; rw [hL.1] at this; exact this) rfl (fun ls1 hl1 => k ls1 H locs cells slots (hL.put1 h1 hl1) hP hS hc hs)
  · cases h
theorem r_iadd (C : mCx p R s m args meth c G row d0) (hd : decode row.2.2.1 pc = .ok (.iadd, 1)) (h : (match st with
    | .int y :: .int x :: r => mNx (pc + 1) L (.int (x + y) :: r) D
    | _ => none) = some (.inl q)) (k : mK p l e R s m args below meth c Q G row.2.2.2.1 d0 s0 q.1 q.2.1 q.2.2.1 q.2.2.2) : mK p l e R s m args below meth c Q G row.2.2.2.1 d0 s0 pc L st D := by
  intro ls H locs cells slots hL hP hS hc hs
  split at h
  · obtain rfl := mNx_eq h
    exact lv_iadd C.1 C.2.1 hd (k ls H locs cells slots hL hP hS hc hs)
  · cases h
theorem r_isub (C : mCx p R s m args meth c G row d0) (hd : decode row.2.2.1 pc = .ok (.isub, 1)) (h : (match st with
    | .int y :: .int x :: r => mNx (pc + 1) L (.int (x - y) :: r) D
    | _ => none) = some (.inl q)) (k : mK p l e R s m args below meth c Q G row.2.2.2.1 d0 s0 q.1 q.2.1 q.2.2.1 q.2.2.2) : mK p l e R s m args below meth c Q G row.2.2.2.1 d0 s0 pc L st D := by
  intro ls H locs cells slots hL hP hS hc hs
  split at h
  · obtain rfl := mNx_eq h
    exact lv_isub C.1 C.2.1 hd (k ls H locs cells slots hL hP hS hc hs)
  · cases h
theorem r_imul (C : mCx p R s m args meth c G row d0) (hd : decode row.2.2.1 pc = .ok (.imul, 1)) (h : (match st with
    | .int y :: .int x :: r => mNx (pc + 1) L (.int (x * y) :: r) D
    | _ => none) = some (.inl q)) (k : mK p l e R s m args below meth c Q G row.2.2.2.1 d0 s0 q.1 q.2.1 q.2.2.1 q.2.2.2) : mK p l e R s m args below meth c Q G row.2.2.2.1 d0 s0 pc L st D := by
  intro ls H locs cells slots hL hP hS hc hs
  split at h
  · obtain rfl := mNx_eq h
    exact lv_imul C.1 C.2.1 hd (k ls H locs cells slots hL hP hS hc hs)
  · cases h
theorem r_iand (C : mCx p R s m args meth c G row d0) (hd : decode row.2.2.1 pc = .ok (.iand, 1)) (h : (match st with
    | .int y :: .int x :: r => mNx (pc + 1) L (.int (x &&& y) :: r) D
    | _ => none) = some (.inl q)) (k : mK p l e R s m args below meth c Q G row.2.2.2.1 d0 s0 q.1 q.2.1 q.2.2.1 q.2.2.2) : mK p l e R s m args below meth c Q G row.2.2.2.1 d0 s0 pc L st D := by
  intro ls H locs cells slots hL hP hS hc hs
  split at h
  · obtain rfl := mNx_eq h
    exact lv_iand C.1 C.2.1 hd (k ls H locs cells slots hL hP hS hc hs)
  · cases h
theorem r_ior (C : mCx p R s m args meth c G row d0) (hd : decode row.2.2.1 pc = .ok (.ior, 1)) (h : (match st with
    | .int y :: .int x :: r => mNx (pc + 1) L (.int (x ||| y) :: r) D
    | _ => none) = some (.inl q)) (k : mK p l e R s m args below meth c Q G row.2.2.2.1 d0 s0 q.1 q.2.1 q.2.2.1 q.2.2.2) : mK p l e R s m args below meth c Q G row.2.2.2.1 d0 s0 pc L st D := by
  intro ls H locs cells slots hL hP hS hc hs
  split at h
  · obtain rfl := mNx_eq h
    exact lv_ior C.1 C.2.1 hd (k ls H locs cells slots hL hP hS hc hs)
  · cases h
theorem r_ixor (C : mCx p R s m args meth c G row d0) (hd : decode row.2.2.1 pc = .ok (.ixor, 1)) (h : (match st with
    | .int y :: .int x :: r => mNx (pc + 1) L (.int (x ^^^ y) :: r) D
    | _ => none) = some (.inl q)) (k : mK p l e R s m args below meth c Q G row.2.2.2.1 d0 s0 q.1 q.2.1 q.2.2.1 q.2.2.2) : mK p l e R s m args below meth c Q G row.2.2.2.1 d0 s0 pc L st D := by
  intro ls H locs cells slots hL hP hS hc hs
  split at h
  · obtain rfl := mNx_eq h
    exact lv_ixor C.1 C.2.1 hd (k ls H locs cells slots hL hP hS hc hs)
  · cases h
theorem r_ishl (C : mCx p R s m args meth c G row d0) (hd : decode row.2.2.1 pc = .ok (.ishl, 1)) (h : (match st with
    | .int y :: .int x :: r => mNx (pc + 1) L (.int (x <<< (y &&& 31)) :: r) D
    | _ => none) = some (.inl q)) (k : mK p l e R s m args below meth c Q G row.2.2.2.1 d0 s0 q.1 q.2.1 q.2.2.1 q.2.2.2) : mK p l e R s m args below meth c Q G row.2.2.2.1 d0 s0 pc L st D := by
  intro ls H locs cells slots hL hP hS hc hs
  split at h
  · obtain rfl := mNx_eq h
    exact lv_ishl C.1 C.2.1 hd (k ls H locs cells slots hL hP hS hc hs)
  · cases h
theorem r_ishr (C : mCx p R s m args meth c G row d0) (hd : decode row.2.2.1 pc = .ok (.ishr, 1)) (h : (match st with
    | .int y :: .int x :: r => mNx (pc + 1) L (.int (x >>> (y &&& 31)) :: r) D
    | _ => none) = some (.inl q)) (k : mK p l e R s m args below meth c Q G row.2.2.2.1 d0 s0 q.1 q.2.1 q.2.2.1 q.2.2.2) : mK p l e R s m args below meth c Q G row.2.2.2.1 d0 s0 pc L st D := by
  intro ls H locs cells slots hL hP hS hc hs
  split at h
  · obtain rfl := mNx_eq h
    exact lv_ishr C.1 C.2.1 hd (k ls H locs cells slots hL hP hS hc hs)
  · cases h
theorem r_ladd (C : mCx p R s m args meth c G row d0) (hd : decode row.2.2.1 pc = .ok (.ladd, 1)) (h : (match st with
    | .long y :: .long x :: r => mNx (pc + 1) L (.long (x + y) :: r) D
    | _ => none) = some (.inl q)) (k : mK p l e R s m args below meth c Q G row.2.2.2.1 d0 s0 q.1 q.2.1 q.2.2.1 q.2.2.2) : mK p l e R s m args below meth c Q G row.2.2.2.1 d0 s0 pc L st D := by
  intro ls H locs cells slots hL hP hS hc hs
  split at h
  · obtain rfl := mNx_eq h
    exact lv_ladd C.1 C.2.1 hd (k ls H locs cells slots hL hP hS hc hs)
  · cases h
theorem r_lmul (C : mCx p R s m args meth c G row d0) (hd : decode row.2.2.1 pc = .ok (.lmul, 1)) (h : (match st with
    | .long y :: .long x :: r => mNx (pc + 1) L (.long (x * y) :: r) D
    | _ => none) = some (.inl q)) (k : mK p l e R s m args below meth c Q G row.2.2.2.1 d0 s0 q.1 q.2.1 q.2.2.1 q.2.2.2) : mK p l e R s m args below meth c Q G row.2.2.2.1 d0 s0 pc L st D := by
  intro ls H locs cells slots hL hP hS hc hs
  split at h
  · obtain rfl := mNx_eq h
    exact lv_lmul C.1 C.2.1 hd (k ls H locs cells slots hL hP hS hc hs)
  · cases h
theorem r_iushr (C : mCx p R s m args meth c G row d0) (hd : decode row.2.2.1 pc = .ok (.iushr, 1)) (h : (match st with
    | .int y :: .int x :: r => mNx (pc + 1) L (.int (x.toUInt32 >>> (y.toUInt32 &&& Int32.toUInt32 31)).toInt32 :: r) D
    | _ => none) = some (.inl q)) (k : mK p l e R s m args below meth c Q G row.2.2.2.1 d0 s0 q.1 q.2.1 q.2.2.1 q.2.2.2) : mK p l e R s m args below meth c Q G row.2.2.2.1 d0 s0 pc L st D := by
  intro ls H locs cells slots hL hP hS hc hs
  split at h
  · obtain rfl := mNx_eq h
    exact lv_iushr C.1 C.2.1 hd rfl (k ls H locs cells slots hL hP hS hc hs)
  · cases h
theorem r_lcmp (C : mCx p R s m args meth c G row d0) (hd : decode row.2.2.1 pc = .ok (.lcmp, 1)) (h : (match st with
    | .long y :: .long x :: r => mNx (pc + 1) L (.int (lg_cmp x y) :: r) D
    | _ => none) = some (.inl q)) (k : mK p l e R s m args below meth c Q G row.2.2.2.1 d0 s0 q.1 q.2.1 q.2.2.1 q.2.2.2) : mK p l e R s m args below meth c Q G row.2.2.2.1 d0 s0 pc L st D := by
  intro ls H locs cells slots hL hP hS hc hs
  split at h
  · obtain rfl := mNx_eq h
    exact W.lcmp C.1 C.2.1 hd (k ls H locs cells slots hL hP hS hc hs)
  · cases h
theorem r_idiv (C : mCx p R s m args meth c G row d0) (hd : decode row.2.2.1 pc = .ok (.idiv, 1)) (h : (match st with
    | .int y :: .int x :: r => if y = 0 then none else mNx (pc + 1) L (.int (x / y) :: r) D
    | _ => none) = some (.inl q)) (k : mK p l e R s m args below meth c Q G row.2.2.2.1 d0 s0 q.1 q.2.1 q.2.2.1 q.2.2.2) : mK p l e R s m args below meth c Q G row.2.2.2.1 d0 s0 pc L st D := by
  intro ls H locs cells slots hL hP hS hc hs
  split at h
  · split at h
    · cases h
    · rename_i hne
      obtain rfl := mNx_eq h
      exact lv_idiv C.1 C.2.1 hd hne (k ls H locs cells slots hL hP hS hc hs)
  · cases h
theorem r_irem (C : mCx p R s m args meth c G row d0) (hd : decode row.2.2.1 pc = .ok (.irem, 1)) (h : (match st with
    | .int y :: .int x :: r => if y = 0 then none else mNx (pc + 1) L (.int (x - x / y * y) :: r) D
    | _ => none) = some (.inl q)) (k : mK p l e R s m args below meth c Q G row.2.2.2.1 d0 s0 q.1 q.2.1 q.2.2.1 q.2.2.2) : mK p l e R s m args below meth c Q G row.2.2.2.1 d0 s0 pc L st D := by
  intro ls H locs cells slots hL hP hS hc hs
  split at h
  · split at h
    · cases h
    · rename_i hne
      obtain rfl := mNx_eq h
      exact lv_irem C.1 C.2.1 hd hne (k ls H locs cells slots hL hP hS hc hs)
  · cases h
theorem r_i2l (C : mCx p R s m args meth c G row d0) (hd : decode row.2.2.1 pc = .ok (.i2l, 1)) (h : (match st with
    | .int x :: r => mNx (pc + 1) L (.long x.toInt64 :: r) D
    | _ => none) = some (.inl q)) (k : mK p l e R s m args below meth c Q G row.2.2.2.1 d0 s0 q.1 q.2.1 q.2.2.1 q.2.2.2) : mK p l e R s m args below meth c Q G row.2.2.2.1 d0 s0 pc L st D := by
  intro ls H locs cells slots hL hP hS hc hs
  split at h
  · obtain rfl := mNx_eq h
    exact lv_i2l C.1 C.2.1 hd rfl (k ls H locs cells slots hL hP hS hc hs)
  · cases h
theorem r_i2b (C : mCx p R s m args meth c G row d0) (hd : decode row.2.2.1 pc = .ok (.i2b, 1)) (h : (match st with
    | .int x :: r => mNx (pc + 1) L (.int x.toInt8.toInt32 :: r) D
    | _ => none) = some (.inl q)) (k : mK p l e R s m args below meth c Q G row.2.2.2.1 d0 s0 q.1 q.2.1 q.2.2.1 q.2.2.2) : mK p l e R s m args below meth c Q G row.2.2.2.1 d0 s0 pc L st D := by
  intro ls H locs cells slots hL hP hS hc hs
  split at h
  · obtain rfl := mNx_eq h
    exact lv_i2b C.1 C.2.1 hd rfl (k ls H locs cells slots hL hP hS hc hs)
  · cases h
theorem r_i2s (C : mCx p R s m args meth c G row d0) (hd : decode row.2.2.1 pc = .ok (.i2s, 1)) (h : (match st with
    | .int x :: r => mNx (pc + 1) L (.int x.toInt16.toInt32 :: r) D
    | _ => none) = some (.inl q)) (k : mK p l e R s m args below meth c Q G row.2.2.2.1 d0 s0 q.1 q.2.1 q.2.2.1 q.2.2.2) : mK p l e R s m args below meth c Q G row.2.2.2.1 d0 s0 pc L st D := by
  intro ls H locs cells slots hL hP hS hc hs
  split at h
  · obtain rfl := mNx_eq h
    exact lv_i2s C.1 C.2.1 hd rfl (k ls H locs cells slots hL hP hS hc hs)
  · cases h
theorem r_dup (C : mCx p R s m args meth c G row d0) (hd : decode row.2.2.1 pc = .ok (.dup, 1)) (h : (match st with
    | v :: r => cond (Nat.beq v.category 1) (mNx (pc + 1) L (v :: v :: r) D) none
    | _ => none) = some (.inl q)) (k : mK p l e R s m args below meth c Q G row.2.2.2.1 d0 s0 q.1 q.2.1 q.2.2.1 q.2.2.2) : mK p l e R s m args below meth c Q G row.2.2.2.1 d0 s0 pc L st D := by
  intro ls H locs cells slots hL hP hS hc hs
  split at h
  · obtain ⟨h1, h⟩ := mCond_eq h
    obtain rfl := mNx_eq h
    exact lv_dup C.1 C.2.1 hd (by rw [mV_cat]; exact Nat.eq_of_beq_eq_true h1) (k ls H locs cells slots hL hP hS hc hs)
  · cases h
theorem r_pop (C : mCx p R s m args meth c G row d0) (hd : decode row.2.2.1 pc = .ok (.pop, 1)) (h : (match st with
    | v :: r => cond (Nat.beq v.category 1) (mNx (pc + 1) L r D) none
    | _ => none) = some (.inl q)) (k : mK p l e R s m args below meth c Q G row.2.2.2.1 d0 s0 q.1 q.2.1 q.2.2.1 q.2.2.2) : mK p l e R s m args below meth c Q G row.2.2.2.1 d0 s0 pc L st D := by
  intro ls H locs cells slots hL hP hS hc hs
  split at h
  · obtain ⟨h1, h⟩ := mCond_eq h
    obtain rfl := mNx_eq h
    exact lv_pop C.1 C.2.1 hd (by rw [mV_cat]; exact Nat.eq_of_beq_eq_true h1) (k ls H locs cells slots hL hP hS hc hs)
  · cases h
theorem r_dup2 (C : mCx p R s m args meth c G row d0) (hd : decode row.2.2.1 pc = .ok (.dup2, 1)) (h : (match st with
    | v :: w :: r => cond (Nat.beq v.category 1 && Nat.beq w.category 1) (mNx (pc + 1) L (v :: w :: v :: w :: r) D) none
    | _ => none) = some (.inl q)) (k : mK p l e R s m args below meth c Q G row.2.2.2.1 d0 s0 q.1 q.2.1 q.2.2.1 q.2.2.2) : mK p l e R s m args below meth c Q G row.2.2.2.1 d0 s0 pc L st D := by
  intro ls H locs cells slots hL hP hS hc hs
  split at h
  · obtain ⟨h1, h⟩ := mCond_eq h
    obtain rfl := mNx_eq h
    rw [Bool.and_eq_true] at h1
    exact lv_dup2_11 C.1 C.2.1 hd (by rw [mV_cat]; exact Nat.eq_of_beq_eq_true h1.1) (by rw [mV_cat]; exact Nat.eq_of_beq_eq_true h1.2) (k ls H locs cells slots hL hP hS hc hs)
  · cases h
theorem r_pop2 (C : mCx p R s m args meth c G row d0) (hd : decode row.2.2.1 pc = .ok (.pop2, 1)) (h : (match st with
    | .long _ :: r => mNx (pc + 1) L r D
    | _ => none) = some (.inl q)) (k : mK p l e R s m args below meth c Q G row.2.2.2.1 d0 s0 q.1 q.2.1 q.2.2.1 q.2.2.2) : mK p l e R s m args below meth c Q G row.2.2.2.1 d0 s0 pc L st D := by
  intro ls H locs cells slots hL hP hS hc hs
  split at h
  · obtain rfl := mNx_eq h
    exact lv_pop2_2 C.1 C.2.1 hd rfl (k ls H locs cells slots hL hP hS hc hs)
  · cases h
theorem r_if_eq (C : mCx p R s m args meth c G row d0) {off : Int} (hd : decode row.2.2.1 pc = .ok (.ifCond .eq off, 3)) (h : (match st with
    | .int x :: r => mBr (decide (x = 0)) pc off L r D
    | _ => none) = some (.inl q)) (k : mK p l e R s m args below meth c Q G row.2.2.2.1 d0 s0 q.1 q.2.1 q.2.2.1 q.2.2.2) : mK p l e R s m args below meth c Q G row.2.2.2.1 d0 s0 pc L st D := by
  intro ls H locs cells slots hL hP hS hc hs
  split at h
  · obtain ⟨t, ht, rfl⟩ := mBr_eq h
    have k1 := k ls H locs cells slots hL hP hS hc hs
    refine lv_if_eq C.1 C.2.1 hd ht (fun hP => ?_) (fun hP => ?_)
    · simpa only [decide_eq_true hP, cond_true] using k1
    · simpa only [decide_eq_false hP, cond_false] using k1
  · cases h
theorem r_icmp_eq (C : mCx p R s m args meth c G row d0) {off : Int} (hd : decode row.2.2.1 pc = .ok (.if_icmp .eq off, 3)) (h : (match st with
    | .int y :: .int x :: r => mBr (decide (x = y)) pc off L r D
    | _ => none) = some (.inl q)) (k : mK p l e R s m args below meth c Q G row.2.2.2.1 d0 s0 q.1 q.2.1 q.2.2.1 q.2.2.2) : mK p l e R s m args below meth c Q G row.2.2.2.1 d0 s0 pc L st D := by
  intro ls H locs cells slots hL hP hS hc hs
  split at h
  · obtain ⟨t, ht, rfl⟩ := mBr_eq h
    have k1 := k ls H locs cells slots hL hP hS hc hs
    refine lv_icmp_eq C.1 C.2.1 hd ht (fun hP => ?_) (fun hP => ?_)
    · simpa only [decide_eq_true hP, cond_true] using k1
    · simpa only [decide_eq_false hP, cond_false] using k1
  · cases h
theorem r_if_ne (C : mCx p R s m args meth c G row d0) {off : Int} (hd : decode row.2.2.1 pc = .ok (.ifCond .ne off, 3)) (h : (match st with
    | .int x :: r => mBr (!decide (x = 0)) pc off L r D
    | _ => none) = some (.inl q)) (k : mK p l e R s m args below meth c Q G row.2.2.2.1 d0 s0 q.1 q.2.1 q.2.2.1 q.2.2.2) : mK p l e R s m args below meth c Q G row.2.2.2.1 d0 s0 pc L st D := by
  intro ls H locs cells slots hL hP hS hc hs
  split at h
  · obtain ⟨t, ht, rfl⟩ := mBr_eq h
    have k1 := k ls H locs cells slots hL hP hS hc hs
    refine lv_if_ne C.1 C.2.1 hd ht (fun hP => ?_) (fun hP => ?_)
    · simpa only [decide_eq_false hP, Bool.not_false, cond_true] using k1
    · simpa only [decide_eq_true hP, Bool.not_true, cond_false] using k1
  · cases h
theorem r_icmp_ne (C : mCx p R s m args meth c G row d0) {off : Int} (hd : decode row.2.2.1 pc = .ok (.if_icmp .ne off, 3)) (h : (match st with
    | .int y :: .int x :: r => mBr (!decide (x = y)) pc off L r D
    | _ => none) = some (.inl q)) (k : mK p l e R s m args below meth c Q G row.2.2.2.1 d0 s0 q.1 q.2.1 q.2.2.1 q.2.2.2) : mK p l e R s m args below meth c Q G row.2.2.2.1 d0 s0 pc L st D := by
  intro ls H locs cells slots hL hP hS hc hs
  split at h
  · obtain ⟨t, ht, rfl⟩ := mBr_eq h
    have k1 := k ls H locs cells slots hL hP hS hc hs
    refine lv_icmp_ne C.1 C.2.1 hd ht (fun hP => ?_) (fun hP => ?_)
    · simpa only [decide_eq_false hP, Bool.not_false, cond_true] using k1
    · simpa only [decide_eq_true hP, Bool.not_true, cond_false] using k1
  · cases h
theorem r_if_lt (C : mCx p R s m args meth c G row d0) {off : Int} (hd : decode row.2.2.1 pc = .ok (.ifCond .lt off, 3)) (h : (match st with
    | .int x :: r => mBr (decide (x < 0)) pc off L r D
    | _ => none) = some (.inl q)) (k : mK p l e R s m args below meth c Q G row.2.2.2.1 d0 s0 q.1 q.2.1 q.2.2.1 q.2.2.2) : mK p l e R s m args below meth c Q G row.2.2.2.1 d0 s0 pc L st D := by
  intro ls H locs cells slots hL hP hS hc hs
  split at h
  · obtain ⟨t, ht, rfl⟩ := mBr_eq h
    have k1 := k ls H locs cells slots hL hP hS hc hs
    refine lv_if_lt C.1 C.2.1 hd ht (fun hP => ?_) (fun hP => ?_)
    · simpa only [decide_eq_true hP, cond_true] using k1
    · simpa only [decide_eq_false hP, cond_false] using k1
  · cases h
theorem r_icmp_lt (C : mCx p R s m args meth c G row d0) {off : Int} (hd : decode row.2.2.1 pc = .ok (.if_icmp .lt off, 3)) (h : (match st with
    | .int y :: .int x :: r => mBr (decide (x < y)) pc off L r D
    | _ => none) = some (.inl q)) (k : mK p l e R s m args below meth c Q G row.2.2.2.1 d0 s0 q.1 q.2.1 q.2.2.1 q.2.2.2) : mK p l e R s m args below meth c Q G row.2.2.2.1 d0 s0 pc L st D := by
  intro ls H locs cells slots hL hP hS hc hs
  split at h
  · obtain ⟨t, ht, rfl⟩ := mBr_eq h
    have k1 := k ls H locs cells slots hL hP hS hc hs
    refine lv_icmp_lt C.1 C.2.1 hd ht (fun hP => ?_) (fun hP => ?_)
    · simpa only [decide_eq_true hP, cond_true] using k1
    · simpa only [decide_eq_false hP, cond_false] using k1
  · cases h
theorem r_if_ge (C : mCx p R s m args meth c G row d0) {off : Int} (hd : decode row.2.2.1 pc = .ok (.ifCond .ge off, 3)) (h : (match st with
    | .int x :: r => mBr (decide (0 ≤ x)) pc off L r D
    | _ => none) = some (.inl q)) (k : mK p l e R s m args below meth c Q G row.2.2.2.1 d0 s0 q.1 q.2.1 q.2.2.1 q.2.2.2) : mK p l e R s m args below meth c Q G row.2.2.2.1 d0 s0 pc L st D := by
  intro ls H locs cells slots hL hP hS hc hs
  split at h
  · obtain ⟨t, ht, rfl⟩ := mBr_eq h
    have k1 := k ls H locs cells slots hL hP hS hc hs
    refine lv_if_ge C.1 C.2.1 hd ht (fun hP => ?_) (fun hP => ?_)
    · simpa only [decide_eq_true hP, cond_true] using k1
    · simpa only [decide_eq_false hP, cond_false] using k1
  · cases h
theorem r_icmp_ge (C : mCx p R s m args meth c G row d0) {off : Int} (hd : decode row.2.2.1 pc = .ok (.if_icmp .ge off, 3)) (h : (match st with
    | .int y :: .int x :: r => mBr (decide (y ≤ x)) pc off L r D
    | _ => none) = some (.inl q)) (k : mK p l e R s m args below meth c Q G row.2.2.2.1 d0 s0 q.1 q.2.1 q.2.2.1 q.2.2.2) : mK p l e R s m args below meth c Q G row.2.2.2.1 d0 s0 pc L st D := by
  intro ls H locs cells slots hL hP hS hc hs
  split at h
  · obtain ⟨t, ht, rfl⟩ := mBr_eq h
    have k1 := k ls H locs cells slots hL hP hS hc hs
    refine lv_icmp_ge C.1 C.2.1 hd ht (fun hP => ?_) (fun hP => ?_)
    · simpa only [decide_eq_true hP, cond_true] using k1
    · simpa only [decide_eq_false hP, cond_false] using k1
  · cases h
theorem r_if_gt (C : mCx p R s m args meth c G row d0) {off : Int} (hd : decode row.2.2.1 pc = .ok (.ifCond .gt off, 3)) (h : (match st with
    | .int x :: r => mBr (decide (0 < x)) pc off L r D
    | _ => none) = some (.inl q)) (k : mK p l e R s m args below meth c Q G row.2.2.2.1 d0 s0 q.1 q.2.1 q.2.2.1 q.2.2.2) : mK p l e R s m args below meth c Q G row.2.2.2.1 d0 s0 pc L st D := by
  intro ls H locs cells slots hL hP hS hc hs
  split at h
  · obtain ⟨t, ht, rfl⟩ := mBr_eq h
    have k1 := k ls H locs cells slots hL hP hS hc hs
    refine lv_if_gt C.1 C.2.1 hd ht (fun hP => ?_) (fun hP => ?_)
    · simpa only [decide_eq_true hP, cond_true] using k1
    · simpa only [decide_eq_false hP, cond_false] using k1
  · cases h
theorem r_icmp_gt (C : mCx p R s m args meth c G row d0) {off : Int} (hd : decode row.2.2.1 pc = .ok (.if_icmp .gt off, 3)) (h : (match st with
    | .int y :: .int x :: r => mBr (decide (y < x)) pc off L r D
    | _ => none) = some (.inl q)) (k : mK p l e R s m args below meth c Q G row.2.2.2.1 d0 s0 q.1 q.2.1 q.2.2.1 q.2.2.2) : mK p l e R s m args below meth c Q G row.2.2.2.1 d0 s0 pc L st D := by
  intro ls H locs cells slots hL hP hS hc hs
  split at h
  · obtain ⟨t, ht, rfl⟩ := mBr_eq h
    have k1 := k ls H locs cells slots hL hP hS hc hs
    refine lv_icmp_gt C.1 C.2.1 hd ht (fun hP => ?_) (fun hP => ?_)
    · simpa only [decide_eq_true hP, cond_true] using k1
    · simpa only [decide_eq_false hP, cond_false] using k1
  · cases h
theorem r_if_le (C : mCx p R s m args meth c G row d0) {off : Int} (hd : decode row.2.2.1 pc = .ok (.ifCond .le off, 3)) (h : (match st with
    | .int x :: r => mBr (decide (x ≤ 0)) pc off L r D
    | _ => none) = some (.inl q)) (k : mK p l e R s m args below meth c Q G row.2.2.2.1 d0 s0 q.1 q.2.1 q.2.2.1 q.2.2.2) : mK p l e R s m args below meth c Q G row.2.2.2.1 d0 s0 pc L st D := by
  intro ls H locs cells slots hL hP hS hc hs
  split at h
  · obtain ⟨t, ht, rfl⟩ := mBr_eq h
    have k1 := k ls H locs cells slots hL hP hS hc hs
    refine lv_if_le C.1 C.2.1 hd ht (fun hP => ?_) (fun hP => ?_)
    · simpa only [decide_eq_true hP, cond_true] using k1
    · simpa only [decide_eq_false hP, cond_false] using k1
  · cases h
theorem r_icmp_le (C : mCx p R s m args meth c G row d0) {off : Int} (hd : decode row.2.2.1 pc = .ok (.if_icmp .le off, 3)) (h : (match st with
    | .int y :: .int x :: r => mBr (decide (x ≤ y)) pc off L r D
    | _ => none) = some (.inl q)) (k : mK p l e R s m args below meth c Q G row.2.2.2.1 d0 s0 q.1 q.2.1 q.2.2.1 q.2.2.2) : mK p l e R s m args below meth c Q G row.2.2.2.1 d0 s0 pc L st D := by
  intro ls H locs cells slots hL hP hS hc hs
  split at h
  · obtain ⟨t, ht, rfl⟩ := mBr_eq h
    have k1 := k ls H locs cells slots hL hP hS hc hs
    refine lv_icmp_le C.1 C.2.1 hd ht (fun hP => ?_) (fun hP => ?_)
    · simpa only [decide_eq_true hP, cond_true] using k1
    · simpa only [decide_eq_false hP, cond_false] using k1
  · cases h
theorem r_goto (C : mCx p R s m args meth c G row d0) {off : Int} (hd : decode row.2.2.1 pc = .ok (.goto off, 3)) (h : (mGo pc off L st D) = some (.inl q)) (k : mK p l e R s m args below meth c Q G row.2.2.2.1 d0 s0 q.1 q.2.1 q.2.2.1 q.2.2.2) : mK p l e R s m args below meth c Q G row.2.2.2.1 d0 s0 pc L st D := by
  intro ls H locs cells slots hL hP hS hc hs
  obtain ⟨t, ht, rfl⟩ := mGo_eq h
  exact lv_goto C.1 C.2.1 hd ht (k ls H locs cells slots hL hP hS hc hs)
theorem r_tsw (C : mCx p R s m args meth c G row d0) {dflt lo hi : Int} {offs : Array Int} {len : Nat} (hd : decode row.2.2.1 pc = .ok (.tableswitch dflt lo hi offs, len)) (h : (match st with
    | .int x :: r => if x.toInt < lo ∨ hi < x.toInt then mGo pc dflt L r D else match offs[(x.toInt - lo).toNat]? with
      | some off => mGo pc off L r D
      | none => none
    | _ => none) = some (.inl q)) (k : mK p l e R s m args below meth c Q G row.2.2.2.1 d0 s0 q.1 q.2.1 q.2.2.1 q.2.2.2) : mK p l e R s m args below meth c Q G row.2.2.2.1 d0 s0 pc L st D := by
  intro ls H locs cells slots hL hP hS hc hs
  split at h
  · split at h
    · rename_i hx
      obtain ⟨t, ht, rfl⟩ := mGo_eq h
      exact lv_tableOut C.1 C.2.1 hd hx ht (k ls H locs cells slots hL hP hS hc hs)
    · rename_i hx
      split at h
      · rename_i off ho
        obtain ⟨t, ht, rfl⟩ := mGo_eq h
        exact lv_tableIn C.1 C.2.1 hd (fun z => hx (Or.inl z)) (fun z => hx (Or.inr z)) ho ht (k ls H locs cells slots hL hP hS hc hs)
      · cases h
  · cases h
end MRW
