section
section MRW
variable {p : Program} {l : Launch} {e : Env} {R : Room} {s : State} {m : MethodId} {args : Array Value} {below : List Frame} {meth : Method} {c : Code} {Q : State → Prop} {G : mG} {row : mRow} {d0 s0 : Nat} {pc : Nat} {L : mLoc} {st : List Value} {D : mHp} {q : Nat × mLoc × List Value × mHp}
def mCx (p : Program) (R : Room) (s : State) (m : MethodId) (args : Array Value) (meth : Method) (c : Code) (G : mG) (row : mRow) (d0 : Nat) : Prop :=
  p.tables.exec = Jvm.exec ∧ c.code = row.2.2.1 ∧ c.maxLocals = row.2.2.2.1 ∧ s.vm.findClass (mNm row.1) = some m.cls ∧ (∀ w ∈ mGW, w.before args s = true) ∧ mE G s s.heap ∧ (row.2.1.name = "<init>" → meth.name = "<init>") ∧ s.heap.size = G.1 + d0 ∧ row.2.2.2.2.2.1 ≤ R.frames ∧ row.2.2.2.2.2.2 ≤ R.locals
def mK (p : Program) (l : Launch) (e : Env) (R : Room) (s : State) (m : MethodId) (args : Array Value) (below : List Frame) (meth : Method) (c : Code) (Q : State → Prop) (G : mG) (nL d0 s0 : Nat) (pc : Nat) (L : mLoc) (st : List Value) (D : mHp) : Prop :=
  ∀ (ls : Array Slot) (H : Heap) (locs : List Loc) (cells slots : Nat), mLR G ls nL L → mMS G D H → va_S (mA G) s.heap H locs → cells + d0 = D.length → slots + s0 = mSl D → W p l e R s m args below meth c H locs cells slots Q (F0 m pc ls (st.map (mV G)))
theorem mNx_eq {pc : Nat} {ls : mLoc} {st : List Value} {D : mHp} {q : Nat × mLoc × List Value × mHp} (h : mNx pc ls st D = some (.inl q)) : q = (pc, ls, st, D) := by
  simp only [mNx, Option.some.injEq, Sum.inl.injEq] at h
  exact h.symm
theorem mTo_eq {pc : Nat} {off : Int} {t : Nat} (h : mTo pc off = some t) : (pc : Int) + off = (t : Int) := by
  unfold mTo at h
  split at h
  · rename_i h0
    rw [← Option.some.inj h]
    exact (Int.toNat_of_nonneg h0).symm
  · cases h
theorem mGo_eq {pc : Nat} {off : Int} {ls : mLoc} {st : List Value} {D : mHp} {q : Nat × mLoc × List Value × mHp} (h : mGo pc off ls st D = some (.inl q)) : ∃ t : Nat, (pc : Int) + off = (t : Int) ∧ q = (t, ls, st, D) := by
  unfold mGo at h
  obtain ⟨t, ht, hq⟩ := Option.map_eq_some_iff.mp h
  exact ⟨t, mTo_eq ht, (Sum.inl.inj hq).symm⟩
theorem mBr_eq {b : Bool} {pc : Nat} {off : Int} {ls : mLoc} {st : List Value} {D : mHp} {q : Nat × mLoc × List Value × mHp} (h : mBr b pc off ls st D = some (.inl q)) : ∃ t : Nat, (pc : Int) + off = (t : Int) ∧ q = (cond b t (pc + 3), ls, st, D) := by
  unfold mBr at h
  obtain ⟨t, ht, hq⟩ := Option.map_eq_some_iff.mp h
  exact ⟨t, mTo_eq ht, (Sum.inl.inj hq).symm⟩
theorem mBind_eq {α β : Type} {o : Option α} {f : α → Option β} {b : β} (h : o.bind f = some b) : ∃ a, o = some a ∧ f a = some b := Option.bind_eq_some_iff.mp h
theorem mCond_eq {α : Type} {b : Bool} {o : Option α} {a : α} (h : cond b o none = some a) : b = true ∧ o = some a := by
  cases b with
  | true => exact ⟨rfl, h⟩
  | false => cases h
theorem mOut_in {j : Int32} {n : Nat} (h : (!mOut j n) = true) : vp_in j n := by
  unfold mOut at h
  simpa [vp_in] using h

theorem r_iconst (C : mCx p R s m args meth c G row d0) {n : Int} (hd : decode row.2.2.1 pc = .ok (.iconst n, 1)) (h : (mNx (pc + 1) L (.int (Int32.ofInt n) :: st) D) = some (.inl q)) (k : mK p l e R s m args below meth c Q G row.2.2.2.1 d0 s0 q.1 q.2.1 q.2.2.1 q.2.2.2) : mK p l e R s m args below meth c Q G row.2.2.2.1 d0 s0 pc L st D := by
  intro ls H locs cells slots hL hP hS hc hs
  obtain rfl := mNx_eq h
  exact lv_iconst C.1 C.2.1 hd rfl (k ls H locs cells slots hL hP hS hc hs)
theorem r_bipush (C : mCx p R s m args meth c G row d0) {n : Int} (hd : decode row.2.2.1 pc = .ok (.bipush n, 2)) (h : (mNx (pc + 2) L (.int (Int8.ofInt n).toInt32 :: st) D) = some (.inl q)) (k : mK p l e R s m args below meth c Q G row.2.2.2.1 d0 s0 q.1 q.2.1 q.2.2.1 q.2.2.2) : mK p l e R s m args below meth c Q G row.2.2.2.1 d0 s0 pc L st D := by
  intro ls H locs cells slots hL hP hS hc hs
  obtain rfl := mNx_eq h
  exact lv_bipush C.1 C.2.1 hd rfl (k ls H locs cells slots hL hP hS hc hs)
theorem r_sipush (C : mCx p R s m args meth c G row d0) {n : Int} (hd : decode row.2.2.1 pc = .ok (.sipush n, 3)) (h : (mNx (pc + 3) L (.int (Int16.ofInt n).toInt32 :: st) D) = some (.inl q)) (k : mK p l e R s m args below meth c Q G row.2.2.2.1 d0 s0 q.1 q.2.1 q.2.2.1 q.2.2.2) : mK p l e R s m args below meth c Q G row.2.2.2.1 d0 s0 pc L st D := by
  intro ls H locs cells slots hL hP hS hc hs
  obtain rfl := mNx_eq h
  exact lv_sipush C.1 C.2.1 hd rfl (k ls H locs cells slots hL hP hS hc hs)
theorem r_lconst (C : mCx p R s m args meth c G row d0) {n : Fin 2} (hd : decode row.2.2.1 pc = .ok (.lconst n, 1)) (h : (mNx (pc + 1) L (.long (Int64.ofNat n.val) :: st) D) = some (.inl q)) (k : mK p l e R s m args below meth c Q G row.2.2.2.1 d0 s0 q.1 q.2.1 q.2.2.1 q.2.2.2) : mK p l e R s m args below meth c Q G row.2.2.2.1 d0 s0 pc L st D := by
  intro ls H locs cells slots hL hP hS hc hs
  obtain rfl := mNx_eq h
  exact lv_lconst C.1 C.2.1 hd rfl (k ls H locs cells slots hL hP hS hc hs)
theorem r_iload_n (C : mCx p R s m args meth c G row d0) {i : Fin 4} (hd : decode row.2.2.1 pc = .ok (.iload_n i, 1)) (h : (match L[i.val]? with
    | some (some (.int x)) => mNx (pc + 1) L (.int x :: st) D
    | _ => none) = some (.inl q)) (k : mK p l e R s m args below meth c Q G row.2.2.2.1 d0 s0 q.1 q.2.1 q.2.2.1 q.2.2.2) : mK p l e R s m args below meth c Q G row.2.2.2.1 d0 s0 pc L st D := by
  intro ls H locs cells slots hL hP hS hc hs
  split at h
  · rename_i x hx
    obtain rfl := mNx_eq h
    exact lv_iload_n C.1 C.2.1 hd rfl (hL.2.2.2 _ _ hx) (k ls H locs cells slots hL hP hS hc hs)
  · cases h
theorem r_iload (C : mCx p R s m args meth c G row d0) {i : Nat} (hd : decode row.2.2.1 pc = .ok (.iload i, 2)) (h : (match L[i]? with
    | some (some (.int x)) => mNx (pc + 2) L (.int x :: st) D
    | _ => none) = some (.inl q)) (k : mK p l e R s m args below meth c Q G row.2.2.2.1 d0 s0 q.1 q.2.1 q.2.2.1 q.2.2.2) : mK p l e R s m args below meth c Q G row.2.2.2.1 d0 s0 pc L st D := by
  intro ls H locs cells slots hL hP hS hc hs
  split at h
  · rename_i x hx
    obtain rfl := mNx_eq h
    exact lv_iload C.1 C.2.1 hd (hL.2.2.2 _ _ hx) (k ls H locs cells slots hL hP hS hc hs)
  · cases h
theorem r_lload_n (C : mCx p R s m args meth c G row d0) {i : Fin 4} (hd : decode row.2.2.1 pc = .ok (.lload_n i, 1)) (h : (match L[i.val]? with
    | some (some (.long x)) => mNx (pc + 1) L (.long x :: st) D
    | _ => none) = some (.inl q)) (k : mK p l e R s m args below meth c Q G row.2.2.2.1 d0 s0 q.1 q.2.1 q.2.2.1 q.2.2.2) : mK p l e R s m args below meth c Q G row.2.2.2.1 d0 s0 pc L st D := by
  intro ls H locs cells slots hL hP hS hc hs
  split at h
  · rename_i x hx
    obtain rfl := mNx_eq h
    exact lv_lload_n C.1 C.2.1 hd rfl (hL.2.2.2 _ _ hx) (k ls H locs cells slots hL hP hS hc hs)
  · cases h
theorem r_lload (C : mCx p R s m args meth c G row d0) {i : Nat} (hd : decode row.2.2.1 pc = .ok (.lload i, 2)) (h : (match L[i]? with
    | some (some (.long x)) => mNx (pc + 2) L (.long x :: st) D
    | _ => none) = some (.inl q)) (k : mK p l e R s m args below meth c Q G row.2.2.2.1 d0 s0 q.1 q.2.1 q.2.2.1 q.2.2.2) : mK p l e R s m args below meth c Q G row.2.2.2.1 d0 s0 pc L st D := by
  intro ls H locs cells slots hL hP hS hc hs
  split at h
  · rename_i x hx
    obtain rfl := mNx_eq h
    exact lv_lload C.1 C.2.1 hd (hL.2.2.2 _ _ hx) (k ls H locs cells slots hL hP hS hc hs)
  · cases h
theorem r_aload_n (C : mCx p R s m args meth c G row d0) {i : Fin 4} (hd : decode row.2.2.1 pc = .ok (.aload_n i, 1)) (h : (match L[i.val]? with
    | some (some (.ref x)) => mNx (pc + 1) L (.ref x :: st) D
    | _ => none) = some (.inl q)) (k : mK p l e R s m args below meth c Q G row.2.2.2.1 d0 s0 q.1 q.2.1 q.2.2.1 q.2.2.2) : mK p l e R s m args below meth c Q G row.2.2.2.1 d0 s0 pc L st D := by
  intro ls H locs cells slots hL hP hS hc hs
  split at h
  · rename_i x hx
    obtain rfl := mNx_eq h
    exact lv_aload_n C.1 C.2.1 hd rfl (hL.2.2.2 _ _ hx) (k ls H locs cells slots hL hP hS hc hs)
  · cases h
theorem r_aload (C : mCx p R s m args meth c G row d0) {i : Nat} (hd : decode row.2.2.1 pc = .ok (.aload i, 2)) (h : (match L[i]? with
    | some (some (.ref x)) => mNx (pc + 2) L (.ref x :: st) D
    | _ => none) = some (.inl q)) (k : mK p l e R s m args below meth c Q G row.2.2.2.1 d0 s0 q.1 q.2.1 q.2.2.1 q.2.2.2) : mK p l e R s m args below meth c Q G row.2.2.2.1 d0 s0 pc L st D := by
  intro ls H locs cells slots hL hP hS hc hs
  split at h
  · rename_i x hx
    obtain rfl := mNx_eq h
    exact lv_aload C.1 C.2.1 hd (hL.2.2.2 _ _ hx) (k ls H locs cells slots hL hP hS hc hs)
  · cases h
theorem r_istore_n (C : mCx p R s m args meth c G row d0) {i : Fin 4} (hd : decode row.2.2.1 pc = .ok (.istore_n i, 1)) (h : (match st with
    | .int x :: r => (mS1 L i.val (.int x)).bind fun l => mNx (pc + 1) l r D
    | _ => none) = some (.inl q)) (k : mK p l e R s m args below meth c Q G row.2.2.2.1 d0 s0 q.1 q.2.1 q.2.2.1 q.2.2.2) : mK p l e R s m args below meth c Q G row.2.2.2.1 d0 s0 pc L st D := by
  intro ls H locs cells slots hL hP hS hc hs
  split at h
  · obtain ⟨L1, h1, h2⟩ := mBind_eq h
    obtain rfl := mNx_eq h2
    exact lv_istore_n C.1 C.2.1 hd rfl hL.has (by have := (mS1_spec h1).1; rw [hL.1] at this; exact this) rfl (fun ls1 hl1 => k ls1 H locs cells slots (hL.put1 h1 hl1) hP hS hc hs)
  · cases h
theorem r_istore (C : mCx p R s m args meth c G row d0) {i : Nat} (hd : decode row.2.2.1 pc = .ok (.istore i, 2)) (h : (match st with
    | .int x :: r => (mS1 L i (.int x)).bind fun l => mNx (pc + 2) l r D
    | _ => none) = some (.inl q)) (k : mK p l e R s m args below meth c Q G row.2.2.2.1 d0 s0 q.1 q.2.1 q.2.2.1 q.2.2.2) : mK p l e R s m args below meth c Q G row.2.2.2.1 d0 s0 pc L st D := by
  intro ls H locs cells slots hL hP hS hc hs
  split at h
  · obtain ⟨L1, h1, h2⟩ := mBind_eq h
    obtain rfl := mNx_eq h2
    exact lv_istore C.1 C.2.1 hd hL.has (by have := (mS1_spec h1).1; rw [hL.1] at this; exact this) rfl (fun ls1 hl1 => k ls1 H locs cells slots (hL.put1 h1 hl1) hP hS hc hs)
  · cases h
theorem r_lstore_n (C : mCx p R s m args meth c G row d0) {i : Fin 4} (hd : decode row.2.2.1 pc = .ok (.lstore_n i, 1)) (h : (match st with
    | .long x :: r => (mS2 L i.val (.long x)).bind fun l => mNx (pc + 1) l r D
    | _ => none) = some (.inl q)) (k : mK p l e R s m args below meth c Q G row.2.2.2.1 d0 s0 q.1 q.2.1 q.2.2.1 q.2.2.2) : mK p l e R s m args below meth c Q G row.2.2.2.1 d0 s0 pc L st D := by
  intro ls H locs cells slots hL hP hS hc hs
  split at h
  · obtain ⟨L1, h1, h2⟩ := mBind_eq h
    obtain rfl := mNx_eq h2
    exact lv_lstore_n C.1 C.2.1 hd rfl hL.has (by have := (mS2_spec h1).1; rw [hL.1] at this; exact this) rfl (fun ls1 hl1 => k ls1 H locs cells slots (hL.put2 h1 hl1) hP hS hc hs)
  · cases h
theorem r_lstore (C : mCx p R s m args meth c G row d0) {i : Nat} (hd : decode row.2.2.1 pc = .ok (.lstore i, 2)) (h : (match st with
    | .long x :: r => (mS2 L i (.long x)).bind fun l => mNx (pc + 2) l r D
    | _ => none) = some (.inl q)) (k : mK p l e R s m args below meth c Q G row.2.2.2.1 d0 s0 q.1 q.2.1 q.2.2.1 q.2.2.2) : mK p l e R s m args below meth c Q G row.2.2.2.1 d0 s0 pc L st D := by
  intro ls H locs cells slots hL hP hS hc hs
  split at h
  · obtain ⟨L1, h1, h2⟩ := mBind_eq h
    obtain rfl := mNx_eq h2
    exact lv_lstore C.1 C.2.1 hd hL.has (by have := (mS2_spec h1).1; rw [hL.1] at this; exact this) rfl (fun ls1 hl1 => k ls1 H locs cells slots (hL.put2 h1 hl1) hP hS hc hs)
  · cases h
theorem r_astore_n (C : mCx p R s m args meth c G row d0) {i : Fin 4} (hd : decode row.2.2.1 pc = .ok (.astore_n i, 1)) (h : (match st with
    | .ref x :: r => (mS1 L i.val (.ref x)).bind fun l => mNx (pc + 1) l r D
    | _ => none) = some (.inl q)) (k : mK p l e R s m args below meth c Q G row.2.2.2.1 d0 s0 q.1 q.2.1 q.2.2.1 q.2.2.2) : mK p l e R s m args below meth c Q G row.2.2.2.1 d0 s0 pc L st D := by
  intro ls H locs cells slots hL hP hS hc hs
  split at h
  · obtain ⟨L1, h1, h2⟩ := mBind_eq h
    obtain rfl := mNx_eq h2
    exact lv_astore_n C.1 C.2.1 hd rfl hL.has (by have := (mS1_spec h1).1; rw [hL.1] at this; exact this) rfl (fun ls1 hl1 => k ls1 H locs cells slots (hL.put1 h1 hl1) hP hS hc hs)
  · cases h
theorem r_astore (C : mCx p R s m args meth c G row d0) {i : Nat} (hd : decode row.2.2.1 pc = .ok (.astore i, 2)) (h : (match st with
    | .ref x :: r => (mS1 L i (.ref x)).bind fun l => mNx (pc + 2) l r D
    | _ => none) = some (.inl q)) (k : mK p l e R s m args below meth c Q G row.2.2.2.1 d0 s0 q.1 q.2.1 q.2.2.1 q.2.2.2) : mK p l e R s m args below meth c Q G row.2.2.2.1 d0 s0 pc L st D := by
  intro ls H locs cells slots hL hP hS hc hs
  split at h
  · obtain ⟨L1, h1, h2⟩ := mBind_eq h
    obtain rfl := mNx_eq h2
    exact lv_astore C.1 C.2.1 hd hL.has (by have := (mS1_spec h1).1; rw [hL.1] at this; exact this) rfl (fun ls1 hl1 => k ls1 H locs cells slots (hL.put1 h1 hl1) hP hS hc hs)
  · cases h
theorem mPr_at {G : mG} {L : mLoc} {i : Nat} {v : Value} (h : L[i]? = some (some v)) : ∃ k : Nat, (mPr G L)[k]? = some (i, mV G v) := List.getElem?_of_mem (mPr_mem h)

theorem r_iinc (C : mCx p R s m args meth c G row d0) {i : Nat} {n : Int} (hd : decode row.2.2.1 pc = .ok (.iinc i n, 3)) (h : (match L[i]? with
    | some (some (.int x)) => (mS1 L i (.int (x + Int32.ofInt n))).bind fun l => mNx (pc + 3) l st D
    | _ => none) = some (.inl q)) (k : mK p l e R s m args below meth c Q G row.2.2.2.1 d0 s0 q.1 q.2.1 q.2.2.1 q.2.2.2) : mK p l e R s m args below meth c Q G row.2.2.2.1 d0 s0 pc L st D := by
  intro ls H locs cells slots hL hP hS hc hs
  split at h
  · rename_i x hx
    obtain ⟨L1, h1, h2⟩ := mBind_eq h
    obtain rfl := mNx_eq h2
    obtain ⟨k9, hk9⟩ := mPr_at (G := G) hx
    exact lv_iinc C.1 C.2.1 hd hL.has hk9 rfl (by have := (mS1_spec h1).1; rw [hL.1] at this; exact this) rfl (fun ls1 hl1 => k ls1 H locs cells slots (hL.put1 h1 hl1) hP hS hc hs)
  · cases h
theorem r_iadd (C : mCx p R s m args meth c G row d0) (hd : decode row.2.2.1 pc = .ok (.iadd, 1)) (h : (match st with
    | .int y :: .int x :: r => mNx (pc + 1) L (.int (x + y) :: r) D
    | _ => none) = some (.inl q)) (k : mK p l e R s m args below meth c Q G row.2.2.2.1 d0 s0 q.1 q.2.1 q.2.2.1 q.2.2.2) : mK p l e R s m args below meth c Q G row.2.2.2.1 d0 s0 pc L st D := by
  intro ls H locs cells slots hL hP hS hc hs
  split at h
  · obtain rfl := mNx_eq h
    exact lv_iadd C.1 C.2.1 hd (k ls H locs cells slots hL hP hS hc hs)
  · cases h
theorem r_isub (C : mCx p R s m args meth c G row d0) (hd : decode row.2.2.1 pc = .ok (.isub, 1)) (h : (match st with
    | .int y :: .int x :: r => mNx (pc + 1) L (.int (x - y) :: r) D
    | _ => none) = some (.inl q)) (k : mK p l e R s m args below meth c Q G row.2.2.2.1 d0 s0 q.1 q.2.1 q.2.2.1 q.2.2.2) : mK p l e R s m args below meth c Q G row.2.2.2.1 d0 s0 pc L st D := by
  intro ls H locs cells slots hL hP hS hc hs
  split at h
  · obtain rfl := mNx_eq h
    exact lv_isub C.1 C.2.1 hd (k ls H locs cells slots hL hP hS hc hs)
  · cases h
theorem r_imul (C : mCx p R s m args meth c G row d0) (hd : decode row.2.2.1 pc = .ok (.imul, 1)) (h : (match st with
    | .int y :: .int x :: r => mNx (pc + 1) L (.int (x * y) :: r) D
    | _ => none) = some (.inl q)) (k : mK p l e R s m args below meth c Q G row.2.2.2.1 d0 s0 q.1 q.2.1 q.2.2.1 q.2.2.2) : mK p l e R s m args below meth c Q G row.2.2.2.1 d0 s0 pc L st D := by
  intro ls H locs cells slots hL hP hS hc hs
  split at h
  · obtain rfl := mNx_eq h
    exact lv_imul C.1 C.2.1 hd (k ls H locs cells slots hL hP hS hc hs)
  · cases h
theorem r_iand (C : mCx p R s m args meth c G row d0) (hd : decode row.2.2.1 pc = .ok (.iand, 1)) (h : (match st with
    | .int y :: .int x :: r => mNx (pc + 1) L (.int (x &&& y) :: r) D
    | _ => none) = some (.inl q)) (k : mK p l e R s m args below meth c Q G row.2.2.2.1 d0 s0 q.1 q.2.1 q.2.2.1 q.2.2.2) : mK p l e R s m args below meth c Q G row.2.2.2.1 d0 s0 pc L st D := by
  intro ls H locs cells slots hL hP hS hc hs
  split at h
  · obtain rfl := mNx_eq h
    exact lv_iand C.1 C.2.1 hd (k ls H locs cells slots hL hP hS hc hs)
  · cases h
theorem r_ior (C : mCx p R s m args meth c G row d0) (hd : decode row.2.2.1 pc = .ok (.ior, 1)) (h : (match st with
    | .int y :: .int x :: r => mNx (pc + 1) L (.int (x ||| y) :: r) D
    | _ => none) = some (.inl q)) (k : mK p l e R s m args below meth c Q G row.2.2.2.1 d0 s0 q.1 q.2.1 q.2.2.1 q.2.2.2) : mK p l e R s m args below meth c Q G row.2.2.2.1 d0 s0 pc L st D := by
  intro ls H locs cells slots hL hP hS hc hs
  split at h
  · obtain rfl := mNx_eq h
    exact lv_ior C.1 C.2.1 hd (k ls H locs cells slots hL hP hS hc hs)
  · cases h
theorem r_ixor (C : mCx p R s m args meth c G row d0) (hd : decode row.2.2.1 pc = .ok (.ixor, 1)) (h : (match st with
    | .int y :: .int x :: r => mNx (pc + 1) L (.int (x ^^^ y) :: r) D
    | _ => none) = some (.inl q)) (k : mK p l e R s m args below meth c Q G row.2.2.2.1 d0 s0 q.1 q.2.1 q.2.2.1 q.2.2.2) : mK p l e R s m args below meth c Q G row.2.2.2.1 d0 s0 pc L st D := by
  intro ls H locs cells slots hL hP hS hc hs
  split at h
  · obtain rfl := mNx_eq h
    exact lv_ixor C.1 C.2.1 hd (k ls H locs cells slots hL hP hS hc hs)
  · cases h
theorem r_ishl (C : mCx p R s m args meth c G row d0) (hd : decode row.2.2.1 pc = .ok (.ishl, 1)) (h : (match st with
    | .int y :: .int x :: r => mNx (pc + 1) L (.int (x <<< (y &&& 31)) :: r) D
    | _ => none) = some (.inl q)) (k : mK p l e R s m args below meth c Q G row.2.2.2.1 d0 s0 q.1 q.2.1 q.2.2.1 q.2.2.2) : mK p l e R s m args below meth c Q G row.2.2.2.1 d0 s0 pc L st D := by
  intro ls H locs cells slots hL hP hS hc hs
  split at h
  · obtain rfl := mNx_eq h
    exact lv_ishl C.1 C.2.1 hd (k ls H locs cells slots hL hP hS hc hs)
  · cases h
theorem r_ishr (C : mCx p R s m args meth c G row d0) (hd : decode row.2.2.1 pc = .ok (.ishr, 1)) (h : (match st with
    | .int y :: .int x :: r => mNx (pc + 1) L (.int (x >>> (y &&& 31)) :: r) D
    | _ => none) = some (.inl q)) (k : mK p l e R s m args below meth c Q G row.2.2.2.1 d0 s0 q.1 q.2.1 q.2.2.1 q.2.2.2) : mK p l e R s m args below meth c Q G row.2.2.2.1 d0 s0 pc L st D := by
  intro ls H locs cells slots hL hP hS hc hs
  split at h
  · obtain rfl := mNx_eq h
    exact lv_ishr C.1 C.2.1 hd (k ls H locs cells slots hL hP hS hc hs)
  · cases h
theorem r_ladd (C : mCx p R s m args meth c G row d0) (hd : decode row.2.2.1 pc = .ok (.ladd, 1)) (h : (match st with
    | .long y :: .long x :: r => mNx (pc + 1) L (.long (x + y) :: r) D
    | _ => none) = some (.inl q)) (k : mK p l e R s m args below meth c Q G row.2.2.2.1 d0 s0 q.1 q.2.1 q.2.2.1 q.2.2.2) : mK p l e R s m args below meth c Q G row.2.2.2.1 d0 s0 pc L st D := by
  intro ls H locs cells slots hL hP hS hc hs
  split at h
  · obtain rfl := mNx_eq h
    exact lv_ladd C.1 C.2.1 hd (k ls H locs cells slots hL hP hS hc hs)
  · cases h
theorem r_lmul (C : mCx p R s m args meth c G row d0) (hd : decode row.2.2.1 pc = .ok (.lmul, 1)) (h : (match st with
    | .long y :: .long x :: r => mNx (pc + 1) L (.long (x * y) :: r) D
    | _ => none) = some (.inl q)) (k : mK p l e R s m args below meth c Q G row.2.2.2.1 d0 s0 q.1 q.2.1 q.2.2.1 q.2.2.2) : mK p l e R s m args below meth c Q G row.2.2.2.1 d0 s0 pc L st D := by
  intro ls H locs cells slots hL hP hS hc hs
  split at h
  · obtain rfl := mNx_eq h
    exact lv_lmul C.1 C.2.1 hd (k ls H locs cells slots hL hP hS hc hs)
  · cases h
theorem r_iushr (C : mCx p R s m args meth c G row d0) (hd : decode row.2.2.1 pc = .ok (.iushr, 1)) (h : (match st with
    | .int y :: .int x :: r => mNx (pc + 1) L (.int (x.toUInt32 >>> (y.toUInt32 &&& Int32.toUInt32 31)).toInt32 :: r) D
    | _ => none) = some (.inl q)) (k : mK p l e R s m args below meth c Q G row.2.2.2.1 d0 s0 q.1 q.2.1 q.2.2.1 q.2.2.2) : mK p l e R s m args below meth c Q G row.2.2.2.1 d0 s0 pc L st D := by
  intro ls H locs cells slots hL hP hS hc hs
  split at h
  · obtain rfl := mNx_eq h
    exact lv_iushr C.1 C.2.1 hd rfl (k ls H locs cells slots hL hP hS hc hs)
  · cases h
theorem r_lcmp (C : mCx p R s m args meth c G row d0) (hd : decode row.2.2.1 pc = .ok (.lcmp, 1)) (h : (match st with
    | .long y :: .long x :: r => mNx (pc + 1) L (.int (lg_cmp x y) :: r) D
    | _ => none) = some (.inl q)) (k : mK p l e R s m args below meth c Q G row.2.2.2.1 d0 s0 q.1 q.2.1 q.2.2.1 q.2.2.2) : mK p l e R s m args below meth c Q G row.2.2.2.1 d0 s0 pc L st D := by
  intro ls H locs cells slots hL hP hS hc hs
  split at h
  · obtain rfl := mNx_eq h
    exact W.lcmp C.1 C.2.1 hd (k ls H locs cells slots hL hP hS hc hs)
  · cases h
theorem r_idiv (C : mCx p R s m args meth c G row d0) (hd : decode row.2.2.1 pc = .ok (.idiv, 1)) (h : (match st with
    | .int y :: .int x :: r => if y = 0 then none else mNx (pc + 1) L (.int (x / y) :: r) D
    | _ => none) = some (.inl q)) (k : mK p l e R s m args below meth c Q G row.2.2.2.1 d0 s0 q.1 q.2.1 q.2.2.1 q.2.2.2) : mK p l e R s m args below meth c Q G row.2.2.2.1 d0 s0 pc L st D := by
  intro ls H locs cells slots hL hP hS hc hs
  split at h
  · split at h
    · cases h
    · rename_i hne
      obtain rfl := mNx_eq h
      exact lv_idiv C.1 C.2.1 hd hne (k ls H locs cells slots hL hP hS hc hs)
  · cases h
theorem r_irem (C : mCx p R s m args meth c G row d0) (hd : decode row.2.2.1 pc = .ok (.irem, 1)) (h : (match st with
    | .int y :: .int x :: r => if y = 0 then none else mNx (pc + 1) L (.int (x - x / y * y) :: r) D
    | _ => none) = some (.inl q)) (k : mK p l e R s m args below meth c Q G row.2.2.2.1 d0 s0 q.1 q.2.1 q.2.2.1 q.2.2.2) : mK p l e R s m args below meth c Q G row.2.2.2.1 d0 s0 pc L st D := by
  intro ls H locs cells slots hL hP hS hc hs
  split at h
  · split at h
    · cases h
    · rename_i hne
      obtain rfl := mNx_eq h
      exact lv_irem C.1 C.2.1 hd hne (k ls H locs cells slots hL hP hS hc hs)
  · cases h
theorem r_i2l (C : mCx p R s m args meth c G row d0) (hd : decode row.2.2.1 pc = .ok (.i2l, 1)) (h : (match st with
    | .int x :: r => mNx (pc + 1) L (.long x.toInt64 :: r) D
    | _ => none) = some (.inl q)) (k : mK p l e R s m args below meth c Q G row.2.2.2.1 d0 s0 q.1 q.2.1 q.2.2.1 q.2.2.2) : mK p l e R s m args below meth c Q G row.2.2.2.1 d0 s0 pc L st D := by
  intro ls H locs cells slots hL hP hS hc hs
  split at h
  · obtain rfl := mNx_eq h
    exact lv_i2l C.1 C.2.1 hd rfl (k ls H locs cells slots hL hP hS hc hs)
  · cases h
theorem r_i2b (C : mCx p R s m args meth c G row d0) (hd : decode row.2.2.1 pc = .ok (.i2b, 1)) (h : (match st with
    | .int x :: r => mNx (pc + 1) L (.int x.toInt8.toInt32 :: r) D
    | _ => none) = some (.inl q)) (k : mK p l e R s m args below meth c Q G row.2.2.2.1 d0 s0 q.1 q.2.1 q.2.2.1 q.2.2.2) : mK p l e R s m args below meth c Q G row.2.2.2.1 d0 s0 pc L st D := by
  intro ls H locs cells slots hL hP hS hc hs
  split at h
  · obtain rfl := mNx_eq h
    exact lv_i2b C.1 C.2.1 hd rfl (k ls H locs cells slots hL hP hS hc hs)
  · cases h
theorem r_i2s (C : mCx p R s m args meth c G row d0) (hd : decode row.2.2.1 pc = .ok (.i2s, 1)) (h : (match st with
    | .int x :: r => mNx (pc + 1) L (.int x.toInt16.toInt32 :: r) D
    | _ => none) = some (.inl q)) (k : mK p l e R s m args below meth c Q G row.2.2.2.1 d0 s0 q.1 q.2.1 q.2.2.1 q.2.2.2) : mK p l e R s m args below meth c Q G row.2.2.2.1 d0 s0 pc L st D := by
  intro ls H locs cells slots hL hP hS hc hs
  split at h
  · obtain rfl := mNx_eq h
    exact lv_i2s C.1 C.2.1 hd rfl (k ls H locs cells slots hL hP hS hc hs)
  · cases h
theorem r_dup (C : mCx p R s m args meth c G row d0) (hd : decode row.2.2.1 pc = .ok (.dup, 1)) (h : (match st with
    | v :: r => cond (Nat.beq v.category 1) (mNx (pc + 1) L (v :: v :: r) D) none
    | _ => none) = some (.inl q)) (k : mK p l e R s m args below meth c Q G row.2.2.2.1 d0 s0 q.1 q.2.1 q.2.2.1 q.2.2.2) : mK p l e R s m args below meth c Q G row.2.2.2.1 d0 s0 pc L st D := by
  intro ls H locs cells slots hL hP hS hc hs
  split at h
  · obtain ⟨h1, h⟩ := mCond_eq h
    obtain rfl := mNx_eq h
    exact lv_dup C.1 C.2.1 hd (by rw [mV_cat]; exact Nat.eq_of_beq_eq_true h1) (k ls H locs cells slots hL hP hS hc hs)
  · cases h
theorem r_pop (C : mCx p R s m args meth c G row d0) (hd : decode row.2.2.1 pc = .ok (.pop, 1)) (h : (match st with
    | v :: r => cond (Nat.beq v.category 1) (mNx (pc + 1) L r D) none
    | _ => none) = some (.inl q)) (k : mK p l e R s m args below meth c Q G row.2.2.2.1 d0 s0 q.1 q.2.1 q.2.2.1 q.2.2.2) : mK p l e R s m args below meth c Q G row.2.2.2.1 d0 s0 pc L st D := by
  intro ls H locs cells slots hL hP hS hc hs
  split at h
  · obtain ⟨h1, h⟩ := mCond_eq h
    obtain rfl := mNx_eq h
    exact lv_pop C.1 C.2.1 hd (by rw [mV_cat]; exact Nat.eq_of_beq_eq_true h1) (k ls H locs cells slots hL hP hS hc hs)
  · cases h
theorem r_dup2 (C : mCx p R s m args meth c G row d0) (hd : decode row.2.2.1 pc = .ok (.dup2, 1)) (h : (match st with
    | v :: w :: r => cond (Nat.beq v.category 1 && Nat.beq w.category 1) (mNx (pc + 1) L (v :: w :: v :: w :: r) D) none
    | _ => none) = some (.inl q)) (k : mK p l e R s m args below meth c Q G row.2.2.2.1 d0 s0 q.1 q.2.1 q.2.2.1 q.2.2.2) : mK p l e R s m args below meth c Q G row.2.2.2.1 d0 s0 pc L st D := by
  intro ls H locs cells slots hL hP hS hc hs
  split at h
  · obtain ⟨h1, h⟩ := mCond_eq h
    obtain rfl := mNx_eq h
    rw [Bool.and_eq_true] at h1
    exact lv_dup2_11 C.1 C.2.1 hd (by rw [mV_cat]; exact Nat.eq_of_beq_eq_true h1.1) (by rw [mV_cat]; exact Nat.eq_of_beq_eq_true h1.2) (k ls H locs cells slots hL hP hS hc hs)
  · cases h
theorem r_pop2 (C : mCx p R s m args meth c G row d0) (hd : decode row.2.2.1 pc = .ok (.pop2, 1)) (h : (match st with
    | .long _ :: r => mNx (pc + 1) L r D
    | _ => none) = some (.inl q)) (k : mK p l e R s m args below meth c Q G row.2.2.2.1 d0 s0 q.1 q.2.1 q.2.2.1 q.2.2.2) : mK p l e R s m args below meth c Q G row.2.2.2.1 d0 s0 pc L st D := by
  intro ls H locs cells slots hL hP hS hc hs
  split at h
  · obtain rfl := mNx_eq h
    exact lv_pop2_2 C.1 C.2.1 hd rfl (k ls H locs cells slots hL hP hS hc hs)
  · cases h
theorem r_if_eq (C : mCx p R s m args meth c G row d0) {off : Int} (hd : decode row.2.2.1 pc = .ok (.ifCond .eq off, 3)) (h : (match st with
    | .int x :: r => mBr (decide (x = 0)) pc off L r D
    | _ => none) = some (.inl q)) (k : mK p l e R s m args below meth c Q G row.2.2.2.1 d0 s0 q.1 q.2.1 q.2.2.1 q.2.2.2) : mK p l e R s m args below meth c Q G row.2.2.2.1 d0 s0 pc L st D := by
  intro ls H locs cells slots hL hP hS hc hs
  split at h
  · obtain ⟨t, ht, rfl⟩ := mBr_eq h
    have k1 := k ls H locs cells slots hL hP hS hc hs
    refine lv_if_eq C.1 C.2.1 hd ht (fun hP => ?_) (fun hP => ?_)
    · simpa only [decide_eq_true hP, cond_true] using k1
    · simpa only [decide_eq_false hP, cond_false] using k1
  · cases h
theorem r_icmp_eq (C : mCx p R s m args meth c G row d0) {off : Int} (hd : decode row.2.2.1 pc = .ok (.if_icmp .eq off, 3)) (h : (match st with
    | .int y :: .int x :: r => mBr (decide (x = y)) pc off L r D
    | _ => none) = some (.inl q)) (k : mK p l e R s m args below meth c Q G row.2.2.2.1 d0 s0 q.1 q.2.1 q.2.2.1 q.2.2.2) : mK p l e R s m args below meth c Q G row.2.2.2.1 d0 s0 pc L st D := by
  intro ls H locs cells slots hL hP hS hc hs
  split at h
  · obtain ⟨t, ht, rfl⟩ := mBr_eq h
    have k1 := k ls H locs cells slots hL hP hS hc hs
    refine lv_icmp_eq C.1 C.2.1 hd ht (fun hP => ?_) (fun hP => ?_)
    · simpa only [decide_eq_true hP, cond_true] using k1
    · simpa only [decide_eq_false hP, cond_false] using k1
  · cases h
theorem r_if_ne (C : mCx p R s m args meth c G row d0) {off : Int} (hd : decode row.2.2.1 pc = .ok (.ifCond .ne off, 3)) (h : (match st with
    | .int x :: r => mBr (!decide (x = 0)) pc off L r D
    | _ => none) = some (.inl q)) (k : mK p l e R s m args below meth c Q G row.2.2.2.1 d0 s0 q.1 q.2.1 q.2.2.1 q.2.2.2) : mK p l e R s m args below meth c Q G row.2.2.2.1 d0 s0 pc L st D := by
  intro ls H locs cells slots hL hP hS hc hs
  split at h
  · obtain ⟨t, ht, rfl⟩ := mBr_eq h
    have k1 := k ls H locs cells slots hL hP hS hc hs
    refine lv_if_ne C.1 C.2.1 hd ht (fun hP => ?_) (fun hP => ?_)
    · simpa only [decide_eq_false hP, Bool.not_false, cond_true] using k1
    · simpa only [decide_eq_true hP, Bool.not_true, cond_false] using k1
  · cases h
theorem r_icmp_ne (C : mCx p R s m args meth c G row d0) {off : Int} (hd : decode row.2.2.1 pc = .ok (.if_icmp .ne off, 3)) (h : (match st with
    | .int y :: .int x :: r => mBr (!decide (x = y)) pc off L r D
    | _ => none) = some (.inl q)) (k : mK p l e R s m args below meth c Q G row.2.2.2.1 d0 s0 q.1 q.2.1 q.2.2.1 q.2.2.2) : mK p l e R s m args below meth c Q G row.2.2.2.1 d0 s0 pc L st D := by
  intro ls H locs cells slots hL hP hS hc hs
  split at h
  · obtain ⟨t, ht, rfl⟩ := mBr_eq h
    have k1 := k ls H locs cells slots hL hP hS hc hs
    refine lv_icmp_ne C.1 C.2.1 hd ht (fun hP => ?_) (fun hP => ?_)
    · simpa only [decide_eq_false hP, Bool.not_false, cond_true] using k1
    · simpa only [decide_eq_true hP, Bool.not_true, cond_false] using k1
  · cases h
theorem r_if_lt (C : mCx p R s m args meth c G row d0) {off : Int} (hd : decode row.2.2.1 pc = .ok (.ifCond .lt off, 3)) (h : (match st with
    | .int x :: r => mBr (decide (x < 0)) pc off L r D
    | _ => none) = some (.inl q)) (k : mK p l e R s m args below meth c Q G row.2.2.2.1 d0 s0 q.1 q.2.1 q.2.2.1 q.2.2.2) : mK p l e R s m args below meth c Q G row.2.2.2.1 d0 s0 pc L st D := by
  intro ls H locs cells slots hL hP hS hc hs
  split at h
  · obtain ⟨t, ht, rfl⟩ := mBr_eq h
    have k1 := k ls H locs cells slots hL hP hS hc hs
    refine lv_if_lt C.1 C.2.1 hd ht (fun hP => ?_) (fun hP => ?_)
    · simpa only [decide_eq_true hP, cond_true] using k1
    · simpa only [decide_eq_false hP, cond_false] using k1
  · cases h
theorem r_icmp_lt (C : mCx p R s m args meth c G row d0) {off : Int} (hd : decode row.2.2.1 pc = .ok (.if_icmp .lt off, 3)) (h : (match st with
    | .int y :: .int x :: r => mBr (decide (x < y)) pc off L r D
    | _ => none) = some (.inl q)) (k : mK p l e R s m args below meth c Q G row.2.2.2.1 d0 s0 q.1 q.2.1 q.2.2.1 q.2.2.2) : mK p l e R s m args below meth c Q G row.2.2.2.1 d0 s0 pc L st D := by
  intro ls H locs cells slots hL hP hS hc hs
  split at h
  · obtain ⟨t, ht, rfl⟩ := mBr_eq h
    have k1 := k ls H locs cells slots hL hP hS hc hs
    refine lv_icmp_lt C.1 C.2.1 hd ht (fun hP => ?_) (fun hP => ?_)
    · simpa only [decide_eq_true hP, cond_true] using k1
    · simpa only [decide_eq_false hP, cond_false] using k1
  · cases h
theorem r_if_ge (C : mCx p R s m args meth c G row d0) {off : Int} (hd : decode row.2.2.1 pc = .ok (.ifCond .ge off, 3)) (h : (match st with
    | .int x :: r => mBr (decide (0 ≤ x)) pc off L r D
    | _ => none) = some (.inl q)) (k : mK p l e R s m args below meth c Q G row.2.2.2.1 d0 s0 q.1 q.2.1 q.2.2.1 q.2.2.2) : mK p l e R s m args below meth c Q G row.2.2.2.1 d0 s0 pc L st D := by
  intro ls H locs cells slots hL hP hS hc hs
  split at h
  · obtain ⟨t, ht, rfl⟩ := mBr_eq h
    have k1 := k ls H locs cells slots hL hP hS hc hs
    refine lv_if_ge C.1 C.2.1 hd ht (fun hP => ?_) (fun hP => ?_)
    · simpa only [decide_eq_true hP, cond_true] using k1
    · simpa only [decide_eq_false hP, cond_false] using k1
  · cases h
theorem r_icmp_ge (C : mCx p R s m args meth c G row d0) {off : Int} (hd : decode row.2.2.1 pc = .ok (.if_icmp .ge off, 3)) (h : (match st with
    | .int y :: .int x :: r => mBr (decide (y ≤ x)) pc off L r D
    | _ => none) = some (.inl q)) (k : mK p l e R s m args below meth c Q G row.2.2.2.1 d0 s0 q.1 q.2.1 q.2.2.1 q.2.2.2) : mK p l e R s m args below meth c Q G row.2.2.2.1 d0 s0 pc L st D := by
  intro ls H locs cells slots hL hP hS hc hs
  split at h
  · obtain ⟨t, ht, rfl⟩ := mBr_eq h
    have k1 := k ls H locs cells slots hL hP hS hc hs
    refine lv_icmp_ge C.1 C.2.1 hd ht (fun hP => ?_) (fun hP => ?_)
    · simpa only [decide_eq_true hP, cond_true] using k1
    · simpa only [decide_eq_false hP, cond_false] using k1
  · cases h
theorem r_if_gt (C : mCx p R s m args meth c G row d0) {off : Int} (hd : decode row.2.2.1 pc = .ok (.ifCond .gt off, 3)) (h : (match st with
    | .int x :: r => mBr (decide (0 < x)) pc off L r D
    | _ => none) = some (.inl q)) (k : mK p l e R s m args below meth c Q G row.2.2.2.1 d0 s0 q.1 q.2.1 q.2.2.1 q.2.2.2) : mK p l e R s m args below meth c Q G row.2.2.2.1 d0 s0 pc L st D := by
  intro ls H locs cells slots hL hP hS hc hs
  split at h
  · obtain ⟨t, ht, rfl⟩ := mBr_eq h
    have k1 := k ls H locs cells slots hL hP hS hc hs
    refine lv_if_gt C.1 C.2.1 hd ht (fun hP => ?_) (fun hP => ?_)
    · simpa only [decide_eq_true hP, cond_true] using k1
    · simpa only [decide_eq_false hP, cond_false] using k1
  · cases h
theorem r_icmp_gt (C : mCx p R s m args meth c G row d0) {off : Int} (hd : decode row.2.2.1 pc = .ok (.if_icmp .gt off, 3)) (h : (match st with
    | .int y :: .int x :: r => mBr (decide (y < x)) pc off L r D
    | _ => none) = some (.inl q)) (k : mK p l e R s m args below meth c Q G row.2.2.2.1 d0 s0 q.1 q.2.1 q.2.2.1 q.2.2.2) : mK p l e R s m args below meth c Q G row.2.2.2.1 d0 s0 pc L st D := by
  intro ls H locs cells slots hL hP hS hc hs
  split at h
  · obtain ⟨t, ht, rfl⟩ := mBr_eq h
    have k1 := k ls H locs cells slots hL hP hS hc hs
    refine lv_icmp_gt C.1 C.2.1 hd ht (fun hP => ?_) (fun hP => ?_)
    · simpa only [decide_eq_true hP, cond_true] using k1
    · simpa only [decide_eq_false hP, cond_false] using k1
  · cases h
theorem r_if_le (C : mCx p R s m args meth c G row d0) {off : Int} (hd : decode row.2.2.1 pc = .ok (.ifCond .le off, 3)) (h : (match st with
    | .int x :: r => mBr (decide (x ≤ 0)) pc off L r D
    | _ => none) = some (.inl q)) (k : mK p l e R s m args below meth c Q G row.2.2.2.1 d0 s0 q.1 q.2.1 q.2.2.1 q.2.2.2) : mK p l e R s m args below meth c Q G row.2.2.2.1 d0 s0 pc L st D := by
  intro ls H locs cells slots hL hP hS hc hs
  split at h
  · obtain ⟨t, ht, rfl⟩ := mBr_eq h
    have k1 := k ls H locs cells slots hL hP hS hc hs
    refine lv_if_le C.1 C.2.1 hd ht (fun hP => ?_) (fun hP => ?_)
    · simpa only [decide_eq_true hP, cond_true] using k1
    · simpa only [decide_eq_false hP, cond_false] using k1
  · cases h
theorem r_icmp_le (C : mCx p R s m args meth c G row d0) {off : Int} (hd : decode row.2.2.1 pc = .ok (.if_icmp .le off, 3)) (h : (match st with
    | .int y :: .int x :: r => mBr (decide (x ≤ y)) pc off L r D
    | _ => none) = some (.inl q)) (k : mK p l e R s m args below meth c Q G row.2.2.2.1 d0 s0 q.1 q.2.1 q.2.2.1 q.2.2.2) : mK p l e R s m args below meth c Q G row.2.2.2.1 d0 s0 pc L st D := by
  intro ls H locs cells slots hL hP hS hc hs
  split at h
  · obtain ⟨t, ht, rfl⟩ := mBr_eq h
    have k1 := k ls H locs cells slots hL hP hS hc hs
    refine lv_icmp_le C.1 C.2.1 hd ht (fun hP => ?_) (fun hP => ?_)
    · simpa only [decide_eq_true hP, cond_true] using k1
    · simpa only [decide_eq_false hP, cond_false] using k1
  · cases h
theorem r_goto (C : mCx p R s m args meth c G row d0) {off : Int} (hd : decode row.2.2.1 pc = .ok (.goto off, 3)) (h : (mGo pc off L st D) = some (.inl q)) (k : mK p l e R s m args below meth c Q G row.2.2.2.1 d0 s0 q.1 q.2.1 q.2.2.1 q.2.2.2) : mK p l e R s m args below meth c Q G row.2.2.2.1 d0 s0 pc L st D := by
  intro ls H locs cells slots hL hP hS hc hs
  obtain ⟨t, ht, rfl⟩ := mGo_eq h
  exact lv_goto C.1 C.2.1 hd ht (k ls H locs cells slots hL hP hS hc hs)
theorem r_tsw (C : mCx p R s m args meth c G row d0) {dflt lo hi : Int} {offs : Array Int} {len : Nat} (hd : decode row.2.2.1 pc = .ok (.tableswitch dflt lo hi offs, len)) (h : (match st with
    | .int x :: r => if x.toInt < lo ∨ hi < x.toInt then mGo pc dflt L r D else match offs[(x.toInt - lo).toNat]? with
      | some off => mGo pc off L r D
      | none => none
    | _ => none) = some (.inl q)) (k : mK p l e R s m args below meth c Q G row.2.2.2.1 d0 s0 q.1 q.2.1 q.2.2.1 q.2.2.2) : mK p l e R s m args below meth c Q G row.2.2.2.1 d0 s0 pc L st D := by
  intro ls H locs cells slots hL hP hS hc hs
  split at h
  · split at h
    · rename_i hx
      obtain ⟨t, ht, rfl⟩ := mGo_eq h
      exact lv_tableOut C.1 C.2.1 hd hx ht (k ls H locs cells slots hL hP hS hc hs)
    · rename_i hx
      split at h
      · rename_i off ho
        obtain ⟨t, ht, rfl⟩ := mGo_eq h
        exact lv_tableIn C.1 C.2.1 hd (fun z => hx (Or.inl z)) (fun z => hx (Or.inr z)) ho ht (k ls H locs cells slots hL hP hS hc hs)
      · cases h
  · cases h
end MRW
end
section
/-! ===== the rows that read, write and make cells ===== -/
theorem mCl_ok {a : Nat} (h : a < 5) : vwCl[a]? = some (mNm a, mFT a, mFN a) := by
  rcases (by omega : a = 0 ∨ a = 1 ∨ a = 2 ∨ a = 3 ∨ a = 4) with rfl | rfl | rfl | rfl | rfl <;> rfl
theorem mUL_wk : mWalk 0 tables_1 (mUL.map fun q => (q.1, u_lay (mNm q.2.1) (mFT q.2.1) q.2.2)) = true := by decide +kernel
theorem mUL_ck : (List.range 5).all (fun a => (List.range (mFN a)).all fun k => goodWord (u_lay (mNm a) (mFT a) k) && mUL.any fun q => Nat.beq q.2.1 a && Nat.beq q.2.2 k) = true := by decide +kernel
theorem mU_in {a : Nat} (h : a < 5) : ∀ w ∈ u_ws (mNm a) (mFT a) (mFN a), w ∈ mGW := by
  intro w hw
  obtain ⟨k, hk, rfl⟩ := List.mem_map.mp hw
  have h1 := List.all_eq_true.mp (List.all_eq_true.mp mUL_ck a (List.mem_range.mpr h)) k hk
  rw [Bool.and_eq_true, List.any_eq_true] at h1
  obtain ⟨hg, q, hq, h2⟩ := h1
  rw [Bool.and_eq_true] at h2
  have hm := mWalk_spec mUL_wk _ (List.mem_map.mpr ⟨q, hq, rfl⟩)
  simp only [Nat.eq_of_beq_eq_true h2.1, Nat.eq_of_beq_eq_true h2.2] at hm
  exact mTb_gw hm hg
theorem mNI_wk : mWalk 0 tables_1 (mNI.map fun q => (q.1, .instantiable (mNm q.2) (mFN q.2))) = true := by decide +kernel
theorem mNI_ck : (List.range 5).all (fun a => goodWord (.instantiable (mNm a) (mFN a)) && goodWord (.initialized (mNm a)) && mNI.any (fun q => Nat.beq q.2 a) && mIN.any (fun q => Nat.beq q.2 a)) = true := by decide +kernel
theorem mNI_in {a : Nat} (h : a < 5) : Cond.instantiable (mNm a) (mFN a) ∈ mGW ∧ Cond.initialized (mNm a) ∈ mGW := by
  have h1 := List.all_eq_true.mp mNI_ck a (List.mem_range.mpr h)
  simp only [Bool.and_eq_true, List.any_eq_true] at h1
  obtain ⟨⟨⟨g1, g2⟩, q, hq, h2⟩, q', hq', h2'⟩ := h1
  have hm := mWalk_spec mNI_wk _ (List.mem_map.mpr ⟨q, hq, rfl⟩)
  simp only [Nat.eq_of_beq_eq_true h2] at hm
  have hm' := mWalk_spec mIN_wk _ (List.mem_map.mpr ⟨q', hq', rfl⟩)
  simp only [Nat.eq_of_beq_eq_true h2'] at hm'
  exact ⟨mTb_gw hm g1, mTb_gw hm' g2⟩
theorem mTy_ok {a : Nat} (h : a < 5) : ∀ k, k < mFN a → parseFieldDescriptor (mFT a k).2.2.1 = some (mFy a k) := by
  rcases (by omega : a = 0 ∨ a = 1 ∨ a = 2 ∨ a = 3 ∨ a = 4) with rfl | rfl | rfl | rfl | rfl
  · exact tyX0_ok
  · exact tyX1_ok
  · exact tyX2_ok
  · exact tyX3_ok
  · exact tyX4_ok
theorem mNn_ok {a : Nat} (h : a < 5) : ∀ x, x < mFN a → ∀ y, y < mFN a → x ≠ y → (mFT a x).2.1 ≠ (mFT a y).2.1 := by
  rcases (by omega : a = 0 ∨ a = 1 ∨ a = 2 ∨ a = 3 ∨ a = 4) with rfl | rfl | rfl | rfl | rfl
  · exact nmX0
  · exact nmX1
  · exact nmX2
  · exact nmX3
  · exact nmX4
theorem mDf_ok {a : Nat} (h : a < 5) : (mDf a).length = mFN a ∧ ∀ k, k < mFN a → defaultValue (mFy a k) = vp_V (mDf a) k := by
  rcases (by omega : a = 0 ∨ a = 1 ∨ a = 2 ∨ a = 3 ∨ a = 4) with rfl | rfl | rfl | rfl | rfl <;> decide +kernel
theorem mDf_mV {a : Nat} (h : a < 5) (G : mG) : (mDf a).map (mV G) = mDf a := by
  rcases (by omega : a = 0 ∨ a = 1 ∨ a = 2 ∨ a = 3 ∨ a = 4) with rfl | rfl | rfl | rfl | rfl <;> rfl
theorem mEck_at {row : mRow} {e : mEnt} {idx : Nat} (h : mEck row e = true) (hi : mKi e.1 = some idx) : mKd e.1 e.2.2.2.1 = true ∧ mLT[e.2.2.1]? = some (row.1, idx, e.2.2.2.1, e.2.2.2.2.1, e.2.2.2.2.2.1, e.2.2.2.2.2.2) ∧ (Nat.blt e.2.2.2.1 10 = true ∨ mRm row e.2.2.2.1 e.2.2.2.2.1 = true) := by
  unfold mEck at h
  rw [Bool.and_eq_true, hi] at h
  replace h := h.2
  simp only [Bool.and_eq_true, decide_eq_true_eq, Bool.or_eq_true] at h
  exact ⟨h.1.1, h.1.2, h.2⟩
theorem mGet_eq {D : mHp} {i a b : Nat} {v : Value} (h : mGet D i a b = some v) : ∃ fs : List Value, D[i]? = some (.inr (a, fs)) ∧ fs[b]? = some v := by
  unfold mGet at h
  split at h
  · rename_i c fs hD
    obtain ⟨h1, h2⟩ := mCond_eq h
    rw [Nat.eq_of_beq_eq_true h1] at hD
    exact ⟨fs, hD, h2⟩
  · cases h
theorem mLt_of {D : mHp} {i : Nat} {c : va_E} (h : D[i]? = some c) : i < D.length := (List.getElem?_eq_some_iff.mp h).1
section MHR
variable {p : Program} {l : Launch} {e : Env} {R : Room} {s : State} {m : MethodId} {args : Array Value} {below : List Frame} {meth : Method} {c : Code} {Q : State → Prop} {G : mG} {row : mRow} {d0 s0 : Nat} {pc : Nat} {L : mLoc} {st : List Value} {D : mHp} {q : Nat × mLoc × List Value × mHp} {j a b : Nat} {z : Int} {idx : Nat}
theorem r_getfield (C : mCx p R s m args meth c G row d0) (hlim : D.length ≤ 1000000) {kind : Nat} (hk : Nat.ble kind 1 = true) (hL0 : mLT[j]? = some (row.1, idx, kind, a, b, z)) (hd : decode row.2.2.1 pc = .ok (.getfield idx, 3))
    (h : (match st with
    | .ref i :: r => (mGet D i a b).bind fun v => mNx (pc + 3) L (v :: r) D
    | _ => none) = some (.inl q)) (k : mK p l e R s m args below meth c Q G row.2.2.2.1 d0 s0 q.1 q.2.1 q.2.2.1 q.2.2.2) : mK p l e R s m args below meth c Q G row.2.2.2.1 d0 s0 pc L st D := by
  intro ls H locs cells slots hL hP hS hc hs
  obtain ⟨hx, hb, hml, hown, hts, hE, -, -, -, -⟩ := C
  split at h
  · rename_i i r
    obtain ⟨v, h1, h2⟩ := mBind_eq h
    obtain rfl := mNx_eq h2
    obtain ⟨fs, hDi, hv⟩ := mGet_eq h1
    have k1 := k ls H locs cells slots hL hP hS hc hs
    have hi : i < 1000000 := Nat.lt_of_lt_of_le (mLt_of hDi) hlim
    show W p l e R s m args below meth c H locs cells slots Q (F0 m pc ls (.ref (mAd G i) :: r.map (mV G)))
    rw [mAd_lt hi]
    have hv' : (fs.map (mV G))[b]? = some (mV G v) := by rw [List.getElem?_map, hv]; rfl
    obtain ⟨hw, hck⟩ := mLT_at hL0
    rcases (by have := Nat.le_of_ble_eq_true hk; omega : kind = 0 ∨ kind = 1) with rfl | rfl
    · simp only [mLck, Bool.and_eq_true, decide_eq_true_eq] at hck
      obtain ⟨⟨⟨hg, ha⟩, hb5⟩, he⟩ := hck
      have ha := Nat.blt_eq.mp ha
      exact va_get (D := G.2.2.1) (cl := vwCl) (tys := mTys G) (ci := a) (v := mV G v) (C := mNm a) (T := mFT a) (N := mFN a) (own := mNm row.1) (ref := mNm a) hx hb hts (mU_in ha) hown hE.1 hP i (fs := fs.map (mV G)) (mW_at hDi) (mCl_ok ha) b (Nat.blt_eq.mp hb5) (hts _ (mTb_gw hw hg)) (fun x hx => by rw [he] at hx; exact hx) hv' hd k1
    · simp only [mLck, Bool.and_eq_true, decide_eq_true_eq] at hck
      obtain ⟨⟨⟨hg, ha⟩, hb5⟩, he⟩ := hck
      have ha := Nat.blt_eq.mp ha
      exact va_getN (D := G.2.2.1) (cl := vwCl) (tys := mTys G) (ci := a) (v := mV G v) (C := mNm a) (T := mFT a) (N := mFN a) (own := mNm row.1) (ref := mNm a) (host := "EnvyRust") hx hb hts (mU_in ha) hown hE.1 hP i (fs := fs.map (mV G)) (mW_at hDi) (mCl_ok ha) b (Nat.blt_eq.mp hb5) (va_Nw.use rfl (hE.2.1 _ (mTb_nw hw hg))) (fun x hx => by rw [he] at hx; exact hx) hv' hd k1
  · cases h
theorem mFit_mV {ty : FieldType} {v : Value} (h : mFit ty v = true) (G : mG) : narrow ty (mV G v) = mV G v ∧ fits ty (mV G v) = true := by
  unfold mFit at h
  split at h
  · rename_i x
    simp only [Bool.and_eq_true, decide_eq_true_eq] at h
    exact h
  · split at h
    · exact ⟨rfl, rfl⟩
    · exact ⟨rfl, rfl⟩
    · cases h
  · cases h
theorem mPut_eq {D D1 : mHp} {i a b kind : Nat} {v : Value} (h : mPut row kind D i a b v = some D1) : ∃ fs : List Value, D[i]? = some (.inr (a, fs)) ∧ b < mFN a ∧ b < fs.length ∧ mFit (mFy a b) v = true ∧ ((mFT a b).2.2.2 = false ∨ ((mFT a b).2.2.2 = true ∧ kind = 0 ∧ row.2.1.name = "<init>" ∧ (mFT a b).1 = mNm row.1)) ∧ D1 = D.set i (.inr (a, fs.set b v)) := by
  unfold mPut at h
  split at h
  · rename_i c fs hD
    obtain ⟨h1, h2⟩ := mCond_eq h
    simp only [Bool.and_eq_true, Bool.or_eq_true, decide_eq_true_eq] at h1
    obtain ⟨⟨⟨⟨h3, h4⟩, h5⟩, h6⟩, h7⟩ := h1
    have e := Nat.eq_of_beq_eq_true h3
    subst e
    refine ⟨fs, hD, Nat.blt_eq.mp h4, Nat.blt_eq.mp h5, h6, ?_, (Option.some.inj h2).symm⟩
    cases hf : (mFT c b).2.2.2 with
    | false => exact Or.inl rfl
    | true =>
      rw [hf] at h7
      rcases h7 with h7 | ⟨h8, h7⟩
      · cases h7
      · exact Or.inr ⟨rfl, Nat.eq_of_beq_eq_true h8, h7⟩
  · cases h
theorem mSz_obj (a b : Nat) (fs : List Value) (v : Value) : mSz (.inr (a, fs.set b v)) = mSz (.inr (a, fs)) := List.length_set
theorem r_putfield (C : mCx p R s m args meth c G row d0) (hlim : D.length ≤ 1000000) {kind : Nat} (hk : Nat.ble kind 1 = true) (hL0 : mLT[j]? = some (row.1, idx, kind, a, b, z)) (hd : decode row.2.2.1 pc = .ok (.putfield idx, 3))
    (h : (match st with
    | v :: .ref i :: r => (mPut row kind D i a b v).bind fun D1 => mNx (pc + 3) L r D1
    | _ => none) = some (.inl q)) (k : mK p l e R s m args below meth c Q G row.2.2.2.1 d0 s0 q.1 q.2.1 q.2.2.1 q.2.2.2) : mK p l e R s m args below meth c Q G row.2.2.2.1 d0 s0 pc L st D := by
  intro ls H locs cells slots hL hP hS hc hs
  obtain ⟨hx, hb, hml, hown, hts, hE, hini, -, -, -⟩ := C
  split at h
  · rename_i v i r
    obtain ⟨D1, h1, h2⟩ := mBind_eq h
    obtain rfl := mNx_eq h2
    obtain ⟨fs, hDi, hbN, hbl, hfit, hfin, rfl⟩ := mPut_eq h1
    have hi : i < 1000000 := Nat.lt_of_lt_of_le (mLt_of hDi) hlim
    show W p l e R s m args below meth c H locs cells slots Q (F0 m pc ls (mV G v :: .ref (mAd G i) :: r.map (mV G)))
    rw [mAd_lt hi]
    obtain ⟨hw, hck⟩ := mLT_at hL0
    obtain ⟨f1, f2⟩ := mFit_mV hfit G
    have kk : ∀ (H1 : Heap) (locs1 : List Loc), va_P G.2.2.1 vwCl ((mW G 0 D).set i (G.1 + i, .inr (a, (fs.map (mV G)).set b (mV G v)))) H1 → va_D (mA G) ((mW G 0 D).set i (G.1 + i, .inr (a, (fs.map (mV G)).set b (mV G v)))) → va_S (mA G) s.heap H1 locs1 → W p l e R s m args below meth c H1 locs1 cells slots Q (F0 m (pc + 3) ls (r.map (mV G))) := by
      intro H1 locs1 hP1 _ hS1
      refine k ls H1 locs1 cells slots hL ?_ hS1 (by rw [hc]; exact List.length_set.symm) (by rw [hs]; exact (mSl_set hDi (mSz_obj a b fs v)).symm)
      show va_P G.2.2.1 vwCl (mW G 0 (D.set i (.inr (a, fs.set b v)))) H1
      rw [mW_set0]
      show va_P G.2.2.1 vwCl ((mW G 0 D).set i (G.1 + i, .inr (a, (fs.set b v).map (mV G)))) H1
      rw [List.map_set]
      exact hP1
    have hl9 : b < (fs.map (mV G)).length := by rw [List.length_map]; exact hbl
    rcases (by have := Nat.le_of_ble_eq_true hk; omega : kind = 0 ∨ kind = 1) with rfl | rfl
    · simp only [mLck, Bool.and_eq_true, decide_eq_true_eq] at hck
      obtain ⟨⟨⟨hg, ha⟩, hb5⟩, he⟩ := hck
      have ha := Nat.blt_eq.mp ha
      rcases hfin with hfin | ⟨hfin, hkz, hnm, hdc⟩
      · exact va_put (D := G.2.2.1) (cl := vwCl) (tys := mTys G) (ci := a) (v := mV G v) (ty := mFy a b) (C := mNm a) (T := mFT a) (N := mFN a) (own := mNm row.1) (ref := mNm a) hx hb hts (mU_in ha) (mFy a) (mTy_ok ha) (mNn_ok ha) hown hE.1 hP (mW_D G D) hS i (fs := fs.map (mV G)) (mW_at hDi) (mCl_ok ha) b hbN (hts _ (mTb_gw hw hg)) (fun x hx => by rw [he] at hx; exact hx) hfin (mTy_ok ha b hbN) f1 f2 hl9 hd kk
      · exact va_putF (D := G.2.2.1) (cl := vwCl) (tys := mTys G) (ci := a) (v := mV G v) (ty := mFy a b) (C := mNm a) (T := mFT a) (N := mFN a) (own := mNm row.1) (ref := mNm a) hx hb hts (mU_in ha) (mFy a) (mTy_ok ha) (mNn_ok ha) hown hE.1 hP (mW_D G D) hS i (fs := fs.map (mV G)) (mW_at hDi) (mCl_ok ha) b hbN (hts _ (mTb_gw hw hg)) (fun x hx => by rw [he] at hx; exact hx) hfin (hini hnm) hdc (mTy_ok ha b hbN) f1 f2 hl9 hd kk
    · simp only [mLck, Bool.and_eq_true, decide_eq_true_eq] at hck
      obtain ⟨⟨⟨hg, ha⟩, hb5⟩, he⟩ := hck
      have ha := Nat.blt_eq.mp ha
      rcases hfin with hfin | ⟨hfin, hkz, hnm, hdc⟩
      · exact va_putN (D := G.2.2.1) (cl := vwCl) (tys := mTys G) (ci := a) (v := mV G v) (ty := mFy a b) (C := mNm a) (T := mFT a) (N := mFN a) (own := mNm row.1) (ref := mNm a) (host := "EnvyRust") hx hb hts (mU_in ha) (mFy a) (mTy_ok ha) (mNn_ok ha) hown hE.1 hP (mW_D G D) hS i (fs := fs.map (mV G)) (mW_at hDi) (mCl_ok ha) b hbN (va_Nw.use rfl (hE.2.1 _ (mTb_nw hw hg))) (fun x hx => by rw [he] at hx; exact hx) hfin (mTy_ok ha b hbN) f1 f2 hl9 hd kk
      · cases hkz
  · cases h
end MHR
end
section
/-! ===== arrays, constants, new cells ===== -/
theorem mV_ref (G : mG) (i : Nat) : mV G (.ref i) = .ref (mAd G i) := rfl
theorem mAd_tx (G : mG) (b : Nat) : mAd G (1000000 + b) = G.2.1 b := by
  unfold mAd
  rw [if_neg (by omega), Nat.add_sub_cancel_left]
theorem mTys_at (G : mG) (t : Nat) (h : t ≤ 4) : ∃ ty, (mTys G)[t]? = some (G.2.2.2.1 t, ty) := by
  rcases (by omega : t = 0 ∨ t = 1 ∨ t = 2 ∨ t = 3 ∨ t = 4) with rfl | rfl | rfl | rfl | rfl <;> exact ⟨_, rfl⟩
section MAR
variable {p : Program} {l : Launch} {e : Env} {R : Room} {s : State} {m : MethodId} {args : Array Value} {below : List Frame} {meth : Method} {c : Code} {Q : State → Prop} {G : mG} {row : mRow} {d0 s0 : Nat} {pc : Nat} {L : mLoc} {st : List Value} {D : mHp} {q : Nat × mLoc × List Value × mHp} {j a b : Nat} {z : Int} {idx : Nat}
theorem r_getstatic (C : mCx p R s m args meth c G row d0) {kind : Nat} (hk : Nat.beq kind 7 = true) (hL0 : mLT[j]? = some (row.1, idx, kind, a, b, z)) (hd : decode row.2.2.1 pc = .ok (.getstatic idx, 3))
    (h : mNx (pc + 3) L (.ref 1000100 :: st) D = some (.inl q)) (k : mK p l e R s m args below meth c Q G row.2.2.2.1 d0 s0 q.1 q.2.1 q.2.2.1 q.2.2.2) : mK p l e R s m args below meth c Q G row.2.2.2.1 d0 s0 pc L st D := by
  intro ls H locs cells slots hL hP hS hc hs
  obtain ⟨hx, hb, hml, hown, hts, hE, -, -, -, -⟩ := C
  obtain rfl := mNx_eq h
  obtain ⟨hw, hck⟩ := mLT_at hL0
  have hk := Nat.eq_of_beq_eq_true hk
  subst hk
  have k1 := k ls H locs cells slots hL hP hS hc hs
  have hZ := hE.2.2.2.2.2.1
  exact va_gets (C := "EnvyRust") (n := "KIND_ABOVE") (d := "[I") (own := mNm row.1) (ref := "EnvyRust") hx hb hZ hS hown (hts _ (mTb_gw hw hck)) (fun _ h9 => h9) hd k1
theorem r_ldc (C : mCx p R s m args meth c G row d0) {kind : Nat} (hL0 : mLT[j]? = some (row.1, idx, kind, a, b, z)) (hd : decode row.2.2.1 pc = .ok (.ldc idx, 2))
    (h : (match kind with
    | 2 => mNx (pc + 2) L (.int (Int32.ofInt z) :: st) D
    | 3 => mNx (pc + 2) L (.ref (1000000 + b) :: st) D
    | _ => none) = some (.inl q)) (k : mK p l e R s m args below meth c Q G row.2.2.2.1 d0 s0 q.1 q.2.1 q.2.2.1 q.2.2.2) : mK p l e R s m args below meth c Q G row.2.2.2.1 d0 s0 pc L st D := by
  intro ls H locs cells slots hL hP hS hc hs
  obtain ⟨hx, hb, hml, hown, hts, hE, -, -, -, -⟩ := C
  obtain ⟨hw, hck⟩ := mLT_at hL0
  split at h
  · obtain rfl := mNx_eq h
    exact lv_ldc hx hb hown (hts _ (mTb_gw hw hck)) hd (k ls H locs cells slots hL hP hS hc hs)
  · obtain rfl := mNx_eq h
    have k1 := k ls H locs cells slots hL hP hS hc hs
    simp only [List.map_cons, mV_ref, mAd_tx] at k1
    have hZ := hE.2.2.2.2.1 _ (List.mem_of_getElem? hL0) rfl
    exact va_ldcS hx hb hown hZ hd k1
  · cases h
theorem m_ldcSw {cc : ByteArray} {ls : Array Slot} {rest : List Value} {H : Heap} {locs : List Loc} {cells slots : Nat} (hexec : p.tables.exec = Jvm.exec) (hb : c.code = cc) {own tx : String} {index q : Nat} (hown : s.vm.findClass own = some m.cls) (hZ : vk_R own index tx q s) (hdg : decode cc pc = .ok (.ldc_w index, 3))
    (k : W p l e R s m args below meth c H locs cells slots Q (F0 m (pc + 3) ls (.ref q :: rest))) : W p l e R s m args below meth c H locs cells slots Q (F0 m pc ls rest) := by
  intro T hT X
  obtain ⟨t, a1, b1⟩ := k T hT X
  exact ⟨t, X.ldcStringW hexec hown (text := tx) (a := q) hZ.1 hZ.2 (g := F0 m pc ls rest) rfl (by rw [hb]; exact hdg) t a1, b1⟩
theorem r_ldc_w (C : mCx p R s m args meth c G row d0) {kind : Nat} (hL0 : mLT[j]? = some (row.1, idx, kind, a, b, z)) (hd : decode row.2.2.1 pc = .ok (.ldc_w idx, 3))
    (h : (match kind with
    | 2 => mNx (pc + 3) L (.int (Int32.ofInt z) :: st) D
    | 3 => mNx (pc + 3) L (.ref (1000000 + b) :: st) D
    | _ => none) = some (.inl q)) (k : mK p l e R s m args below meth c Q G row.2.2.2.1 d0 s0 q.1 q.2.1 q.2.2.1 q.2.2.2) : mK p l e R s m args below meth c Q G row.2.2.2.1 d0 s0 pc L st D := by
  intro ls H locs cells slots hL hP hS hc hs
  obtain ⟨hx, hb, hml, hown, hts, hE, -, -, -, -⟩ := C
  obtain ⟨hw, hck⟩ := mLT_at hL0
  split at h
  · obtain rfl := mNx_eq h
    exact lv_ldcw hx hb hown (hts _ (mTb_gw hw hck)) hd (k ls H locs cells slots hL hP hS hc hs)
  · obtain rfl := mNx_eq h
    have k1 := k ls H locs cells slots hL hP hS hc hs
    simp only [List.map_cons, mV_ref, mAd_tx] at k1
    have hZ := hE.2.2.2.2.1 _ (List.mem_of_getElem? hL0) rfl
    exact m_ldcSw hx hb hown hZ hd k1
  · cases h
theorem mLd_eq {X : mSc} {t : Nat} {i : Nat} {j : Int32} {v : Value} (h : mLd X t D i j = some v) :
    (∃ (n : Nat) (f : Nat → Int32), D[i]? = some (.inl (t, n, .inl f)) ∧ vp_in j n ∧ v = .int (f j.toNatClampNeg)) ∨ (t = 0 ∧ ∃ (n : Nat) (f : Nat → Int32), mRo X i = some (n, f) ∧ vp_in j n ∧ v = .int (f j.toNatClampNeg)) := by
  unfold mLd at h
  split at h
  · rename_i t' n f hD
    obtain ⟨h1, h2⟩ := mCond_eq h
    rw [Bool.and_eq_true] at h1
    rw [Nat.eq_of_beq_eq_true h1.1] at hD
    exact Or.inl ⟨n, f, hD, mOut_in h1.2, (Option.some.inj h2).symm⟩
  · cases h
  · obtain ⟨h1, h2⟩ := mCond_eq h
    split at h2
    · rename_i n f hR
      obtain ⟨h3, h4⟩ := mCond_eq h2
      exact Or.inr ⟨Nat.eq_of_beq_eq_true h1, n, f, hR, mOut_in h3, (Option.some.inj h4).symm⟩
    · cases h2
theorem mRo_eq {X : mSc} {i n : Nat} {f : Nat → Int32} (h : mRo X i = some (n, f)) : (i = 1000100 ∧ n = 7 ∧ f = mKA) ∨ (i = 1000200 ∧ (n, f) = X) := by
  unfold mRo at h
  cases h1 : Nat.beq i 1000100 with
  | true =>
    rw [h1] at h
    cases h
    exact Or.inl ⟨Nat.eq_of_beq_eq_true h1, rfl, rfl⟩
  | false =>
    rw [h1] at h
    obtain ⟨h2, h3⟩ := mCond_eq h
    exact Or.inr ⟨Nat.eq_of_beq_eq_true h2, (Option.some.inj h3).symm⟩
theorem mRo_T {X : mSc} {i n : Nat} {f : Nat → Int32} (hG : G.2.2.2.2 = X) (hE : mE G s s.heap) (h : mRo X i = some (n, f)) : va_T .int (mAd G i) n (fun j => .int (f j)) (mA G) s s.heap := by
  rcases mRo_eq h with ⟨rfl, rfl, rfl⟩ | ⟨rfl, h9⟩
  · exact hE.2.2.2.2.2.2.1
  · rw [← hG] at h9
    have e1 : n = G.2.2.2.2.1 := congrArg Prod.fst h9
    have e2 : f = G.2.2.2.2.2 := congrArg Prod.snd h9
    rw [e1, e2]
    exact hE.2.2.2.2.2.2.2.1
theorem r_iaload {X : mSc} (hG : G.2.2.2.2 = X) (C : mCx p R s m args meth c G row d0) (hlim : D.length ≤ 1000000) (hd : decode row.2.2.1 pc = .ok (.iaload, 1))
    (h : (match st with
    | .int j :: .ref i :: r => (mLd X 0 D i j).bind fun v => mNx (pc + 1) L (v :: r) D
    | _ => none) = some (.inl q)) (k : mK p l e R s m args below meth c Q G row.2.2.2.1 d0 s0 q.1 q.2.1 q.2.2.1 q.2.2.2) : mK p l e R s m args below meth c Q G row.2.2.2.1 d0 s0 pc L st D := by
  intro ls H locs cells slots hL hP hS hc hs
  obtain ⟨hx, hb, hml, hown, hts, hE, -, -, -, -⟩ := C
  split at h
  · rename_i j i r
    obtain ⟨v, h1, h2⟩ := mBind_eq h
    obtain rfl := mNx_eq h2
    have k1 := k ls H locs cells slots hL hP hS hc hs
    show W p l e R s m args below meth c H locs cells slots Q (F0 m pc ls (.int j :: .ref (mAd G i) :: r.map (mV G)))
    rcases mLd_eq h1 with ⟨n, f, hD, hin, rfl⟩ | ⟨-, n, f, hR, hin, rfl⟩
    · rw [mAd_lt (Nat.lt_of_lt_of_le (mLt_of hD) hlim)]
      exact va_iald (tys := mTys G) hx hb hE.1 hP i 0 (mW_at hD) rfl hin hd k1
    · exact va_ti hx hb (mRo_T hG hE hR) hS hin rfl hd k1
  · cases h
theorem r_baload {X : mSc} (C : mCx p R s m args meth c G row d0) (hlim : D.length ≤ 1000000) (hd : decode row.2.2.1 pc = .ok (.baload, 1))
    (h : (match st with
    | .int j :: .ref i :: r => (mLd X 1 D i j).bind fun v => mNx (pc + 1) L (v :: r) D
    | _ => none) = some (.inl q)) (k : mK p l e R s m args below meth c Q G row.2.2.2.1 d0 s0 q.1 q.2.1 q.2.2.1 q.2.2.2) : mK p l e R s m args below meth c Q G row.2.2.2.1 d0 s0 pc L st D := by
  intro ls H locs cells slots hL hP hS hc hs
  obtain ⟨hx, hb, hml, hown, hts, hE, -, -, -, -⟩ := C
  split at h
  · rename_i j i r
    obtain ⟨v, h1, h2⟩ := mBind_eq h
    obtain rfl := mNx_eq h2
    have k1 := k ls H locs cells slots hL hP hS hc hs
    show W p l e R s m args below meth c H locs cells slots Q (F0 m pc ls (.int j :: .ref (mAd G i) :: r.map (mV G)))
    rcases mLd_eq h1 with ⟨n, f, hD, hin, rfl⟩ | ⟨h0, -⟩
    · rw [mAd_lt (Nat.lt_of_lt_of_le (mLt_of hD) hlim)]
      exact va_bald (tys := mTys G) hx hb hE.1 hP i 1 (mW_at hD) rfl hin hd k1
    · cases h0
  · cases h
theorem mLdq_eq {i : Nat} {j : Int32} {v : Value} (h : mLdq D i j = some v) : ∃ (t n : Nat) (f : Nat → Option Nat), D[i]? = some (.inl (t, n, .inr (.inr (.inr (.inr f))))) ∧ 2 ≤ t ∧ t ≤ 4 ∧ vp_in j n ∧ v = va_rf (f j.toNatClampNeg) := by
  unfold mLdq at h
  split at h
  · rename_i t n f hD
    obtain ⟨h1, h2⟩ := mCond_eq h
    simp only [Bool.and_eq_true] at h1
    exact ⟨t, n, f, hD, Nat.le_of_ble_eq_true h1.1.1, Nat.le_of_ble_eq_true h1.1.2, mOut_in h1.2, (Option.some.inj h2).symm⟩
  · cases h
theorem r_aaload (C : mCx p R s m args meth c G row d0) (hlim : D.length ≤ 1000000) (hd : decode row.2.2.1 pc = .ok (.aaload, 1))
    (h : (match st with
    | .int j :: .ref i :: r => (mLdq D i j).bind fun v => mNx (pc + 1) L (v :: r) D
    | _ => none) = some (.inl q)) (k : mK p l e R s m args below meth c Q G row.2.2.2.1 d0 s0 q.1 q.2.1 q.2.2.1 q.2.2.2) : mK p l e R s m args below meth c Q G row.2.2.2.1 d0 s0 pc L st D := by
  intro ls H locs cells slots hL hP hS hc hs
  obtain ⟨hx, hb, hml, hown, hts, hE, -, -, -, -⟩ := C
  split at h
  · rename_i j i r
    obtain ⟨v, h1, h2⟩ := mBind_eq h
    obtain rfl := mNx_eq h2
    obtain ⟨t, n, f, hD, ht2, ht4, hin, rfl⟩ := mLdq_eq h1
    have k1 : W p l e R s m args below meth c H locs cells slots Q (F0 m (pc + 1) ls (mV G (va_rf (f j.toNatClampNeg)) :: r.map (mV G))) := k ls H locs cells slots hL hP hS hc hs
    rw [mV_rf] at k1
    show W p l e R s m args below meth c H locs cells slots Q (F0 m pc ls (.int j :: .ref (mAd G i) :: r.map (mV G)))
    rw [mAd_lt (Nat.lt_of_lt_of_le (mLt_of hD) hlim)]
    have hlt : j.toNatClampNeg < n := Nat.not_le.mp fun w => hin (Or.inr w)
    obtain ⟨ty, hty, hr⟩ : ∃ ty, (mTys G)[t]? = some (G.2.2.2.1 t, ty) ∧ ty.isReference = true := by
      rcases (by omega : t = 2 ∨ t = 3 ∨ t = 4) with rfl | rfl | rfl
      · exact ⟨_, rfl, rfl⟩
      · exact ⟨_, rfl, rfl⟩
      · exact ⟨_, rfl, rfl⟩
    have hcell : H[G.1 + i]? = some (arrV (G.2.2.2.1 t) n (fun j => va_rf ((f j).map (mAd G)))) := hP i _ (mW_at hD)
    exact W.aald (v := va_rf ((f j.toNatClampNeg).map (mAd G))) (ty := ty) hx hb hcell ((hE.1.2 t _ hty).1 n (fun j => va_rf ((f j).map (mAd G)))) hr (fun w => by cases w) (by show ¬ (j < 0 ∨ (arrV _ _ _).slots.size ≤ _); rw [arrV_size]; exact hin) (by show (arrV _ _ _).slots[_]? = _; rw [arrV_read _ _ hlt]) rfl rfl hd k1
  · cases h
theorem mStI_eq {t : Nat} {D1 : mHp} {i : Nat} {j x : Int32} (h : mStI t D i j x = some D1) : ∃ (n : Nat) (f : Nat → Int32), D[i]? = some (.inl (t, n, .inl f)) ∧ vp_in j n ∧ D1 = D.set i (.inl (t, n, .inl (upd f j.toNatClampNeg (mNar t x)))) := by
  unfold mStI at h
  split at h
  · rename_i t' n f hD
    obtain ⟨h1, h2⟩ := mCond_eq h
    rw [Bool.and_eq_true] at h1
    have e := Nat.eq_of_beq_eq_true h1.1
    subst e
    exact ⟨n, f, hD, mOut_in h1.2, (Option.some.inj h2).symm⟩
  · cases h
theorem mSet_W {ls : Array Slot} {locs1 : List Loc} {H1 : Heap} {cells slots : Nat} {pc' : Nat} {r : List Value} {i : Nat} {c0 c1 : va_E} (hD : D[i]? = some c0) (hz : mSz c1 = mSz c0) (hL : mLR G ls row.2.2.2.1 L) (hc : cells + d0 = D.length) (hs : slots + s0 = mSl D) (k : mK p l e R s m args below meth c Q G row.2.2.2.1 d0 s0 pc' L r (D.set i c1))
    (hP1 : va_P G.2.2.1 vwCl ((mW G 0 D).set i (G.1 + i, mCE G c1)) H1) (hS1 : va_S (mA G) s.heap H1 locs1) : W p l e R s m args below meth c H1 locs1 cells slots Q (F0 m pc' ls (r.map (mV G))) := by
  refine k ls H1 locs1 cells slots hL ?_ hS1 (by rw [hc]; exact List.length_set.symm) (by rw [hs]; exact (mSl_set hD hz).symm)
  show va_P G.2.2.1 vwCl (mW G 0 (D.set i c1)) H1
  rw [mW_set0]
  exact hP1
theorem r_iastore (C : mCx p R s m args meth c G row d0) (hlim : D.length ≤ 1000000) (hd : decode row.2.2.1 pc = .ok (.iastore, 1))
    (h : (match st with
    | .int x :: .int j :: .ref i :: r => (mStI 0 D i j x).bind fun D1 => mNx (pc + 1) L r D1
    | _ => none) = some (.inl q)) (k : mK p l e R s m args below meth c Q G row.2.2.2.1 d0 s0 q.1 q.2.1 q.2.2.1 q.2.2.2) : mK p l e R s m args below meth c Q G row.2.2.2.1 d0 s0 pc L st D := by
  intro ls H locs cells slots hL hP hS hc hs
  obtain ⟨hx, hb, hml, hown, hts, hE, -, -, -, -⟩ := C
  split at h
  · rename_i x j i r
    obtain ⟨D1, h1, h2⟩ := mBind_eq h
    obtain rfl := mNx_eq h2
    obtain ⟨n, f, hD, hin, rfl⟩ := mStI_eq h1
    show W p l e R s m args below meth c H locs cells slots Q (F0 m pc ls (.int x :: .int j :: .ref (mAd G i) :: r.map (mV G)))
    rw [mAd_lt (Nat.lt_of_lt_of_le (mLt_of hD) hlim)]
    exact va_iast (tys := mTys G) hx hb hE.1 hP (mW_D G D) hS i 0 (mW_at hD) rfl hin hd (fun H1 locs1 hP1 _ hS1 => mSet_W (c1 := .inl (0, n, .inl (upd f j.toNatClampNeg (mNar 0 x)))) hD rfl hL hc hs k hP1 hS1)
  · cases h
theorem r_bastore (C : mCx p R s m args meth c G row d0) (hlim : D.length ≤ 1000000) (hd : decode row.2.2.1 pc = .ok (.bastore, 1))
    (h : (match st with
    | .int x :: .int j :: .ref i :: r => (mStI 1 D i j x).bind fun D1 => mNx (pc + 1) L r D1
    | _ => none) = some (.inl q)) (k : mK p l e R s m args below meth c Q G row.2.2.2.1 d0 s0 q.1 q.2.1 q.2.2.1 q.2.2.2) : mK p l e R s m args below meth c Q G row.2.2.2.1 d0 s0 pc L st D := by
  intro ls H locs cells slots hL hP hS hc hs
  obtain ⟨hx, hb, hml, hown, hts, hE, -, -, -, -⟩ := C
  split at h
  · rename_i x j i r
    obtain ⟨D1, h1, h2⟩ := mBind_eq h
    obtain rfl := mNx_eq h2
    obtain ⟨n, f, hD, hin, rfl⟩ := mStI_eq h1
    show W p l e R s m args below meth c H locs cells slots Q (F0 m pc ls (.int x :: .int j :: .ref (mAd G i) :: r.map (mV G)))
    rw [mAd_lt (Nat.lt_of_lt_of_le (mLt_of hD) hlim)]
    exact va_bast (tys := mTys G) hx hb hE.1 hP (mW_D G D) hS i 1 (mW_at hD) rfl hin hd (fun H1 locs1 hP1 _ hS1 => mSet_W (c1 := .inl (1, n, .inl (upd f j.toNatClampNeg (mNar 1 x)))) hD rfl hL hc hs k hP1 hS1)
  · cases h
theorem mStQ_eq {D1 : mHp} {i v : Nat} {j : Int32} (h : mStQ D i j v = some D1) : ∃ (t n : Nat) (f : Nat → Option Nat), D[i]? = some (.inl (t, n, .inr (.inr (.inr (.inr f))))) ∧ mAk D t v = true ∧ vp_in j n ∧ D1 = D.set i (.inl (t, n, .inr (.inr (.inr (.inr (va_up f j.toNatClampNeg (some v))))))) := by
  unfold mStQ at h
  split at h
  · rename_i t n f hD
    obtain ⟨h1, h2⟩ := mCond_eq h
    rw [Bool.and_eq_true] at h1
    exact ⟨t, n, f, hD, h1.1, mOut_in h1.2, (Option.some.inj h2).symm⟩
  · cases h
theorem mAk_eq {t v : Nat} (h : mAk D t v = true) : (t = 2 ∧ ∃ fs : List Value, D[v]? = some (.inr (0, fs))) ∨ (t = 4 ∧ 1000000 ≤ v ∧ v < 1000015) := by
  unfold mAk at h
  split at h
  · split at h
    · rename_i c fs hD
      rw [Nat.eq_of_beq_eq_true h] at hD
      exact Or.inl ⟨rfl, fs, hD⟩
    · cases h
  · rw [Bool.and_eq_true] at h
    exact Or.inr ⟨rfl, Nat.le_of_ble_eq_true h.1, Nat.blt_eq.mp h.2⟩
  · cases h
theorem mCA_up (f : Nat → Option Nat) (k v : Nat) : (fun i => (va_up f k (some v) i).map (mAd G)) = va_up (fun i => (f i).map (mAd G)) k (some (mAd G v)) := by
  funext i
  unfold va_up
  split <;> rfl
theorem r_aastore (C : mCx p R s m args meth c G row d0) (hlim : D.length ≤ 1000000) (hd : decode row.2.2.1 pc = .ok (.aastore, 1))
    (h : (match st with
    | .ref v :: .int j :: .ref i :: r => (mStQ D i j v).bind fun D1 => mNx (pc + 1) L r D1
    | _ => none) = some (.inl q)) (k : mK p l e R s m args below meth c Q G row.2.2.2.1 d0 s0 q.1 q.2.1 q.2.2.1 q.2.2.2) : mK p l e R s m args below meth c Q G row.2.2.2.1 d0 s0 pc L st D := by
  intro ls H locs cells slots hL hP hS hc hs
  obtain ⟨hx, hb, hml, hown, hts, hE, -, -, -, -⟩ := C
  split at h
  · rename_i v j i r
    obtain ⟨D1, h1, h2⟩ := mBind_eq h
    obtain rfl := mNx_eq h2
    obtain ⟨t, n, f, hD, hak, hin, rfl⟩ := mStQ_eq h1
    show W p l e R s m args below meth c H locs cells slots Q (F0 m pc ls (.ref (mAd G v) :: .int j :: .ref (mAd G i) :: r.map (mV G)))
    rw [mAd_lt (Nat.lt_of_lt_of_le (mLt_of hD) hlim)]
    have hset : ∀ (H1 : Heap) (locs1 : List Loc), va_P G.2.2.1 vwCl ((mW G 0 D).set i (G.1 + i, .inl (G.2.2.2.1 t, n, .inr (.inr (.inr (.inr (va_up (fun i => (f i).map (mAd G)) j.toNatClampNeg (some (mAd G v))))))))) H1 → va_S (mA G) s.heap H1 locs1 → W p l e R s m args below meth c H1 locs1 cells slots Q (F0 m (pc + 1) ls (r.map (mV G))) := by
      intro H1 locs1 hP1 hS1
      refine mSet_W (c1 := .inl (t, n, .inr (.inr (.inr (.inr (va_up f j.toNatClampNeg (some v))))))) hD rfl hL hc hs k ?_ hS1
      rw [← mCA_up] at hP1
      exact hP1
    rcases mAk_eq hak with ⟨rfl, fs, hDv⟩ | ⟨rfl, hv1, hv2⟩
    · have hv : v < 1000000 := Nat.lt_of_lt_of_le (mLt_of hDv) hlim
      rw [mAd_lt hv] at hset ⊢
      exact va_astq (tys := mTys G) (r := (mNm 0, mFT 0, mFN 0)) hx hb hE.1 hP (mW_D G D) hS i 2 v 0 (mW_at hD) rfl (mW_at hDv) (mCl_ok (by decide)) hin hd (fun H1 locs1 hP1 _ hS1 => hset H1 locs1 hP1 hS1)
    · have hO := hE.2.2.2.1 (v - 1000000) (by omega)
      have e : mAd G v = G.2.1 (v - 1000000) := by rw [mAd, if_neg (by omega)]
      obtain ⟨cell, g1, g2, g3, -⟩ := hO.1.kept hS.2.1
      obtain ⟨kC, hkC, -⟩ := Vm.findClass_spec g3
      have hAny : va_Any "java/lang/String" s H (mAd G v) := by
        rw [e]
        exact ⟨cell, g1, g2, ⟨kC, hkC⟩, fun comp hcomp => by rw [Option.some.inj (hcomp.symm.trans g3)]; exact va_asg _ _⟩
      exact va_astqM (tys := mTys G) hx hb hE.1 hP (mW_D G D) hS i 4 (mW_at hD) rfl hAny hin hd (fun H1 locs1 hP1 _ hS1 => hset H1 locs1 hP1 hS1)
  · cases h
theorem r_arraylength {X : mSc} (hG : G.2.2.2.2 = X) (C : mCx p R s m args meth c G row d0) (hlim : D.length ≤ 1000000) (hd : decode row.2.2.1 pc = .ok (.arraylength, 1))
    (h : (match st with
    | .ref i :: r => (mLen X D i).bind fun n => mNx (pc + 1) L (.int n :: r) D
    | _ => none) = some (.inl q)) (k : mK p l e R s m args below meth c Q G row.2.2.2.1 d0 s0 q.1 q.2.1 q.2.2.1 q.2.2.2) : mK p l e R s m args below meth c Q G row.2.2.2.1 d0 s0 pc L st D := by
  intro ls H locs cells slots hL hP hS hc hs
  obtain ⟨hx, hb, hml, hown, hts, hE, -, -, -, -⟩ := C
  split at h
  · rename_i i r
    obtain ⟨n, h1, h2⟩ := mBind_eq h
    obtain rfl := mNx_eq h2
    have k1 := k ls H locs cells slots hL hP hS hc hs
    show W p l e R s m args below meth c H locs cells slots Q (F0 m pc ls (.ref (mAd G i) :: r.map (mV G)))
    unfold mLen at h1
    split at h1
    · rename_i t a hD
      obtain ⟨h3, h4⟩ := mCond_eq h1
      have h3 := Nat.le_of_ble_eq_true h3
      rw [mAd_lt (Nat.lt_of_lt_of_le (mLt_of hD) hlim)]
      obtain ⟨ty, hty⟩ := mTys_at G t h3
      refine va_alen (tys := mTys G) hx hb hE.1 hP i t (mW_at hD) hty ?_ hd k1
      rw [← Option.some.inj h4]
      obtain ⟨n9, f | f | f | f | f⟩ := a <;> rfl
    · cases h1
    · obtain ⟨qq, hq1, hq2⟩ := Option.map_eq_some_iff.mp h1
      exact va_tlen hx hb (mRo_T hG hE hq1) hS hq2 hd k1
  · cases h
end MAR
end
section
/-! ===== new cells, and what the machine itself does at a call ===== -/
theorem mVr_outer (c : ClassId) (N h0 : Nat) : ∀ i : Nat, Jvm.Free.Multi.outerC c N h0 i = arrV c N (fun j => va_rf (if j < i then some (h0 + 1 + j) else none))
  | 0 => by
    show ({ cls := c, slots := Array.replicate N .null, vm := .none } : Cell) = _
    rw [arrV_new]
    refine congrArg (arrV c N) (funext fun j => ?_)
    simp [va_rf]
  | i + 1 => by
    show (Jvm.Free.Multi.outerC c N h0 i).setSlot i (.ref (h0 + 1 + i)) = _
    rw [mVr_outer c N h0 i, arrV_store]
    refine congrArg (arrV c N) (funext fun j => ?_)
    by_cases e : j = i
    · subst e
      simp [updV, va_rf]
    · by_cases h : j < i
      · simp [updV, e, h, Nat.lt_succ_of_lt h]
      · simp [updV, e, h, show ¬ j < i + 1 by omega]
theorem mAC_i : Cond.arrayClass .int ∈ mGW := mTb_gw (by decide +kernel) rfl
theorem mAC_b : Cond.arrayClass .byte ∈ mGW := mTb_gw (by decide +kernel) rfl
theorem mOI_i : Cond.instanceMethod Lib.objectInit ∈ mGW := mTb_gw (by decide +kernel) (by decide +kernel)
theorem mOI_c : Cond.code Lib.objectInit ⟨#[0xb1]⟩ 1 none ∈ mGW := mTb_gw (by decide +kernel) (by decide +kernel)
theorem mCP_n : Cond.native arraycopyName ∈ mGW := mTb_gw (by decide +kernel) (by decide +kernel)
theorem mCP_s : Cond.static arraycopyName ∈ mGW := mTb_gw (by decide +kernel) (by decide +kernel)
theorem mCP_i : Cond.initialized "java/lang/System" ∈ mGW := mTb_gw (by decide +kernel) (by decide +kernel)
theorem mMM_i : Cond.initialized "java/lang/Math" ∈ mGW := mTb_gw (by decide +kernel) (by decide +kernel)
theorem mMX_s : Cond.static Lib.Math.max.name ∈ mGW := mTb_gw (by decide +kernel) (by decide +kernel)
theorem mMX_c : Cond.code Lib.Math.max.name Lib.Math.max.code 2 (some .int) ∈ mGW := mTb_gw (by decide +kernel) (by decide +kernel)
theorem mMN_s : Cond.static Lib.Math.min.name ∈ mGW := mTb_gw (by decide +kernel) (by decide +kernel)
theorem mMN_c : Cond.code Lib.Math.min.name Lib.Math.min.code 2 (some .int) ∈ mGW := mTb_gw (by decide +kernel) (by decide +kernel)
theorem mNW_w : nativeFrameWords "java/lang/System" "arraycopy" 5 ≤ 11 := by decide +kernel
section MMK
variable {p : Program} {l : Launch} {e : Env} {R : Room} {s : State} {m : MethodId} {args : Array Value} {below : List Frame} {meth : Method} {c : Code} {Q : State → Prop} {G : mG} {row : mRow} {d0 s0 : Nat} {pc : Nat} {L : mLoc} {st : List Value} {D : mHp} {q : Nat × mLoc × List Value × mHp} {j a b : Nat} {z : Int} {idx : Nat} {H H1 : Heap} {locs : List Loc} {cells slots : Nat}
theorem mSized {g : JFrame} (hz : s.heap.size = G.1 + d0) (hP : mMS G D H) (hS : va_S (mA G) s.heap H locs) (hc : cells + d0 = D.length) (k : H.size = G.1 + D.length → W p l e R s m args below meth c H locs cells slots Q g) : W p l e R s m args below meth c H locs cells slots Q g := by
  intro T hT X
  have h1 := X.heapSize
  rw [hT] at h1
  have h2 := hP.low (by have := hS.1; omega)
  exact k (by omega) T hT X
theorem mPushL {E : mHp} (hP : mMS G D H) (hz : H.size = G.1 + D.length) (o1 : ∀ q : Nat, q < H.size → H1[q]? = H[q]?) (hE : ∀ (k : Nat) (c : va_E), E[k]? = some c → va_at G.2.2.1 vwCl (H.size + k, mCE G c) H1) : mMS G (D ++ E) H1 := by
  show va_P G.2.2.1 vwCl (mW G 0 (D ++ E)) H1
  rw [mW_app]
  refine (hP.kept (fun k x hx => o1 x.1 ((hP k x hx).lt))).app (fun k x hx => ?_)
  rw [mW_get] at hx
  obtain ⟨c, hc, rfl⟩ := Option.map_eq_some_iff.mp hx
  have := hE k c hc
  rwa [hz, show G.1 + D.length + k = G.1 + (0 + D.length + k) by omega] at this
theorem mPushS (hS : va_S (mA G) s.heap H locs) (z1 : H.size ≤ H1.size) (o1 : ∀ q : Nat, q < H.size → H1[q]? = H[q]?) : va_S (mA G) s.heap H1 locs :=
  ⟨Nat.le_trans hS.1 z1, fun x h1 h2 => (o1 x (Nat.lt_of_lt_of_le h1 hS.1)).trans (hS.2.1 x h1 h2), hS.2.2⟩
theorem mAt1 {x : va_E} (h : va_at G.2.2.1 vwCl (H.size, mCE G x) H1) : ∀ (k : Nat) (c : va_E), ([x] : mHp)[k]? = some c → va_at G.2.2.1 vwCl (H.size + k, mCE G c) H1 := by
  intro k c hk
  cases k with
  | zero => simp only [List.getElem?_cons_zero, Option.some.injEq] at hk; subst hk; exact h
  | succ k => simp at hk
theorem r_new (C : mCx p R s m args meth c G row d0) (hlim : D.length + 1 ≤ 1000000) (hrc : D.length + 1 ≤ R.cells + d0) (hrs : mSl (D ++ [.inr (a, mDf a)]) ≤ R.slots + s0) {kind : Nat} (hk : Nat.beq kind 4 = true) (hL0 : mLT[j]? = some (row.1, idx, kind, a, b, z)) (hd : decode row.2.2.1 pc = .ok (.new idx, 3))
    (h : mNx (pc + 3) L (.ref D.length :: st) (D ++ [.inr (a, mDf a)]) = some (.inl q)) (k : mK p l e R s m args below meth c Q G row.2.2.2.1 d0 s0 q.1 q.2.1 q.2.2.1 q.2.2.2) : mK p l e R s m args below meth c Q G row.2.2.2.1 d0 s0 pc L st D := by
  intro ls H locs cells slots hL hP hS hc hs
  obtain ⟨hx, hb, hml, hown, hts, hE, -, hz, -, -⟩ := C
  obtain rfl := mNx_eq h
  obtain ⟨hw, hck⟩ := mLT_at hL0
  have hk := Nat.eq_of_beq_eq_true hk
  subst hk
  simp only [mLck, Bool.and_eq_true] at hck
  obtain ⟨hg, ha⟩ := hck
  have ha := Nat.blt_eq.mp ha
  refine mSized hz hP hS hc fun hH => ?_
  have hKn := hE.1.1 a _ (mCl_ok ha)
  rw [mSl_app] at hrs
  have hsz : mSl ([.inr (a, mDf a)] : mHp) = mFN a := by
    show (mDf a).length + 0 = _
    rw [(mDf_ok ha).1]; rfl
  refine W.newcK (own := mNm row.1) (C := mNm a) (n := mFN a) hx hb hown (hts _ (mTb_gw hw hg)) (hts _ (mNI_in ha).1) (hts _ (mNI_in ha).2) rfl hd (by omega) (by omega) hKn.2.1 rfl fun H1 kC hkC e1 z1 o1 => ?_
  have hD1 : mMS G (D ++ [.inr (a, mDf a)]) H1 := mPushL hP hH o1 (mAt1 ⟨_, mCl_ok ha, (u_born (mFy a) hts (mU_in ha) hKn hkC e1 (mTy_ok ha)).to (fun k hk => by
    show _ = vp_V ((mDf a).map (mV G)) k
    rw [mDf_mV ha]
    exact (mDf_ok ha).2 k hk)⟩)
  have k1 := k ls H1 locs (cells + 1) (slots + mFN a) hL hD1 (mPushS hS (by omega) o1) (by simp; omega) (by rw [mSl_app, hsz]; omega)
  simp only [List.map_cons, mV_ref, mAd_lt (G := G) (i := D.length) (by omega)] at k1
  rw [hH]
  exact k1
theorem r_newa {t : Nat} {at_ : ArrayType} (hta : (t = 0 ∧ at_ = .int) ∨ (t = 1 ∧ at_ = .byte)) (C : mCx p R s m args meth c G row d0) (hlim : q.2.2.2.length ≤ 1000000) (hrc : q.2.2.2.length ≤ R.cells + d0) (hrs : mSl q.2.2.2 ≤ R.slots + s0) (hd : decode row.2.2.1 pc = .ok (.newarray at_, 2))
    (h : (match st with
    | .int n :: r => if n < 0 ∨ 1000 < n.toNatClampNeg then none else mNx (pc + 2) L (.ref D.length :: r) (D ++ [.inl (t, n.toNatClampNeg, .inl (fun _ => 0))])
    | _ => none) = some (.inl q)) (k : mK p l e R s m args below meth c Q G row.2.2.2.1 d0 s0 q.1 q.2.1 q.2.2.1 q.2.2.2) : mK p l e R s m args below meth c Q G row.2.2.2.1 d0 s0 pc L st D := by
  intro ls H locs cells slots hL hP hS hc hs
  obtain ⟨hx, hb, hml, hown, hts, hE, -, hz, -, -⟩ := C
  split at h
  · rename_i n r
    split at h
    · cases h
    · rename_i hn
      obtain rfl := mNx_eq h
      have hn0 : ¬ n < 0 := fun w => hn (Or.inl w)
      have hn1 : n.toNatClampNeg ≤ 1000 := Nat.le_of_not_lt fun w => hn (Or.inr w)
      simp only [List.length_append, List.length_singleton, mSl_app] at hlim hrc hrs
      have hsz : mSl ([.inl (t, n.toNatClampNeg, .inl (fun _ => 0))] : mHp) = n.toNatClampNeg := rfl
      refine mSized hz hP hS hc fun hH => ?_
      rcases hta with ⟨rfl, rfl⟩ | ⟨rfl, rfl⟩
      · refine va_newaK (atype := .int) hx hb (hts _ mAC_i) rfl hd rfl hn0 rfl (by show n.toNatClampNeg * 4 ≤ _; omega) (by omega) (by omega) rfl fun H1 cA e1 z1 o1 hAr hNm => ?_
        have hcA : cA = G.2.2.2.1 0 := Option.some.inj (hNm.symm.trans (hE.1.2 0 _ rfl).2)
        subst hcA
        have hD1 := mPushL (E := [.inl (0, n.toNatClampNeg, .inl (fun _ => 0))]) hP hH o1 (mAt1 e1)
        have k1 := k ls H1 locs (cells + 1) (slots + n.toNatClampNeg) hL hD1 (mPushS hS (by omega) o1) (by simp; omega) (by rw [mSl_app, hsz]; omega)
        simp only [List.map_cons, mV_ref, mAd_lt (G := G) (i := D.length) (by omega)] at k1
        rw [hH]
        exact k1
      · refine va_newaK (atype := .byte) hx hb (hts _ mAC_b) rfl hd rfl hn0 rfl (by show n.toNatClampNeg * 1 ≤ _; omega) (by omega) (by omega) rfl fun H1 cA e1 z1 o1 hAr hNm => ?_
        have hcA : cA = G.2.2.2.1 1 := Option.some.inj (hNm.symm.trans (hE.1.2 1 _ rfl).2)
        subst hcA
        have hD1 := mPushL (E := [.inl (1, n.toNatClampNeg, .inl (fun _ => 0))]) hP hH o1 (mAt1 e1)
        have k1 := k ls H1 locs (cells + 1) (slots + n.toNatClampNeg) hL hD1 (mPushS hS (by omega) o1) (by simp; omega) (by rw [mSl_app, hsz]; omega)
        simp only [List.map_cons, mV_ref, mAd_lt (G := G) (i := D.length) (by omega)] at k1
        rw [hH]
        exact k1
  · cases h
theorem r_anewa (C : mCx p R s m args meth c G row d0) (hlim : q.2.2.2.length ≤ 1000000) (hrc : q.2.2.2.length ≤ R.cells + d0) (hrs : mSl q.2.2.2 ≤ R.slots + s0) {kind : Nat} (hk : Nat.beq kind 5 = true) (hL0 : mLT[j]? = some (row.1, idx, kind, a, b, z)) (hd : decode row.2.2.1 pc = .ok (.anewarray idx, 3))
    (h : (match st with
    | .int n :: r => if n < 0 ∨ 1000 < n.toNatClampNeg then none else mNx (pc + 3) L (.ref D.length :: r) (D ++ [.inl (a, n.toNatClampNeg, .inr (.inr (.inr (.inr (fun _ => none)))))])
    | _ => none) = some (.inl q)) (k : mK p l e R s m args below meth c Q G row.2.2.2.1 d0 s0 q.1 q.2.1 q.2.2.1 q.2.2.2) : mK p l e R s m args below meth c Q G row.2.2.2.1 d0 s0 pc L st D := by
  intro ls H locs cells slots hL hP hS hc hs
  obtain ⟨hx, hb, hml, hown, hts, hE, -, hz, -, -⟩ := C
  obtain ⟨hw, hck⟩ := mLT_at hL0
  have hk := Nat.eq_of_beq_eq_true hk
  subst hk
  simp only [mLck, Bool.and_eq_true, Bool.or_eq_true] at hck
  obtain ⟨hg, ha⟩ := hck
  split at h
  · rename_i n r
    split at h
    · cases h
    · rename_i hn
      obtain rfl := mNx_eq h
      have hn0 : ¬ n < 0 := fun w => hn (Or.inl w)
      have hn1 : n.toNatClampNeg ≤ 1000 := Nat.le_of_not_lt fun w => hn (Or.inr w)
      simp only [List.length_append, List.length_singleton, mSl_app] at hlim hrc hrs
      have hsz : mSl ([.inl (a, n.toNatClampNeg, .inr (.inr (.inr (.inr (fun _ => none)))))] : mHp) = n.toNatClampNeg := rfl
      refine mSized hz hP hS hc fun hH => ?_
      have key : ∀ (Cn : String), mCo a = Cn → va_AO Cn s → (mTys G)[a]? = some (G.2.2.2.1 a, .object Cn) → W p l e R s m args below meth c H locs cells slots Q (F0 m pc ls (.int n :: r.map (mV G))) := by
        intro Cn hCn hAO hTy
        have hcl : (Cond.classLink (mNm row.1) idx Cn).before args s = true := by
          have := hts _ (mTb_gw hw hg)
          rw [← hCn]
          exact this
        refine W.anew (own := mNm row.1) (C := Cn) hx hb hown hcl (va_AO.use hAO) rfl hd rfl hn0 (by omega) (by omega) (by omega) fun cA kA comp f1 f2 f3 f4 => ?_
        generalize hH1 : H.push ({ cls := cA, slots := Array.replicate n.toNatClampNeg .null, vm := .none } : Cell) = H1
        have z1 : H1.size = H.size + 1 := by rw [← hH1, Array.size_push]
        have e1 : H1[H.size]? = some (arrV cA n.toNatClampNeg (fun _ => .null)) := by rw [← hH1, Array.getElem?_push_size, ← arrV_new]
        have o1 : ∀ q : Nat, q < H.size → H1[q]? = H[q]? := fun q hq => by rw [← hH1, Array.getElem?_push, if_neg (Nat.ne_of_lt hq)]
        obtain ⟨-, -, -, -, -, hRA⟩ := (hE.1.2 a _ hTy).2
        have hcA : cA = G.2.2.2.1 a := Option.some.inj (f1.symm.trans hRA)
        subst hcA
        have hD1 := mPushL (E := [.inl (a, n.toNatClampNeg, .inr (.inr (.inr (.inr (fun _ => none)))))]) hP hH o1 (mAt1 e1)
        have k1 := k ls H1 locs (cells + 1) (slots + n.toNatClampNeg) hL hD1 (mPushS hS (by omega) o1) (by simp; omega) (by rw [mSl_app, hsz]; omega)
        simp only [List.map_cons, mV_ref, mAd_lt (G := G) (i := D.length) (by omega)] at k1
        rw [hH]
        exact k1
      rcases ha with ha | ha
      · have ha := Nat.eq_of_beq_eq_true ha
        subst ha
        exact key "EnvyRust$Sheet" rfl hE.2.2.1.1 rfl
      · have ha := Nat.eq_of_beq_eq_true ha
        subst ha
        exact key "java/lang/String" rfl hE.2.2.1.2.1 rfl
  · cases h
theorem mStr_ai : (FieldType.array FieldType.int).toString = "[" ++ FieldType.int.toString := by decide +kernel
theorem mStr_aai : "[[I" = "[" ++ (FieldType.array FieldType.int).toString := by decide +kernel
theorem r_mnewa (C : mCx p R s m args meth c G row d0) (hlim : q.2.2.2.length ≤ 1000000) (hrc : q.2.2.2.length ≤ R.cells + d0) (hrs : mSl q.2.2.2 ≤ R.slots + s0) {kind : Nat} (hk : Nat.beq kind 6 = true) (hL0 : mLT[j]? = some (row.1, idx, kind, a, b, z)) (hd : decode row.2.2.1 pc = .ok (.multianewarray idx 2, 4))
    (h : (match st with
    | .int k :: .int n :: r => if n < 0 ∨ k < 0 ∨ 1000 < n.toNatClampNeg ∨ 1000 < k.toNatClampNeg then none else mNx (pc + 4) L (.ref D.length :: r)
        (D ++ (.inl (3, n.toNatClampNeg, .inr (.inr (.inr (.inr (fun i => if i < n.toNatClampNeg then some (D.length + 1 + i) else none))))) :: List.replicate n.toNatClampNeg (.inl (0, k.toNatClampNeg, .inl (fun _ => 0)))))
    | _ => none) = some (.inl q)) (k : mK p l e R s m args below meth c Q G row.2.2.2.1 d0 s0 q.1 q.2.1 q.2.2.1 q.2.2.2) : mK p l e R s m args below meth c Q G row.2.2.2.1 d0 s0 pc L st D := by
  intro ls H locs cells slots hL hP hS hc hs
  obtain ⟨hx, hb, hml, hown, hts, hE, -, hz, -, -⟩ := C
  obtain ⟨hw, hck⟩ := mLT_at hL0
  have hk := Nat.eq_of_beq_eq_true hk
  subst hk
  split at h
  · rename_i k' n r
    split at h
    · cases h
    · rename_i hn
      obtain rfl := mNx_eq h
      have hn0 : ¬ n < 0 := fun w => hn (Or.inl w)
      have hk0 : ¬ k' < 0 := fun w => hn (Or.inr (Or.inl w))
      have hn1 : n.toNatClampNeg ≤ 1000 := Nat.le_of_not_lt fun w => hn (Or.inr (Or.inr (Or.inl w)))
      have hk1 : k'.toNatClampNeg ≤ 1000 := Nat.le_of_not_lt fun w => hn (Or.inr (Or.inr (Or.inr w)))
      have hsz : mSl ((.inl (3, n.toNatClampNeg, .inr (.inr (.inr (.inr (fun i => if i < n.toNatClampNeg then some (D.length + 1 + i) else none))))) :: List.replicate n.toNatClampNeg (.inl (0, k'.toNatClampNeg, .inl (fun _ => 0)))) : mHp) = n.toNatClampNeg + n.toNatClampNeg * k'.toNatClampNeg := by
        simp [mSl, mSz]
      simp only [List.length_append, List.length_cons, List.length_replicate, mSl_app] at hlim hrc hrs
      rw [hsz] at hrs
      refine mSized hz hP hS hc fun hH => ?_
      have hclink : (Cond.classLink (mNm row.1) idx ("[" ++ (FieldType.array FieldType.int).toString)).before args s = true := by
        have := hts _ (mTb_gw hw hck)
        rw [← mStr_aai]
        exact this
      intro T hT Xs
      obtain ⟨vm₁, cA, comp, -, fA, fC, hO, -, X', step⟩ := Xs.multianewarray2F hx hown hclink (show (Cond.arrayOver (.array .int)).before args s = true from hE.2.2.1.2.2) (hts _ mAC_i) (g := F0 m pc ls (.int k' :: .int n :: r.map (mV G))) rfl (by rw [hb]; exact hd) rfl hn0 hk0 (by omega) (by show k'.toNatClampNeg * 4 ≤ _; omega) (by omega) rfl rfl (by omega) (by omega)
      have hcA : cA = G.2.2.2.1 3 := Option.some.inj (fA.symm.trans (hE.1.2 3 _ rfl).2)
      have hcm : comp = G.2.2.2.1 0 := Option.some.inj (fC.symm.trans (by rw [mStr_ai]; exact (hE.1.2 0 _ rfl).2))
      subst hcA
      subst hcm
      generalize hF : Jvm.Free.Multi.fill (T.setVm vm₁) (G.2.2.2.1 3) (G.2.2.2.1 0) n.toNatClampNeg k'.toNatClampNeg (defaultValue FieldType.int) n.toNatClampNeg = F at X' step
      have hTh : (T.setVm vm₁).heap = H := hT
      obtain ⟨f1, f2, -, -⟩ := Jvm.Free.Multi.fill_facts (T.setVm vm₁) (G.2.2.2.1 3) (G.2.2.2.1 0) n.toNatClampNeg k'.toNatClampNeg (defaultValue FieldType.int) n.toNatClampNeg
      rw [hF, hTh] at f1 f2
      have hold : ∀ x : Nat, x < H.size → F.heap[x]? = H[x]? := fun x hx => by
        have := Jvm.Free.Multi.fill_old (T.setVm vm₁) (G.2.2.2.1 3) (G.2.2.2.1 0) n.toNatClampNeg k'.toNatClampNeg (defaultValue FieldType.int) (a := x) (by rw [hTh]; exact hx) n.toNatClampNeg
        rw [hF, hTh] at this
        exact this
      have hrow : ∀ j : Nat, j < n.toNatClampNeg → F.heap[H.size + 1 + j]? = some (vp_cell (G.2.2.2.1 0) (k'.toNatClampNeg, .inl (fun _ => 0))) := fun j hj => by
        have := Jvm.Free.Multi.fill_inner (T.setVm vm₁) (G.2.2.2.1 3) (G.2.2.2.1 0) n.toNatClampNeg k'.toNatClampNeg (defaultValue FieldType.int) n.toNatClampNeg j hj
        rw [hF, hTh] at this
        rw [this]
        show some ({ cls := _, slots := Array.replicate _ _, vm := .none } : Cell) = _
        rw [arrV_new]
        rfl
      rw [mVr_outer] at f2
      have hD1 : mMS G (D ++ (.inl (3, n.toNatClampNeg, .inr (.inr (.inr (.inr (fun i => if i < n.toNatClampNeg then some (D.length + 1 + i) else none))))) :: List.replicate n.toNatClampNeg (.inl (0, k'.toNatClampNeg, .inl (fun _ => 0))))) F.heap := by
        refine mPushL hP hH hold fun kk cc hkk => ?_
        cases kk with
        | zero =>
          simp only [List.getElem?_cons_zero, Option.some.injEq] at hkk
          subst hkk
          show F.heap[H.size]? = some (arrV (G.2.2.2.1 3) n.toNatClampNeg (fun j => va_rf ((if j < n.toNatClampNeg then some (D.length + 1 + j) else none).map (mAd G))))
          rw [f2]
          refine congrArg (fun f => some (arrV (G.2.2.2.1 3) n.toNatClampNeg f)) (funext fun j => ?_)
          by_cases hj : j < n.toNatClampNeg
          · rw [if_pos hj, if_pos hj, hH, Option.map_some, mAd_lt (by omega)]
            show Value.ref (G.1 + D.length + 1 + j) = Value.ref (G.1 + (D.length + 1 + j))
            rw [show G.1 + D.length + 1 + j = G.1 + (D.length + 1 + j) by omega]
          · rw [if_neg hj, if_neg hj]; rfl
        | succ kk =>
          simp only [List.getElem?_cons_succ] at hkk
          rw [List.getElem?_replicate] at hkk
          split at hkk
          case isFalse => cases hkk
          rename_i hlt
          cases hkk
          have := hrow kk hlt
          rw [show H.size + 1 + kk = H.size + (kk + 1) by omega] at this
          exact this
      have k1 := k ls F.heap locs (cells + 1 + n.toNatClampNeg) (slots + n.toNatClampNeg + n.toNatClampNeg * k'.toNatClampNeg) hL hD1 (mPushS hS (by rw [f1]; omega) hold) (by simp; omega) (by rw [mSl_app, hsz]; omega)
      simp only [List.map_cons, mV_ref, mAd_lt (G := G) (i := D.length) (by omega)] at k1
      obtain ⟨t, a1, b1⟩ := k1 F rfl X'
      refine ⟨t, step t ?_, b1⟩
      have e9 : T.heap.size = G.1 + D.length := by rw [hT, hH]
      rw [e9]
      exact a1
  · cases h
end MMK
end
section
/-! ===== calls ===== -/
theorem mWt_map (G : mG) (r : List Value) : ((r.map (mV G)).map fun v => v.category).sum = mWt r := by
  unfold mWt
  rw [List.map_map]
  congr 1
  exact List.map_congr_left fun v _ => mV_cat G v
def mStrLenB : ByteArray := prog_9_method_54_code
def mStrChrB : ByteArray := prog_9_method_56_code
/-- the texts' own members: what they answer; they change nothing -/
noncomputable def mSO (l : Launch) (G : mG) : Prop :=
  (∀ t, t < 15 → Met l mStrLen (Cond.code mStrLen prog_9_method_54_code 1 (some .int) :: mGW) ({ frames := 1, cells := 0, slots := 0, locals := 20 }) (va_Pc [.ref (G.2.1 t)] (fun U => mE G U U.heap)) (fun _ st oc u => oc = .returned (some (.int (nI (mTx.getD t []).length))) ∧ u.heap = st.heap) 0 0 (fun _ => False)) ∧
  (∀ t, t < 15 → ∀ k : Int32, vp_in k (mTx.getD t []).length → Met l mStrChr (Cond.code mStrChr prog_9_method_56_code 2 (some .char) :: mGW) ({ frames := 4, cells := 0, slots := 0, locals := 100 }) (va_Pc [.ref (G.2.1 t), .int k] (fun U => mE G U U.heap)) (fun _ st oc u => oc = .returned (some (.int (nI ((mTx.getD t []).getD k.toNatClampNeg 0)))) ∧ u.heap = st.heap) 0 0 (fun _ => False))
def mPc (G : mG) (as : List Value) (D : mHp) : Array Value → State → Prop := va_Pc (as.map (mV G)) (fun U => U.heap.size = G.1 + D.length ∧ mMS G D U.heap ∧ mE G U U.heap)
def mQc (G : mG) (r : Option Value) (D' : mHp) : Array Value → State → Outcome → State → Prop := fun _ st oc t => oc = .returned (r.map (mV G)) ∧ mMS G D' t.heap ∧ va_F (mA G) st t
noncomputable def mMt (l : Launch) (G : mG) (row : mRow) (as : List Value) (D : mHp) (r : Option Value) (D' : mHp) : Prop :=
  Met l row.2.1 (Cond.code row.2.1 row.2.2.1 row.2.2.2.1 row.2.2.2.2.1 :: mGW) ({ frames := row.2.2.2.2.2.1, cells := D'.length - D.length, slots := mSl D' - mSl D, locals := row.2.2.2.2.2.2 }) (mPc G as D) (mQc G r D') (D'.length - D.length) (mSl D' - mSl D) (mA G)
theorem mStrLen_m : mMet mIdLen = some (8, mStrLen, prog_9_method_54_code, 1, some .int, 0, 0) := rfl
theorem mStrChr_m : mMet mIdChr = some (8, mStrChr, prog_9_method_56_code, 2, some .char, 0, 0) := rfl
theorem mStrLen_c : Cond.code mStrLen prog_9_method_54_code 1 (some .int) ∈ tables_1 := mM_code mStrLen_m (by decide)
theorem mStrChr_c : Cond.code mStrChr prog_9_method_56_code 2 (some .char) ∈ tables_1 := mM_code mStrChr_m (by decide)
theorem mStr_w : Cond.instanceMethod mStrLen ∈ mGW ∧ Cond.selects "java/lang/String" mStrLen mStrLen ∈ mGW ∧ Cond.instanceMethod mStrChr ∈ mGW ∧ Cond.selects "java/lang/String" mStrChr mStrChr ∈ mGW ∧ Cond.initialized "java/lang/String" ∈ mGW :=
  ⟨mTb_gw (by decide +kernel) rfl, mTb_gw (by decide +kernel) rfl, mTb_gw (by decide +kernel) rfl, mTb_gw (by decide +kernel) rfl, mTb_gw (by decide +kernel) rfl⟩
theorem mGood_c {w : Cond} (h : w ∈ tables_1) (hg : goodWord w = true) : GoodIn mGW (w :: mGW) := fun v hv => by
  rcases List.mem_cons.mp hv with rfl | hv
  · exact ⟨mTb_gw h hg, good_of_word hg⟩
  · exact mGW_good v hv
section MCL
variable {p : Program} {l : Launch} {e : Env} {R : Room} {s : State} {m : MethodId} {args : Array Value} {below : List Frame} {meth : Method} {c : Code} {Q : State → Prop} {G : mG} {row : mRow} {d0 s0 : Nat} {pc : Nat} {L : mLoc} {st : List Value} {D : mHp} {q : Nat × mLoc × List Value × mHp} {j a b : Nat} {z : Int} {idx : Nat} {H : Heap} {locs : List Loc} {cells slots : Nat} {ls : Array Slot}
theorem c_obj (C : mCx p R s m args meth c G row d0) (hr : mRm row 20 a = true) (hL0 : mLT[j]? = some (row.1, idx, 20, a, b, z)) (hd : decode row.2.2.1 pc = .ok (.invokespecial idx, 3))
    (h : (match st with
    | .ref _ :: r => cond (Nat.ble (mWt r) 8) (mNx (pc + 3) L r D) none
    | _ => none) = some (.inl q)) (k : mK p l e R s m args below meth c Q G row.2.2.2.1 d0 s0 q.1 q.2.1 q.2.2.1 q.2.2.2) : mK p l e R s m args below meth c Q G row.2.2.2.1 d0 s0 pc L st D := by
  intro ls H locs cells slots hL hP hS hc hs
  obtain ⟨hx, hb, hml, hown, hts, hE, -, hz, hfr, hlo⟩ := C
  obtain ⟨hw, hck⟩ := mLT_at hL0
  simp only [mRm, Bool.and_eq_true] at hr
  have r1 := Nat.le_of_ble_eq_true hr.1
  have r2 := Nat.le_of_ble_eq_true hr.2
  split at h
  · rename_i i r
    obtain ⟨h1, h2⟩ := mCond_eq h
    obtain rfl := mNx_eq h2
    have h1 := Nat.le_of_ble_eq_true h1
    have hwt := mWt_map G r
    refine W.objInit (a := mAd G i) (rest := r.map (mV G)) hx hb hown (hts _ (mTb_gw hw hck)) (hts _ mOI_i) (hts _ mOI_c) rfl (hL.2.1.trans hml.symm) rfl hd (by omega) (by show 2 * 0 + _ + 12 ≤ _; omega) ?_
    exact k ls H locs cells slots hL hP hS hc hs
  · cases h
theorem c_cpy (C : mCx p R s m args meth c G row d0) (hlim : D.length ≤ 1000000) (hr : mRm row 21 a = true) (hL0 : mLT[j]? = some (row.1, idx, 21, a, b, z)) (hd : decode row.2.2.1 pc = .ok (.invokestatic idx, 3))
    (h : (match st with
    | .int n :: .int dp :: .ref i1 :: .int sp :: .ref i0 :: r => match D[i0]?, D[i1]? with
      | some (.inl (t0, n0, .inl f)), some (.inl (t1, n1, .inl g)) => cond (Nat.beq t0 0 && Nat.beq t1 0 && !decide (sp < 0) && !decide (dp < 0) && !decide (n < 0) && Nat.ble (sp.toNatClampNeg + n.toNatClampNeg) n0 && Nat.ble (dp.toNatClampNeg + n.toNatClampNeg) n1 && Nat.ble (mWt r) 8)
          (mNx (pc + 3) L r (D.set i1 (.inl (t1, n1, .inl (va_cpy f g sp.toNatClampNeg dp.toNatClampNeg n.toNatClampNeg))))) none
      | _, _ => none
    | _ => none) = some (.inl q)) (k : mK p l e R s m args below meth c Q G row.2.2.2.1 d0 s0 q.1 q.2.1 q.2.2.1 q.2.2.2) : mK p l e R s m args below meth c Q G row.2.2.2.1 d0 s0 pc L st D := by
  intro ls H locs cells slots hL hP hS hc hs
  obtain ⟨hx, hb, hml, hown, hts, hE, -, hz, hfr, hlo⟩ := C
  obtain ⟨hw, hck⟩ := mLT_at hL0
  simp only [mRm, Bool.and_eq_true] at hr
  have r1 := Nat.le_of_ble_eq_true hr.1
  have r2 := Nat.le_of_ble_eq_true hr.2
  split at h
  · rename_i n dp i1 sp i0 r
    split at h
    · rename_i t0 n0 f t1 n1 g hD0 hD1
      obtain ⟨h1, h2⟩ := mCond_eq h
      obtain rfl := mNx_eq h2
      simp only [Bool.and_eq_true, Bool.not_eq_true', decide_eq_false_iff_not] at h1
      obtain ⟨⟨⟨⟨⟨⟨⟨e0, e1⟩, g1⟩, g2⟩, g3⟩, g4⟩, g5⟩, g6⟩ := h1
      have e0 := Nat.eq_of_beq_eq_true e0
      have e1 := Nat.eq_of_beq_eq_true e1
      subst e0
      subst e1
      have hwt := mWt_map G r
      have g6 := Nat.le_of_ble_eq_true g6
      have hnf := mNW_w
      show W p l e R s m args below meth c H locs cells slots Q (F0 m pc ls (.int n :: .int dp :: .ref (mAd G i1) :: .int sp :: .ref (mAd G i0) :: r.map (mV G)))
      rw [mAd_lt (Nat.lt_of_lt_of_le (mLt_of hD0) hlim), mAd_lt (Nat.lt_of_lt_of_le (mLt_of hD1) hlim)]
      exact va_copyi (tys := mTys G) (ty := .int) hx hb (hml.trans hL.2.1.symm) hown (hts _ (mTb_gw hw hck)) (hts _ mCP_n) (hts _ mCP_s) (hts _ mCP_i) hE.1 hP (mW_D G D) hS i0 i1 0 0 (mW_at hD0) (mW_at hD1) rfl rfl rfl g1 g2 g3 (Nat.le_of_ble_eq_true g4) (Nat.le_of_ble_eq_true g5) (fun _ _ => rfl) (by omega) (by omega) hd
        (fun H1 locs1 hP1 _ hS1 => mSet_W (c1 := .inl (0, n1, .inl (va_cpy f g sp.toNatClampNeg dp.toNatClampNeg n.toNatClampNeg))) hD1 rfl hL hc hs k hP1 hS1)
    · cases h
  · cases h
theorem c_max (C : mCx p R s m args meth c G row d0) (hrc : D.length ≤ R.cells + d0) (hrs : mSl D ≤ R.slots + s0) (hr : mRm row 24 a = true) (hL0 : mLT[j]? = some (row.1, idx, 24, a, b, z)) (hd : decode row.2.2.1 pc = .ok (.invokestatic idx, 3))
    (h : (match st with
    | .int y :: .int x :: r => cond (Nat.ble (mWt r) 8) (mNx (pc + 3) L (.int (if x < y then y else x) :: r) D) none
    | _ => none) = some (.inl q)) (k : mK p l e R s m args below meth c Q G row.2.2.2.1 d0 s0 q.1 q.2.1 q.2.2.1 q.2.2.2) : mK p l e R s m args below meth c Q G row.2.2.2.1 d0 s0 pc L st D := by
  intro ls H locs cells slots hL hP hS hc hs
  obtain ⟨hx, hb, hml, hown, hts, hE, -, hz, hfr, hlo⟩ := C
  obtain ⟨hw, hck⟩ := mLT_at hL0
  simp only [mRm, Bool.and_eq_true] at hr
  have r1 := Nat.le_of_ble_eq_true hr.1
  have r2 := Nat.le_of_ble_eq_true hr.2
  split at h
  · rename_i y x r
    obtain ⟨h1, h2⟩ := mCond_eq h
    obtain rfl := mNx_eq h2
    have h1 := Nat.le_of_ble_eq_true h1
    have hwt := mWt_map G r
    exact va_mmax hx hb (hml.trans hL.2.1.symm) hown (hts _ (mTb_gw hw hck)) (hts _ mMX_s) (hts _ mMM_i) (hts _ mMX_c) (by omega) (by omega) (by omega) (by omega) hd (k ls H locs cells slots hL hP hS hc hs)
  · cases h
theorem c_min (C : mCx p R s m args meth c G row d0) (hrc : D.length ≤ R.cells + d0) (hrs : mSl D ≤ R.slots + s0) (hr : mRm row 25 a = true) (hL0 : mLT[j]? = some (row.1, idx, 25, a, b, z)) (hd : decode row.2.2.1 pc = .ok (.invokestatic idx, 3))
    (h : (match st with
    | .int y :: .int x :: r => cond (Nat.ble (mWt r) 8) (mNx (pc + 3) L (.int (if y < x then y else x) :: r) D) none
    | _ => none) = some (.inl q)) (k : mK p l e R s m args below meth c Q G row.2.2.2.1 d0 s0 q.1 q.2.1 q.2.2.1 q.2.2.2) : mK p l e R s m args below meth c Q G row.2.2.2.1 d0 s0 pc L st D := by
  intro ls H locs cells slots hL hP hS hc hs
  obtain ⟨hx, hb, hml, hown, hts, hE, -, hz, hfr, hlo⟩ := C
  obtain ⟨hw, hck⟩ := mLT_at hL0
  simp only [mRm, Bool.and_eq_true] at hr
  have r1 := Nat.le_of_ble_eq_true hr.1
  have r2 := Nat.le_of_ble_eq_true hr.2
  split at h
  · rename_i y x r
    obtain ⟨h1, h2⟩ := mCond_eq h
    obtain rfl := mNx_eq h2
    have h1 := Nat.le_of_ble_eq_true h1
    have hwt := mWt_map G r
    exact va_mmin hx hb (hml.trans hL.2.1.symm) hown (hts _ (mTb_gw hw hck)) (hts _ mMN_s) (hts _ mMM_i) (hts _ mMN_c) (by omega) (by omega) (by omega) (by omega) hd (k ls H locs cells slots hL hP hS hc hs)
  · cases h
theorem m_run0 {v : Value} {st0 rest : List Value} (run : va_Run p l e R s m args below meth c H locs cells slots 0 0 (F0 m pc ls st0) rest (fun st oc t => oc = .returned (some v) ∧ t.heap = st.heap) (fun _ => False)) (k : W p l e R s m args below meth c H locs cells slots Q (F0 m (pc + 3) ls (v :: rest))) : W p l e R s m args below meth c H locs cells slots Q (F0 m pc ls st0) := by
  intro T hT X
  obtain ⟨v', st₀, t, T', L', h0, X', hL', e1, e2, ⟨hv, hh⟩, st⟩ := run T hT X
  cases hv
  have hLn : L' = [] := List.eq_nil_iff_forall_not_mem.mpr fun q hq => hL' q hq
  subst hLn
  rw [List.append_nil] at X'
  obtain ⟨t2, a1, b1⟩ := k T' (by rw [e1, hh, h0]) X'
  exact ⟨t2, st t2 a1, b1⟩
theorem mChr_eq {i : Nat} {tx : List Nat} (h : mChr i = some tx) : ∃ t, t < 15 ∧ i = 1000000 + t ∧ tx = mTx.getD t [] := by
  unfold mChr at h
  obtain ⟨h1, h2⟩ := mCond_eq h
  have h1 := Nat.le_of_ble_eq_true h1
  have hl : mTx.length = 15 := by decide +kernel
  have := (List.getElem?_eq_some_iff.mp h2).1
  refine ⟨i - 1000000, by omega, by omega, ?_⟩
  rw [List.getD_eq_getElem?_getD, h2]
  rfl
theorem mStr_recv {t : Nat} (hE : mE G s s.heap) (ht : t < 15) (hS : va_S (mA G) s.heap H locs) : ∃ cell : Cell, H[G.2.1 t]? = some cell ∧ cell.vm.isStatics = false ∧ s.vm.findClass "java/lang/String" = some cell.cls := by
  obtain ⟨cell, h1, h2, h3, -⟩ := (hE.2.2.2.1 t ht).1.kept hS.2.1
  exact ⟨cell, h1, h2, h3⟩
theorem c_len (HS : mSO l G) (C : mCx p R s m args meth c G row d0) (hrc : D.length ≤ R.cells + d0) (hrs : mSl D ≤ R.slots + s0) (hr : mRm row 22 a = true) (hL0 : mLT[j]? = some (row.1, idx, 22, a, b, z)) (hd : decode row.2.2.1 pc = .ok (.invokevirtual idx, 3))
    (h : (match st with
    | .ref i :: r => match mChr i with
      | some tx => cond (Nat.ble (mWt r) 8) (mNx (pc + 3) L (.int (nI tx.length) :: r) D) none
      | none => none
    | _ => none) = some (.inl q)) (k : mK p l e R s m args below meth c Q G row.2.2.2.1 d0 s0 q.1 q.2.1 q.2.2.1 q.2.2.2) : mK p l e R s m args below meth c Q G row.2.2.2.1 d0 s0 pc L st D := by
  intro ls H locs cells slots hL hP hS hc hs
  obtain ⟨hx, hb, hml, hown, hts, hE, -, hz, hfr, hlo⟩ := C
  obtain ⟨hw, hck⟩ := mLT_at hL0
  simp only [mRm, Bool.and_eq_true] at hr
  have r1 := Nat.le_of_ble_eq_true hr.1
  have r2 := Nat.le_of_ble_eq_true hr.2
  split at h
  · rename_i i r
    split at h
    · rename_i tx htx
      obtain ⟨h1, h2⟩ := mCond_eq h
      obtain rfl := mNx_eq h2
      obtain ⟨t, ht, rfl, rfl⟩ := mChr_eq htx
      have h1 := Nat.le_of_ble_eq_true h1
      have hwt := mWt_map G r
      have k1 := k ls H locs cells slots hL hP hS hc hs
      simp only [List.map_cons, mV_ref, mAd_tx]
      refine m_run0 (v := .int (nI (mTx.getD t []).length)) (rest := r.map (mV G)) (va_runV (As := []) (C := "java/lang/String") (n := 0) (Ts := mGW) ⟨hx, hb, hml, hown, hts⟩ (HS.1 t ht)
        ⟨⟨rfl, rfl, by show 1 + 1 ≤ _; omega, by show 8 + (1 + 11) + 20 ≤ _; omega, pay_in hts (mGood_c mStrLen_c rfl), List.mem_cons_self, hts _ (mTb_gw mStrLen_c rfl), hts _ mStr_w.2.2.2.2, ⟨by decide +kernel, by decide +kernel⟩, fun sig hsig => by
          have h9 : (parseMethodDescriptor mStrLen.desc).map (fun d => d.parameters.length) = some 0 := by decide +kernel
          rw [hsig] at h9
          exact (Option.some.inj h9).symm, hts _ (mTb_gw hw hck)⟩, hts _ mStr_w.1, hts _ mStr_w.2.1⟩
        ⟨fun a U g mk hq => ⟨hq.1, mE_calling hq.2⟩, mStr_recv hE ht hS, fun U hU hW => ⟨rfl, mE_call hE hW hU hS⟩⟩ rfl rfl hL.2.1 rfl (lv_room (by rw [hwt]; exact h1)) hd ⟨by omega, by omega⟩) k1
    · cases h
  · cases h
theorem c_chr (HS : mSO l G) (C : mCx p R s m args meth c G row d0) (hrc : D.length ≤ R.cells + d0) (hrs : mSl D ≤ R.slots + s0) (hr : mRm row 23 a = true) (hL0 : mLT[j]? = some (row.1, idx, 23, a, b, z)) (hd : decode row.2.2.1 pc = .ok (.invokevirtual idx, 3))
    (h : (match st with
    | .int k :: .ref i :: r => match mChr i with
      | some tx => cond (Nat.ble (mWt r) 8 && !mOut k tx.length) (mNx (pc + 3) L (.int (nI (tx.getD k.toNatClampNeg 0)) :: r) D) none
      | none => none
    | _ => none) = some (.inl q)) (k : mK p l e R s m args below meth c Q G row.2.2.2.1 d0 s0 q.1 q.2.1 q.2.2.1 q.2.2.2) : mK p l e R s m args below meth c Q G row.2.2.2.1 d0 s0 pc L st D := by
  intro ls H locs cells slots hL hP hS hc hs
  obtain ⟨hx, hb, hml, hown, hts, hE, -, hz, hfr, hlo⟩ := C
  obtain ⟨hw, hck⟩ := mLT_at hL0
  simp only [mRm, Bool.and_eq_true] at hr
  have r1 := Nat.le_of_ble_eq_true hr.1
  have r2 := Nat.le_of_ble_eq_true hr.2
  split at h
  · rename_i kk i r
    split at h
    · rename_i tx htx
      obtain ⟨h1, h2⟩ := mCond_eq h
      obtain rfl := mNx_eq h2
      obtain ⟨t, ht, rfl, rfl⟩ := mChr_eq htx
      rw [Bool.and_eq_true] at h1
      have h3 := Nat.le_of_ble_eq_true h1.1
      have hin := mOut_in h1.2
      have hwt := mWt_map G r
      have k1 := k ls H locs cells slots hL hP hS hc hs
      simp only [List.map_cons, mV_ref, mAd_tx]
      refine m_run0 (v := .int (nI ((mTx.getD t []).getD kk.toNatClampNeg 0))) (rest := r.map (mV G)) (va_runV (As := [.int kk]) (C := "java/lang/String") (n := 1) (Ts := mGW) ⟨hx, hb, hml, hown, hts⟩ (HS.2 t ht kk hin)
        ⟨⟨rfl, rfl, by show 4 + 1 ≤ _; omega, by show 8 + (2 + 11) + 100 ≤ _; omega, pay_in hts (mGood_c mStrChr_c rfl), List.mem_cons_self, hts _ (mTb_gw mStrChr_c rfl), hts _ mStr_w.2.2.2.2, ⟨by decide +kernel, by decide +kernel⟩, fun sig hsig => by
          have h9 : (parseMethodDescriptor mStrChr.desc).map (fun d => d.parameters.length) = some 1 := by decide +kernel
          rw [hsig] at h9
          exact (Option.some.inj h9).symm, hts _ (mTb_gw hw hck)⟩, hts _ mStr_w.2.2.1, hts _ mStr_w.2.2.2.1⟩
        ⟨fun a U g mk hq => ⟨hq.1, mE_calling hq.2⟩, mStr_recv hE ht hS, fun U hU hW => ⟨rfl, mE_call hE hW hU hS⟩⟩ rfl rfl hL.2.1 rfl (lv_room (by rw [hwt]; exact h3)) hd ⟨by omega, by omega⟩) k1
    · cases h
  · cases h
end MCL
end
section
/-! ===== calls of the claim's own methods, returns, and the simulation ===== -/
noncomputable def mKx (q : mLnk) : Bool := match q.2.2.1 with
  | 12 => mIS.any fun x => Nat.beq x.2.1 q.2.2.2.1 && Nat.beq x.2.2 1
  | 13 => mIS.any fun x => Nat.beq x.2.1 q.2.2.2.1 && Nat.beq x.2.2 1
  | 10 => (mIS.any fun x => Nat.beq x.2.1 q.2.2.2.1 && Nat.beq x.2.2 0) && (mSE1.any (fun x => Nat.beq x.2 q.2.2.2.1) || mSE2.any (fun x => Nat.beq x.2 q.2.2.2.1))
  | 11 => (mIS.any fun x => Nat.beq x.2.1 q.2.2.2.1 && Nat.beq x.2.2 0) && (mSE1.any (fun x => Nat.beq x.2 q.2.2.2.1) || mSE2.any (fun x => Nat.beq x.2 q.2.2.2.1))
  | 14 => mIS.any fun x => Nat.beq x.2.1 q.2.2.2.1 && Nat.beq x.2.2 0
  | 15 => mIS.any fun x => Nat.beq x.2.1 q.2.2.2.1 && Nat.beq x.2.2 0
  | _ => true
theorem mKx_ck : mLT.all mKx = true := by decide +kernel
theorem mGW_wd : (mIS.all (fun x => goodWord (.static (mY x.2.1)) && goodWord (.instanceMethod (mY x.2.1)) && goodWord (.selects (mY x.2.1).cls (mY x.2.1) (mY x.2.1)))) = true := by decide +kernel
theorem mIS_static {a : Nat} (h : (mIS.any fun x => Nat.beq x.2.1 a && Nat.beq x.2.2 1) = true) : Cond.static (mY a) ∈ mGW := by
  obtain ⟨x, hx, h1⟩ := List.any_eq_true.mp h
  rw [Bool.and_eq_true] at h1
  have hm := mWalk_spec mIS_wk _ (List.mem_map.mpr ⟨x, hx, rfl⟩)
  have hg := List.all_eq_true.mp mGW_wd x hx
  simp only [h1.2, cond_true] at hm
  rw [Nat.eq_of_beq_eq_true h1.1] at hm hg
  simp only [Bool.and_eq_true] at hg
  exact mTb_gw hm hg.1.1
theorem mIS_inst {a : Nat} (h : (mIS.any fun x => Nat.beq x.2.1 a && Nat.beq x.2.2 0) = true) : Cond.instanceMethod (mY a) ∈ mGW ∧ goodWord (.selects (mY a).cls (mY a) (mY a)) = true := by
  obtain ⟨x, hx, h1⟩ := List.any_eq_true.mp h
  rw [Bool.and_eq_true] at h1
  have hm := mWalk_spec mIS_wk _ (List.mem_map.mpr ⟨x, hx, rfl⟩)
  have hg := List.all_eq_true.mp mGW_wd x hx
  have e0 := Nat.eq_of_beq_eq_true h1.2
  simp only [e0, show Nat.beq 0 1 = false from rfl, cond_false] at hm
  rw [Nat.eq_of_beq_eq_true h1.1] at hm hg
  simp only [Bool.and_eq_true] at hg
  exact ⟨mTb_gw hm hg.1.2, hg.2⟩
theorem mSE_in {a : Nat} (hg : goodWord (.selects (mY a).cls (mY a) (mY a)) = true) (h : (mSE1.any (fun x => Nat.beq x.2 a) || mSE2.any (fun x => Nat.beq x.2 a)) = true) : Cond.selects (mY a).cls (mY a) (mY a) ∈ mGW := by
  rw [Bool.or_eq_true] at h
  rcases h with h | h
  · obtain ⟨x, hx, h1⟩ := List.any_eq_true.mp h
    have hm := mWalk_spec mSE1_wk _ (List.mem_map.mpr ⟨x, hx, rfl⟩)
    simp only [Nat.eq_of_beq_eq_true h1] at hm
    exact List.mem_filter.mpr ⟨List.mem_append_left _ hm, hg⟩
  · obtain ⟨x, hx, h1⟩ := List.any_eq_true.mp h
    have hm := mWalk_spec mSE2_wk _ (List.mem_map.mpr ⟨x, hx, rfl⟩)
    simp only [Nat.eq_of_beq_eq_true h1] at hm
    exact mTb_gw hm hg
theorem mRm_at {row : mRow} {kind a : Nat} (hk : 10 ≤ kind ∧ kind ≤ 15) (h : mRm row kind a = true) : ∃ r : mRow, mMet a = some r ∧ r.2.2.2.2.2.1 + 1 ≤ row.2.2.2.2.2.1 ∧ 8 + (r.2.2.2.1 + 11) + r.2.2.2.2.2.2 ≤ row.2.2.2.2.2.2 ∧ r.1 ≠ 5 ∧ Nat.ble r.1 6 = true := by
  have key : (match mMet a with
    | some r => Nat.ble (r.2.2.2.2.2.1 + 1) row.2.2.2.2.2.1 && Nat.ble (8 + (r.2.2.2.1 + 11) + r.2.2.2.2.2.2) row.2.2.2.2.2.2 && !Nat.beq r.1 5 && Nat.ble r.1 6
    | none => false) = true := by
    rcases (by omega : kind = 10 ∨ kind = 11 ∨ kind = 12 ∨ kind = 13 ∨ kind = 14 ∨ kind = 15) with rfl | rfl | rfl | rfl | rfl | rfl <;> exact h
  cases hm : mMet a with
  | none => rw [hm] at key; cases key
  | some r =>
    rw [hm] at key
    simp only [Bool.and_eq_true, Bool.not_eq_true'] at key
    refine ⟨r, rfl, Nat.le_of_ble_eq_true key.1.1.1, Nat.le_of_ble_eq_true key.1.1.2, fun e => ?_, key.2⟩
    rw [e] at key
    exact absurd key.1.2 (by decide)
theorem mIn_good (cls : String) : goodWord (.initialized cls) = true := rfl
theorem mCode_good (y : MethodName) (b : ByteArray) (n : Nat) (r : Option FieldType) : goodWord (.code y b n r) = true := rfl
theorem mE_cl {G : mG} {D : mHp} {H : Heap} {i a : Nat} {fs : List Value} (hP : mMS G D H) (h : D[i]? = some (.inr (a, fs))) : a < 5 := by
  obtain ⟨r, hr, -⟩ := hP i _ (mW_at h)
  have := (List.getElem?_eq_some_iff.mp hr).1
  exact this
section MSM
variable {p : Program} {l : Launch} {e : Env} {R : Room} {s : State} {m : MethodId} {args : Array Value} {below : List Frame} {meth : Method} {c : Code} {Q : State → Prop} {G : mG} {row : mRow} {d0 s0 : Nat} {pc : Nat} {L : mLoc} {st : List Value} {D D' : mHp} {j a b : Nat} {z : Int} {idx : Nat} {H : Heap} {locs : List Loc} {cells slots : Nat} {ls : Array Slot} {r : Option Value}
theorem m_runC {st0 rest : List Value} {av : Array Value} (hL : mLR G ls row.2.2.2.1 L) (hle : D.length ≤ D'.length) (hls : mSl D ≤ mSl D') (hS : va_S (mA G) s.heap H locs) (hc : cells + d0 = D.length) (hs : slots + s0 = mSl D)
    (run : va_Run p l e R s m args below meth c H locs cells slots (D'.length - D.length) (mSl D' - mSl D) (F0 m pc ls st0) (rest.map (mV G)) (mQc G r D' av) (mA G))
    (k : mK p l e R s m args below meth c Q G row.2.2.2.1 d0 s0 (pc + 3) L (r.toList ++ rest) D') : W p l e R s m args below meth c H locs cells slots Q (F0 m pc ls st0) := by
  intro T hT X
  obtain ⟨v, st₀, t, T', L', h0, X', hL', e1, e2, ⟨hv, hP', hz, hk⟩, st⟩ := run T hT X
  rw [h0] at hz hk
  have k1 := k ls T'.heap (locs ++ L') (cells + (D'.length - D.length)) (slots + (mSl D' - mSl D)) hL (by rw [e1]; exact hP') ⟨Nat.le_trans hS.1 (by rw [e1]; exact hz), fun q h1 h2 => by
      rw [e1, hk q (Nat.lt_of_lt_of_le h1 hS.1) h2]
      exact hS.2.1 q h1 h2, fun q hq => by
      rcases List.mem_append.mp hq with h | h
      · exact hS.2.2 q h
      · exact hL' q h⟩ (by omega) (by omega)
  have hv2 : v = r.map (mV G) := by
    cases hv
    rfl
  have e9 : (r.toList ++ rest).map (mV G) = v.toList ++ rest.map (mV G) := by
    rw [hv2, List.map_append]
    cases r <;> rfl
  rw [e9] at k1
  obtain ⟨t2, a1, b1⟩ := k1 T' rfl X'
  exact ⟨t2, st t2 a1, b1⟩
theorem mPc_blind (as : List Value) (D : mHp) : FrameBlind (mPc G as D) := fun _ _ _ _ h => ⟨h.1, h.2.1, h.2.2.1, mE_calling h.2.2.2⟩
theorem mRcv_eq {as : List Value} {mid : Nat} {rr : mRow} (h : mRcv D as mid = true) (hr : mMet mid = some rr) : ∃ (i : Nat) (As : List Value) (fs : List Value), as = .ref i :: As ∧ D[i]? = some (.inr (rr.1, fs)) := by
  unfold mRcv at h
  split at h
  · rename_i i As
    split at h
    · rename_i c fs r' hD hr'
      rw [hr] at hr'
      cases hr'
      rw [Nat.eq_of_beq_eq_true h] at hD
      exact ⟨i, As, fs, rfl, hD⟩
    · cases h
  · cases h
theorem mStk {b : Nat} {st : List Value} : st.map (mV G) = (((st.take b).reverse).map (mV G)).reverse ++ (st.drop b).map (mV G) := by
  rw [← List.map_reverse, List.reverse_reverse, ← List.map_append, List.take_append_drop]
theorem c_static {kind : Nat} (hk : kind = 12 ∨ kind = 13) (C : mCx p R s m args meth c G row d0) (hrc : D'.length ≤ R.cells + d0) (hrs : mSl D' ≤ R.slots + s0) (hle : D.length ≤ D'.length) (hls : mSl D ≤ mSl D')
    (hr : mRm row kind a = true) (hL0 : mLT[j]? = some (row.1, idx, kind, a, b, z)) (hd : decode row.2.2.1 pc = .ok (.invokestatic idx, 3)) (hb1 : b ≤ st.length) (hwt : mWt (st.drop b) ≤ 8)
    (hM : ∀ row' : mRow, mMet a = some row' → mMt l G row' (st.take b).reverse D r D')
    (k : mK p l e R s m args below meth c Q G row.2.2.2.1 d0 s0 (pc + 3) L (r.toList ++ st.drop b) D') : mK p l e R s m args below meth c Q G row.2.2.2.1 d0 s0 pc L st D := by
  intro ls H locs cells slots hL hP hS hc hs
  obtain ⟨hx, hb, hml, hown, hts, hE, -, hz, hfr, hlo⟩ := C
  obtain ⟨hw, hck⟩ := mLT_at hL0
  have hks := List.all_eq_true.mp mKx_ck _ (List.mem_of_getElem? hL0)
  obtain ⟨rr, hrr, r1, r2, r3, r4⟩ := mRm_at (by omega) hr
  obtain ⟨-, hcl, hne, hin, -⟩ := mM_at hrr r4 r3
  have hY := mY_of hrr
  have hcode := mM_code hrr r3
  have hMt := hM rr hrr
  refine mSized hz hP hS hc fun hH => ?_
  refine m_runC hL hle hls hS hc hs (rest := st.drop b) (av := ((st.take b).reverse.map (mV G)).toArray) ?_ k
  have hws : ∀ w ∈ (Cond.code rr.2.1 rr.2.2.1 rr.2.2.2.1 rr.2.2.2.2.1 :: mGW), ∀ (a' : Array Value) (U : State), s.WarmedH U.vm → w.before a' U = true := pay_in hts (mGood_c hcode rfl)
  have hpre : PreS s H (mPc G (st.take b).reverse D) ((st.take b).reverse.map (mV G)) := ⟨mPc_blind _ _, fun U hU hW => ⟨rfl, by rw [hU]; exact hH, by rw [hU]; exact hP, mE_call hE hW hU hS⟩⟩
  have hlen9 : ((st.take b).reverse.map (mV G)).length = b := by simp [Nat.min_eq_left hb1]
  rcases hk with rfl | rfl
  · simp only [mLck, Bool.and_eq_true, decide_eq_true_eq] at hck
    have hst := mIS_static hks
    rw [hY] at hck hst
    have hlk : (Cond.methodLink (mNm row.1) idx rr.2.1).before args s = true := by rw [← hY]; exact hts _ (mTb_gw hw hck.1)
    exact va_runS (As := (st.take b).reverse.map (mV G)) (n := b) (Ts := mGW) ⟨hx, hb, hml, hown, hts⟩ hMt
      ⟨⟨rfl, rfl, by show rr.2.2.2.2.2.1 + 1 ≤ R.frames; omega, by show 8 + (rr.2.2.2.1 + 11) + rr.2.2.2.2.2.2 ≤ R.locals; omega, hws, List.mem_cons_self, hts _ (mTb_gw hcode rfl), hts _ (mTb_gw hin rfl), hne, fun sig hsig => by
        have h9 := hck.2
        rw [hsig] at h9
        exact (Option.some.inj h9).symm, hlk⟩, hts _ hst⟩ hpre rfl hlen9 hL.2.1 (mStk) (lv_room (by rw [mWt_map]; exact hwt)) hd ⟨by omega, by omega⟩
  · simp only [mLck, Bool.and_eq_true, decide_eq_true_eq] at hck
    have hst := mIS_static hks
    rw [hY] at hck hst
    have hlk : (Cond.methodLinkNest (mNm row.1) idx rr.2.1 "EnvyRust").before args s = true := by rw [← hY]; exact va_Nw.use rfl (hE.2.1 _ (mTb_nw hw hck.1))
    exact va_runSN (As := (st.take b).reverse.map (mV G)) (n := b) (Ts := mGW) (host := "EnvyRust") ⟨hx, hb, hml, hown, hts⟩ hMt
      ⟨⟨⟨rfl, rfl, by show rr.2.2.2.2.2.1 + 1 ≤ R.frames; omega, by show 8 + (rr.2.2.2.1 + 11) + rr.2.2.2.2.2.2 ≤ R.locals; omega, hws, List.mem_cons_self⟩, hts _ (mTb_gw hcode rfl), hts _ (mTb_gw hin rfl), hne, fun sig hsig => by
        have h9 := hck.2
        rw [hsig] at h9
        exact (Option.some.inj h9).symm, hlk⟩, hts _ hst, trivial⟩ hpre rfl hlen9 hL.2.1 (mStk) (lv_room (by rw [mWt_map]; exact hwt)) hd ⟨by omega, by omega⟩
theorem c_inst {kind : Nat} (hk : kind = 10 ∨ kind = 11 ∨ kind = 14 ∨ kind = 15) (C : mCx p R s m args meth c G row d0) (hrc : D'.length ≤ R.cells + d0) (hrs : mSl D' ≤ R.slots + s0) (hle : D.length ≤ D'.length) (hls : mSl D ≤ mSl D') (hlim : D.length ≤ 1000000)
    (hr : mRm row kind a = true) (hL0 : mLT[j]? = some (row.1, idx, kind, a, b, z)) (hd : ((kind = 10 ∨ kind = 11) ∧ decode row.2.2.1 pc = .ok (.invokevirtual idx, 3)) ∨ ((kind = 14 ∨ kind = 15) ∧ decode row.2.2.1 pc = .ok (.invokespecial idx, 3) ∧ (∀ row' : mRow, mMet a = some row' → row'.2.2.2.2.1 = none))) (hb1 : b ≤ st.length) (hwt : mWt (st.drop b) ≤ 8) (hrv : mRcv D (st.take b).reverse a = true)
    (hM : ∀ row' : mRow, mMet a = some row' → mMt l G row' (st.take b).reverse D r D')
    (k : mK p l e R s m args below meth c Q G row.2.2.2.1 d0 s0 (pc + 3) L (r.toList ++ st.drop b) D') : mK p l e R s m args below meth c Q G row.2.2.2.1 d0 s0 pc L st D := by
  intro ls H locs cells slots hL hP hS hc hs
  obtain ⟨hx, hb, hml, hown, hts, hE, -, hz, hfr, hlo⟩ := C
  obtain ⟨hw, hck⟩ := mLT_at hL0
  have hks := List.all_eq_true.mp mKx_ck _ (List.mem_of_getElem? hL0)
  obtain ⟨rr, hrr, r1, r2, r3, r4⟩ := mRm_at (by omega) hr
  obtain ⟨-, hcl, hne, hin, -⟩ := mM_at hrr r4 r3
  have hY := mY_of hrr
  have hcode := mM_code hrr r3
  have hMt := hM rr hrr
  obtain ⟨i, As, fs, has, hDi⟩ := mRcv_eq hrv hrr
  refine mSized hz hP hS hc fun hH => ?_
  have hlen8 : (st.take b).reverse.length = b := by simp [Nat.min_eq_left hb1]
  have hstk : st.map (mV G) = (As.map (mV G)).reverse ++ .ref (mAd G i) :: (st.drop b).map (mV G) := by
    rw [mStk (G := G) (b := b), has]
    simp [mV_ref]
  rw [has] at hMt hlen8
  refine m_runC hL hle hls hS hc hs (rest := st.drop b) (av := (Value.ref (mAd G i) :: As.map (mV G)).toArray) ?_ k
  have hws : ∀ w ∈ (Cond.code rr.2.1 rr.2.2.1 rr.2.2.2.1 rr.2.2.2.2.1 :: mGW), ∀ (a' : Array Value) (U : State), s.WarmedH U.vm → w.before a' U = true := pay_in hts (mGood_c hcode rfl)
  have hpre : PreS s H (mPc G (.ref i :: As) D) (.ref (mAd G i) :: As.map (mV G)) := ⟨mPc_blind _ _, fun U hU hW => ⟨rfl, by rw [hU]; exact hH, by rw [hU]; exact hP, mE_call hE hW hU hS⟩⟩
  have hi6 : rr.1 < 5 := by
    have := Nat.le_of_ble_eq_true r4
    have h7 := mE_cl hP hDi
    exact h7
  have hrecv : ∃ cell : Cell, H[mAd G i]? = some cell ∧ cell.vm.isStatics = false ∧ s.vm.findClass rr.2.1.cls = some cell.cls := by
    rw [mAd_lt (Nat.lt_of_lt_of_le (mLt_of hDi) hlim), hcl]
    exact va_recv hE.1 hP (mCl_ok hi6) (mW_at hDi)
  have hlen9 : (As.map (mV G)).length + 1 = b := by rw [List.length_map]; exact hlen8
  rcases hk with rfl | rfl | rfl | rfl
  · have hd' : decode row.2.2.1 pc = .ok (.invokevirtual idx, 3) := by
      rcases hd with h | h
      · exact h.2
      · omega
    simp only [mLck, Bool.and_eq_true, decide_eq_true_eq] at hck
    simp only [mKx, Bool.and_eq_true] at hks
    obtain ⟨hi9, hg9⟩ := mIS_inst hks.1
    have hse := mSE_in hg9 hks.2
    rw [hY] at hck hi9 hse
    have hlk : (Cond.methodLink (mNm row.1) idx rr.2.1).before args s = true := by rw [← hY]; exact hts _ (mTb_gw hw hck.1)
    exact va_runV (As := As.map (mV G)) (n := (As.map (mV G)).length) (C := rr.2.1.cls) (Ts := mGW) ⟨hx, hb, hml, hown, hts⟩ hMt
      ⟨⟨rfl, rfl, by show rr.2.2.2.2.2.1 + 1 ≤ R.frames; omega, by show 8 + (rr.2.2.2.1 + 11) + rr.2.2.2.2.2.2 ≤ R.locals; omega, hws, List.mem_cons_self, hts _ (mTb_gw hcode rfl), hts _ (mTb_gw hin rfl), hne, fun sig hsig => by
        have h9 := hck.2
        rw [hsig] at h9
        have : sig.parameters.length + 1 = b := Option.some.inj h9
        omega, hlk⟩, hts _ hi9, hts _ hse⟩ ⟨hpre.1, hrecv, hpre.2⟩ rfl rfl hL.2.1 hstk (lv_room (by rw [mWt_map]; exact hwt)) hd' ⟨by omega, by omega⟩
  · have hd' : decode row.2.2.1 pc = .ok (.invokevirtual idx, 3) := by
      rcases hd with h | h
      · exact h.2
      · omega
    simp only [mLck, Bool.and_eq_true, decide_eq_true_eq] at hck
    simp only [mKx, Bool.and_eq_true] at hks
    obtain ⟨hi9, hg9⟩ := mIS_inst hks.1
    have hse := mSE_in hg9 hks.2
    rw [hY] at hck hi9 hse
    have hlk : (Cond.methodLinkNest (mNm row.1) idx rr.2.1 "EnvyRust").before args s = true := by rw [← hY]; exact va_Nw.use rfl (hE.2.1 _ (mTb_nw hw hck.1))
    exact va_runVN (As := As.map (mV G)) (n := (As.map (mV G)).length) (C := rr.2.1.cls) (Ts := mGW) (host := "EnvyRust") ⟨hx, hb, hml, hown, hts⟩ hMt
      ⟨⟨⟨rfl, rfl, by show rr.2.2.2.2.2.1 + 1 ≤ R.frames; omega, by show 8 + (rr.2.2.2.1 + 11) + rr.2.2.2.2.2.2 ≤ R.locals; omega, hws, List.mem_cons_self⟩, hts _ (mTb_gw hcode rfl), hts _ (mTb_gw hin rfl), hne, fun sig hsig => by
        have h9 := hck.2
        rw [hsig] at h9
        have : sig.parameters.length + 1 = b := Option.some.inj h9
        omega, hlk⟩, hts _ hi9, hts _ hse⟩ ⟨hpre.1, hrecv, hpre.2⟩ rfl rfl hL.2.1 hstk (lv_room (by rw [mWt_map]; exact hwt)) hd' ⟨by omega, by omega⟩
  · obtain ⟨hd', hnone⟩ : decode row.2.2.1 pc = .ok (.invokespecial idx, 3) ∧ rr.2.2.2.2.1 = none := by
      rcases hd with h | h
      · omega
      · exact ⟨h.2.1, h.2.2 rr hrr⟩
    simp only [mLck, Bool.and_eq_true, decide_eq_true_eq] at hck
    obtain ⟨hi9, hg9⟩ := mIS_inst hks
    rw [hY] at hck hi9
    have hlk : (Cond.methodLink (mNm row.1) idx rr.2.1).before args s = true := by rw [← hY]; exact hts _ (mTb_gw hw hck.1.1)
    unfold mMt at hMt
    rw [hnone] at hMt hws hcode
    exact va_runI (As := As.map (mV G)) (n := (As.map (mV G)).length) (Ts := mGW) ⟨hx, hb, hml, hown, hts⟩ hMt
      ⟨⟨rfl, rfl, by show rr.2.2.2.2.2.1 + 1 ≤ R.frames; omega, by show 8 + (rr.2.2.2.1 + 11) + rr.2.2.2.2.2.2 ≤ R.locals; omega, hws, List.mem_cons_self, hts _ (mTb_gw hcode rfl), hts _ (mTb_gw hin rfl), hne, fun sig hsig => by
        have h9 := hck.1.2
        rw [hsig] at h9
        have : sig.parameters.length + 1 = b := Option.some.inj h9
        omega, hlk⟩, hck.2, hts _ hi9⟩ hpre rfl rfl hL.2.1 hstk (lv_room (by rw [mWt_map]; exact hwt)) hd' ⟨by omega, by omega⟩
  · obtain ⟨hd', hnone⟩ : decode row.2.2.1 pc = .ok (.invokespecial idx, 3) ∧ rr.2.2.2.2.1 = none := by
      rcases hd with h | h
      · omega
      · exact ⟨h.2.1, h.2.2 rr hrr⟩
    simp only [mLck, Bool.and_eq_true, decide_eq_true_eq] at hck
    obtain ⟨hi9, hg9⟩ := mIS_inst hks
    rw [hY] at hck hi9
    have hlk : (Cond.methodLinkNest (mNm row.1) idx rr.2.1 "EnvyRust").before args s = true := by rw [← hY]; exact va_Nw.use rfl (hE.2.1 _ (mTb_nw hw hck.1.1))
    unfold mMt at hMt
    rw [hnone] at hMt hws hcode
    exact va_runIN (As := As.map (mV G)) (n := (As.map (mV G)).length) (Ts := mGW) (host := "EnvyRust") ⟨hx, hb, hml, hown, hts⟩ hMt
      ⟨⟨⟨rfl, rfl, by show rr.2.2.2.2.2.1 + 1 ≤ R.frames; omega, by show 8 + (rr.2.2.2.1 + 11) + rr.2.2.2.2.2.2 ≤ R.locals; omega, hws, List.mem_cons_self⟩, hts _ (mTb_gw hcode rfl), hts _ (mTb_gw hin rfl), hne, fun sig hsig => by
        have h9 := hck.1.2
        rw [hsig] at h9
        have : sig.parameters.length + 1 = b := Option.some.inj h9
        omega, hlk⟩, hck.2, hts _ hi9⟩ hpre rfl rfl hL.2.1 hstk (lv_room (by rw [mWt_map]; exact hwt)) hd' ⟨by omega, by omega⟩
end MSM
end
