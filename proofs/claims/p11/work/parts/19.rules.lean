/-! ===== runs of the small machine: how they go on ===== -/
theorem mRun_more (X : mSc) : ∀ (n : Nat) (mid pc : Nat) (L : mLoc) (st : List Value) (D : mHp) (z : Option Value × mHp) (k : Nat), mRun X n mid pc L st D = some z → mRun X (n + k) mid pc L st D = some z := by
  intro n
  induction n with
  | zero => intro mid pc L st D z k h; cases h
  | succ n ih =>
    intro mid pc L st D z k h
    rw [show n + 1 + k = (n + k) + 1 by omega]
    unfold mRun at h ⊢
    cases hm : mMet mid with
    | none => rw [hm] at h; cases h
    | some row =>
      rw [hm] at h
      cases hf : mFetch mid pc with
      | none => rw [hf] at h; cases h
      | some e =>
        rw [hf] at h
        dsimp only at h ⊢
        cases hs : mStep X row e pc L st D with
        | none => rw [hs] at h; cases h
        | some res =>
          rw [hs] at h
          cases res with
          | inl q => exact ih _ _ _ _ _ _ k h
          | inr res =>
            cases res with
            | inl v => exact h
            | inr x =>
              dsimp only at h ⊢
              cases hr : mMet x.1 with
              | none => rw [hr] at h; cases h
              | some r =>
                rw [hr] at h
                dsimp only at h ⊢
                obtain ⟨hb, h⟩ := mCond_eq h
                rw [hb]
                split at h
                · rename_i z1 hz
                  rw [ih _ _ _ _ _ _ k hz]
                  exact ih _ _ _ _ _ _ k h
                · cases h
/-- a run from here ends, so -/
def mEv (X : mSc) (Q : Option Value → mHp → Prop) (mid pc : Nat) (L : mLoc) (st : List Value) (D : mHp) : Prop := ∃ (n : Nat) (r : Option Value) (D' : mHp), mRun X n mid pc L st D = some (r, D') ∧ Q r D'
/-- a call ends so -/
def mT (X : mSc) (mid : Nat) (as : List Value) (D : mHp) (r : Option Value) (D' : mHp) : Prop := ∃ (row : mRow) (n : Nat), mMet mid = some row ∧ as.length ≤ row.2.2.2.1 ∧ mRun X n mid 0 (mEnv row.2.2.2.1 as) [] D = some (r, D')
section MEV
variable {X : mSc} {Q : Option Value → mHp → Prop} {mid pc : Nat} {L : mLoc} {st : List Value} {D : mHp} {row : mRow} {e : mEnt} {ex : Nat × Nat × Nat × Nat × Nat × Int}
theorem ev_inl (hm : mMet mid = some row) (hf : mFetch mid pc = some e) {q : Nat × mLoc × List Value × mHp} (hs : mStep X row e pc L st D = some (.inl q)) (k : mEv X Q mid q.1 q.2.1 q.2.2.1 q.2.2.2) : mEv X Q mid pc L st D := by
  obtain ⟨n, r, D', h, hq⟩ := k
  refine ⟨n + 1, r, D', ?_, hq⟩
  unfold mRun
  rw [hm, hf]
  dsimp only
  rw [hs]
  exact h
theorem ev_ret (hm : mMet mid = some row) (hf : mFetch mid pc = some e) {v : Option Value} (hs : mStep X row e pc L st D = some (.inr (.inl v))) (hq : Q v D) : mEv X Q mid pc L st D := by
  refine ⟨1, v, D, ?_, hq⟩
  unfold mRun
  rw [hm, hf]
  dsimp only
  rw [hs]
theorem ev_call (hm : mMet mid = some row) (hf : mFetch mid pc = some e) {x : Nat × List Value × List Value} (hs : mStep X row e pc L st D = some (.inr (.inr x))) {r : Option Value} {D1 : mHp} (hc : mT X x.1 x.2.1 D r D1) (k : mEv X Q mid (pc + 3) L (r.toList ++ x.2.2) D1) : mEv X Q mid pc L st D := by
  obtain ⟨row2, n1, hm2, hb, h1⟩ := hc
  obtain ⟨n2, r2, D2, h2, hq⟩ := k
  refine ⟨n1 + n2 + 1, r2, D2, ?_, hq⟩
  unfold mRun
  rw [hm, hf]
  dsimp only
  rw [hs]
  dsimp only
  rw [hm2]
  dsimp only
  rw [Nat.ble_eq_true_of_le hb, mRun_more X n1 _ _ _ _ _ _ n2 h1]
  dsimp only [cond_true]
  rw [show n1 + n2 = n2 + n1 by omega]
  exact mRun_more X n2 _ _ _ _ _ _ n1 h2
/-- the contract of a method out of the run of its body -/
theorem mT.of {as : List Value} {r : Option Value} {D' : mHp} (hm : mMet mid = some row) (hb : as.length ≤ row.2.2.2.1) (h : mEv X (fun r1 D1 => r1 = r ∧ D1 = D') mid 0 (mEnv row.2.2.2.1 as) [] D) : mT X mid as D r D' := by
  obtain ⟨n, r1, D1, h1, rfl, rfl⟩ := h
  exact ⟨row, n, hm, hb, h1⟩

theorem x_iconst {n : Int} {v : Int32} (hm : mMet mid = some row) (hf : mFetch mid pc = some (.iconst n, ex)) (hv : Int32.ofInt n = v) (k : mEv X Q mid (pc + 1) (L) (.int v :: st) (D)) : mEv X Q mid pc L (st) D := ev_inl hm hf (q := (pc + 1, L, .int v :: st, D)) (by rw [← hv]; rfl) k
theorem x_bipush {n : Int} {v : Int32} (hm : mMet mid = some row) (hf : mFetch mid pc = some (.bipush n, ex)) (hv : (Int8.ofInt n).toInt32 = v) (k : mEv X Q mid (pc + 2) (L) (.int v :: st) (D)) : mEv X Q mid pc L (st) D := ev_inl hm hf (q := (pc + 2, L, .int v :: st, D)) (by rw [← hv]; rfl) k
theorem x_sipush {n : Int} {v : Int32} (hm : mMet mid = some row) (hf : mFetch mid pc = some (.sipush n, ex)) (hv : (Int16.ofInt n).toInt32 = v) (k : mEv X Q mid (pc + 3) (L) (.int v :: st) (D)) : mEv X Q mid pc L (st) D := ev_inl hm hf (q := (pc + 3, L, .int v :: st, D)) (by rw [← hv]; rfl) k
theorem x_lconst {n : Fin 2} {v : Int64} (hm : mMet mid = some row) (hf : mFetch mid pc = some (.lconst n, ex)) (hv : Int64.ofNat n.val = v) (k : mEv X Q mid (pc + 1) (L) (.long v :: st) (D)) : mEv X Q mid pc L (st) D := ev_inl hm hf (q := (pc + 1, L, .long v :: st, D)) (by rw [← hv]; rfl) k
theorem x_ldcI {i j a b : Nat} {z : Int} {v : Int32} (hm : mMet mid = some row) (hf : mFetch mid pc = some (.ldc i, 2, j, 2, a, b, z)) (hv : Int32.ofInt z = v) (k : mEv X Q mid (pc + 2) L (.int v :: st) D) : mEv X Q mid pc L st D := ev_inl hm hf (q := (pc + 2, L, .int v :: st, D)) (by rw [← hv]; rfl) k
theorem x_ldcS {i j a b : Nat} {z : Int} (hm : mMet mid = some row) (hf : mFetch mid pc = some (.ldc i, 2, j, 3, a, b, z)) (k : mEv X Q mid (pc + 2) L (.ref (1000000 + b) :: st) D) : mEv X Q mid pc L st D := ev_inl hm hf (q := (pc + 2, L, .ref (1000000 + b) :: st, D)) (by rfl) k
theorem x_ldc_wI {i j a b : Nat} {z : Int} {v : Int32} (hm : mMet mid = some row) (hf : mFetch mid pc = some (.ldc_w i, 3, j, 2, a, b, z)) (hv : Int32.ofInt z = v) (k : mEv X Q mid (pc + 3) L (.int v :: st) D) : mEv X Q mid pc L st D := ev_inl hm hf (q := (pc + 3, L, .int v :: st, D)) (by rw [← hv]; rfl) k
theorem x_ldc_wS {i j a b : Nat} {z : Int} (hm : mMet mid = some row) (hf : mFetch mid pc = some (.ldc_w i, 3, j, 3, a, b, z)) (k : mEv X Q mid (pc + 3) L (.ref (1000000 + b) :: st) D) : mEv X Q mid pc L st D := ev_inl hm hf (q := (pc + 3, L, .ref (1000000 + b) :: st, D)) (by rfl) k
theorem x_iload_n {i : Fin 4} {x : Int32} (hm : mMet mid = some row) (hf : mFetch mid pc = some (.iload_n i, ex)) (hL : L[i.val]? = some (some (.int x))) (k : mEv X Q mid (pc + 1) (L) (.int x :: st) (D)) : mEv X Q mid pc L (st) D := ev_inl hm hf (q := (pc + 1, L, .int x :: st, D)) (by unfold mStep; dsimp only; rw [hL]; rfl) k
theorem x_iload {i : Nat} {x : Int32} (hm : mMet mid = some row) (hf : mFetch mid pc = some (.iload i, ex)) (hL : L[i]? = some (some (.int x))) (k : mEv X Q mid (pc + 2) (L) (.int x :: st) (D)) : mEv X Q mid pc L (st) D := ev_inl hm hf (q := (pc + 2, L, .int x :: st, D)) (by unfold mStep; dsimp only; rw [hL]; rfl) k
theorem x_istore_n {i : Fin 4} {x : Int32} {L' : mLoc} (hm : mMet mid = some row) (hf : mFetch mid pc = some (.istore_n i, ex)) (hL : mS1 L i.val (.int x) = some L') (k : mEv X Q mid (pc + 1) (L') (st) (D)) : mEv X Q mid pc L (.int x :: st) D := ev_inl hm hf (q := (pc + 1, L', st, D)) (by unfold mStep; dsimp only; rw [hL]; rfl) k
theorem x_istore {i : Nat} {x : Int32} {L' : mLoc} (hm : mMet mid = some row) (hf : mFetch mid pc = some (.istore i, ex)) (hL : mS1 L i (.int x) = some L') (k : mEv X Q mid (pc + 2) (L') (st) (D)) : mEv X Q mid pc L (.int x :: st) D := ev_inl hm hf (q := (pc + 2, L', st, D)) (by unfold mStep; dsimp only; rw [hL]; rfl) k
theorem x_lload_n {i : Fin 4} {x : Int64} (hm : mMet mid = some row) (hf : mFetch mid pc = some (.lload_n i, ex)) (hL : L[i.val]? = some (some (.long x))) (k : mEv X Q mid (pc + 1) (L) (.long x :: st) (D)) : mEv X Q mid pc L (st) D := ev_inl hm hf (q := (pc + 1, L, .long x :: st, D)) (by unfold mStep; dsimp only; rw [hL]; rfl) k
theorem x_lload {i : Nat} {x : Int64} (hm : mMet mid = some row) (hf : mFetch mid pc = some (.lload i, ex)) (hL : L[i]? = some (some (.long x))) (k : mEv X Q mid (pc + 2) (L) (.long x :: st) (D)) : mEv X Q mid pc L (st) D := ev_inl hm hf (q := (pc + 2, L, .long x :: st, D)) (by unfold mStep; dsimp only; rw [hL]; rfl) k
theorem x_lstore_n {i : Fin 4} {x : Int64} {L' : mLoc} (hm : mMet mid = some row) (hf : mFetch mid pc = some (.lstore_n i, ex)) (hL : mS2 L i.val (.long x) = some L') (k : mEv X Q mid (pc + 1) (L') (st) (D)) : mEv X Q mid pc L (.long x :: st) D := ev_inl hm hf (q := (pc + 1, L', st, D)) (by unfold mStep; dsimp only; rw [hL]; rfl) k
theorem x_lstore {i : Nat} {x : Int64} {L' : mLoc} (hm : mMet mid = some row) (hf : mFetch mid pc = some (.lstore i, ex)) (hL : mS2 L i (.long x) = some L') (k : mEv X Q mid (pc + 2) (L') (st) (D)) : mEv X Q mid pc L (.long x :: st) D := ev_inl hm hf (q := (pc + 2, L', st, D)) (by unfold mStep; dsimp only; rw [hL]; rfl) k
theorem x_aload_n {i : Fin 4} {x : Nat} (hm : mMet mid = some row) (hf : mFetch mid pc = some (.aload_n i, ex)) (hL : L[i.val]? = some (some (.ref x))) (k : mEv X Q mid (pc + 1) (L) (.ref x :: st) (D)) : mEv X Q mid pc L (st) D := ev_inl hm hf (q := (pc + 1, L, .ref x :: st, D)) (by unfold mStep; dsimp only; rw [hL]; rfl) k
theorem x_aload {i : Nat} {x : Nat} (hm : mMet mid = some row) (hf : mFetch mid pc = some (.aload i, ex)) (hL : L[i]? = some (some (.ref x))) (k : mEv X Q mid (pc + 2) (L) (.ref x :: st) (D)) : mEv X Q mid pc L (st) D := ev_inl hm hf (q := (pc + 2, L, .ref x :: st, D)) (by unfold mStep; dsimp only; rw [hL]; rfl) k
theorem x_astore_n {i : Fin 4} {x : Nat} {L' : mLoc} (hm : mMet mid = some row) (hf : mFetch mid pc = some (.astore_n i, ex)) (hL : mS1 L i.val (.ref x) = some L') (k : mEv X Q mid (pc + 1) (L') (st) (D)) : mEv X Q mid pc L (.ref x :: st) D := ev_inl hm hf (q := (pc + 1, L', st, D)) (by unfold mStep; dsimp only; rw [hL]; rfl) k
theorem x_astore {i : Nat} {x : Nat} {L' : mLoc} (hm : mMet mid = some row) (hf : mFetch mid pc = some (.astore i, ex)) (hL : mS1 L i (.ref x) = some L') (k : mEv X Q mid (pc + 2) (L') (st) (D)) : mEv X Q mid pc L (.ref x :: st) D := ev_inl hm hf (q := (pc + 2, L', st, D)) (by unfold mStep; dsimp only; rw [hL]; rfl) k
theorem x_iinc {i : Nat} {n : Int} {x v : Int32} {L' : mLoc} (hm : mMet mid = some row) (hf : mFetch mid pc = some (.iinc i n, ex)) (hL : L[i]? = some (some (.int x))) (hv : Int32.ofInt n = v) (hS : mS1 L i (.int (x + v)) = some L') (k : mEv X Q mid (pc + 3) (L') (st) (D)) : mEv X Q mid pc L (st) D := ev_inl hm hf (q := (pc + 3, L', st, D)) (by unfold mStep; dsimp only; rw [hL, hv]; dsimp only; rw [hS]; rfl) k
theorem x_iadd {x y : Int32} (hm : mMet mid = some row) (hf : mFetch mid pc = some (.iadd, ex)) (k : mEv X Q mid (pc + 1) (L) (.int (x + y) :: st) (D)) : mEv X Q mid pc L (.int y :: .int x :: st) D := ev_inl hm hf (q := (pc + 1, L, .int (x + y) :: st, D)) (by rfl) k
theorem x_isub {x y : Int32} (hm : mMet mid = some row) (hf : mFetch mid pc = some (.isub, ex)) (k : mEv X Q mid (pc + 1) (L) (.int (x - y) :: st) (D)) : mEv X Q mid pc L (.int y :: .int x :: st) D := ev_inl hm hf (q := (pc + 1, L, .int (x - y) :: st, D)) (by rfl) k
theorem x_imul {x y : Int32} (hm : mMet mid = some row) (hf : mFetch mid pc = some (.imul, ex)) (k : mEv X Q mid (pc + 1) (L) (.int (x * y) :: st) (D)) : mEv X Q mid pc L (.int y :: .int x :: st) D := ev_inl hm hf (q := (pc + 1, L, .int (x * y) :: st, D)) (by rfl) k
theorem x_iand {x y : Int32} (hm : mMet mid = some row) (hf : mFetch mid pc = some (.iand, ex)) (k : mEv X Q mid (pc + 1) (L) (.int (x &&& y) :: st) (D)) : mEv X Q mid pc L (.int y :: .int x :: st) D := ev_inl hm hf (q := (pc + 1, L, .int (x &&& y) :: st, D)) (by rfl) k
theorem x_ior {x y : Int32} (hm : mMet mid = some row) (hf : mFetch mid pc = some (.ior, ex)) (k : mEv X Q mid (pc + 1) (L) (.int (x ||| y) :: st) (D)) : mEv X Q mid pc L (.int y :: .int x :: st) D := ev_inl hm hf (q := (pc + 1, L, .int (x ||| y) :: st, D)) (by rfl) k
theorem x_ixor {x y : Int32} (hm : mMet mid = some row) (hf : mFetch mid pc = some (.ixor, ex)) (k : mEv X Q mid (pc + 1) (L) (.int (x ^^^ y) :: st) (D)) : mEv X Q mid pc L (.int y :: .int x :: st) D := ev_inl hm hf (q := (pc + 1, L, .int (x ^^^ y) :: st, D)) (by rfl) k
theorem x_ishl {x y : Int32} (hm : mMet mid = some row) (hf : mFetch mid pc = some (.ishl, ex)) (k : mEv X Q mid (pc + 1) (L) (.int (x <<< (y &&& 31)) :: st) (D)) : mEv X Q mid pc L (.int y :: .int x :: st) D := ev_inl hm hf (q := (pc + 1, L, .int (x <<< (y &&& 31)) :: st, D)) (by rfl) k
theorem x_ishr {x y : Int32} (hm : mMet mid = some row) (hf : mFetch mid pc = some (.ishr, ex)) (k : mEv X Q mid (pc + 1) (L) (.int (x >>> (y &&& 31)) :: st) (D)) : mEv X Q mid pc L (.int y :: .int x :: st) D := ev_inl hm hf (q := (pc + 1, L, .int (x >>> (y &&& 31)) :: st, D)) (by rfl) k
theorem x_iushr {x y : Int32} (hm : mMet mid = some row) (hf : mFetch mid pc = some (.iushr, ex)) (k : mEv X Q mid (pc + 1) (L) (.int ((x.toUInt32 >>> (y.toUInt32 &&& Int32.toUInt32 31)).toInt32) :: st) (D)) : mEv X Q mid pc L (.int y :: .int x :: st) D := ev_inl hm hf (q := (pc + 1, L, .int ((x.toUInt32 >>> (y.toUInt32 &&& Int32.toUInt32 31)).toInt32) :: st, D)) (by rfl) k
theorem x_idiv {x y : Int32} (hm : mMet mid = some row) (hf : mFetch mid pc = some (.idiv, ex)) (hy : ¬ y = 0) (k : mEv X Q mid (pc + 1) (L) (.int (x / y) :: st) (D)) : mEv X Q mid pc L (.int y :: .int x :: st) D := ev_inl hm hf (q := (pc + 1, L, .int (x / y) :: st, D)) (by unfold mStep; dsimp only; rw [if_neg hy]; rfl) k
theorem x_irem {x y : Int32} (hm : mMet mid = some row) (hf : mFetch mid pc = some (.irem, ex)) (hy : ¬ y = 0) (k : mEv X Q mid (pc + 1) (L) (.int (x - x / y * y) :: st) (D)) : mEv X Q mid pc L (.int y :: .int x :: st) D := ev_inl hm hf (q := (pc + 1, L, .int (x - x / y * y) :: st, D)) (by unfold mStep; dsimp only; rw [if_neg hy]; rfl) k
theorem x_i2l {x : Int32} (hm : mMet mid = some row) (hf : mFetch mid pc = some (.i2l, ex)) (k : mEv X Q mid (pc + 1) (L) (.long x.toInt64 :: st) (D)) : mEv X Q mid pc L (.int x :: st) D := ev_inl hm hf (q := (pc + 1, L, .long x.toInt64 :: st, D)) (by rfl) k
theorem x_i2b {x : Int32} (hm : mMet mid = some row) (hf : mFetch mid pc = some (.i2b, ex)) (k : mEv X Q mid (pc + 1) (L) (.int x.toInt8.toInt32 :: st) (D)) : mEv X Q mid pc L (.int x :: st) D := ev_inl hm hf (q := (pc + 1, L, .int x.toInt8.toInt32 :: st, D)) (by rfl) k
theorem x_i2s {x : Int32} (hm : mMet mid = some row) (hf : mFetch mid pc = some (.i2s, ex)) (k : mEv X Q mid (pc + 1) (L) (.int x.toInt16.toInt32 :: st) (D)) : mEv X Q mid pc L (.int x :: st) D := ev_inl hm hf (q := (pc + 1, L, .int x.toInt16.toInt32 :: st, D)) (by rfl) k
theorem x_ladd {x y : Int64} (hm : mMet mid = some row) (hf : mFetch mid pc = some (.ladd, ex)) (k : mEv X Q mid (pc + 1) (L) (.long (x + y) :: st) (D)) : mEv X Q mid pc L (.long y :: .long x :: st) D := ev_inl hm hf (q := (pc + 1, L, .long (x + y) :: st, D)) (by rfl) k
theorem x_lmul {x y : Int64} (hm : mMet mid = some row) (hf : mFetch mid pc = some (.lmul, ex)) (k : mEv X Q mid (pc + 1) (L) (.long (x * y) :: st) (D)) : mEv X Q mid pc L (.long y :: .long x :: st) D := ev_inl hm hf (q := (pc + 1, L, .long (x * y) :: st, D)) (by rfl) k
theorem x_lcmp {x y : Int64} (hm : mMet mid = some row) (hf : mFetch mid pc = some (.lcmp, ex)) (k : mEv X Q mid (pc + 1) (L) (.int (lg_cmp x y) :: st) (D)) : mEv X Q mid pc L (.long y :: .long x :: st) D := ev_inl hm hf (q := (pc + 1, L, .int (lg_cmp x y) :: st, D)) (by rfl) k
theorem x_dup {v : Value} (hm : mMet mid = some row) (hf : mFetch mid pc = some (.dup, ex)) (hc : v.category = 1) (k : mEv X Q mid (pc + 1) (L) (v :: v :: st) (D)) : mEv X Q mid pc L (v :: st) D := ev_inl hm hf (q := (pc + 1, L, v :: v :: st, D)) (by unfold mStep; dsimp only; rw [hc]; rfl) k
theorem x_pop {v : Value} (hm : mMet mid = some row) (hf : mFetch mid pc = some (.pop, ex)) (hc : v.category = 1) (k : mEv X Q mid (pc + 1) (L) (st) (D)) : mEv X Q mid pc L (v :: st) D := ev_inl hm hf (q := (pc + 1, L, st, D)) (by unfold mStep; dsimp only; rw [hc]; rfl) k
theorem x_dup2 {v w : Value} (hm : mMet mid = some row) (hf : mFetch mid pc = some (.dup2, ex)) (hc : v.category = 1) (hw : w.category = 1) (k : mEv X Q mid (pc + 1) (L) (v :: w :: v :: w :: st) (D)) : mEv X Q mid pc L (v :: w :: st) D := ev_inl hm hf (q := (pc + 1, L, v :: w :: v :: w :: st, D)) (by unfold mStep; dsimp only; rw [hc, hw]; rfl) k
theorem x_pop2 {x : Int64} (hm : mMet mid = some row) (hf : mFetch mid pc = some (.pop2, ex)) (k : mEv X Q mid (pc + 1) (L) (st) (D)) : mEv X Q mid pc L (.long x :: st) D := ev_inl hm hf (q := (pc + 1, L, st, D)) (by rfl) k
theorem x_if_eq {x : Int32} {off : Int} {t : Nat} (hm : mMet mid = some row) (hf : mFetch mid pc = some (.ifCond .eq off, ex)) (ht : mTo pc off = some t) (kt : x = 0 → mEv X Q mid t L st D) (kf : ¬ (x = 0) → mEv X Q mid (pc + 3) L st D) : mEv X Q mid pc L (.int x :: st) D := by
  by_cases hc : x = 0
  · exact ev_inl hm hf (q := (t, L, st, D)) (by unfold mStep mBr; dsimp only; rw [show mTo pc off = some t from ht]; simp [hc]) (kt hc)
  · exact ev_inl hm hf (q := (pc + 3, L, st, D)) (by unfold mStep mBr; dsimp only; rw [show mTo pc off = some t from ht]; simp [hc]) (kf hc)
theorem x_icmp_eq {x y : Int32} {off : Int} {t : Nat} (hm : mMet mid = some row) (hf : mFetch mid pc = some (.if_icmp .eq off, ex)) (ht : mTo pc off = some t) (kt : x = y → mEv X Q mid t L st D) (kf : ¬ (x = y) → mEv X Q mid (pc + 3) L st D) : mEv X Q mid pc L (.int y :: .int x :: st) D := by
  by_cases hc : x = y
  · exact ev_inl hm hf (q := (t, L, st, D)) (by unfold mStep mBr; dsimp only; rw [show mTo pc off = some t from ht]; simp [hc]) (kt hc)
  · exact ev_inl hm hf (q := (pc + 3, L, st, D)) (by unfold mStep mBr; dsimp only; rw [show mTo pc off = some t from ht]; simp [hc]) (kf hc)
theorem x_if_ne {x : Int32} {off : Int} {t : Nat} (hm : mMet mid = some row) (hf : mFetch mid pc = some (.ifCond .ne off, ex)) (ht : mTo pc off = some t) (kt : ¬ x = 0 → mEv X Q mid t L st D) (kf : x = 0 → mEv X Q mid (pc + 3) L st D) : mEv X Q mid pc L (.int x :: st) D := by
  by_cases hc : x = 0
  · exact ev_inl hm hf (q := (pc + 3, L, st, D)) (by unfold mStep mBr; dsimp only; rw [show mTo pc off = some t from ht]; simp [hc]) (kf hc)
  · exact ev_inl hm hf (q := (t, L, st, D)) (by unfold mStep mBr; dsimp only; rw [show mTo pc off = some t from ht]; simp [hc]) (kt hc)
theorem x_icmp_ne {x y : Int32} {off : Int} {t : Nat} (hm : mMet mid = some row) (hf : mFetch mid pc = some (.if_icmp .ne off, ex)) (ht : mTo pc off = some t) (kt : ¬ x = y → mEv X Q mid t L st D) (kf : x = y → mEv X Q mid (pc + 3) L st D) : mEv X Q mid pc L (.int y :: .int x :: st) D := by
  by_cases hc : x = y
  · exact ev_inl hm hf (q := (pc + 3, L, st, D)) (by unfold mStep mBr; dsimp only; rw [show mTo pc off = some t from ht]; simp [hc]) (kf hc)
  · exact ev_inl hm hf (q := (t, L, st, D)) (by unfold mStep mBr; dsimp only; rw [show mTo pc off = some t from ht]; simp [hc]) (kt hc)
theorem x_if_lt {x : Int32} {off : Int} {t : Nat} (hm : mMet mid = some row) (hf : mFetch mid pc = some (.ifCond .lt off, ex)) (ht : mTo pc off = some t) (kt : x < 0 → mEv X Q mid t L st D) (kf : ¬ (x < 0) → mEv X Q mid (pc + 3) L st D) : mEv X Q mid pc L (.int x :: st) D := by
  by_cases hc : x < 0
  · exact ev_inl hm hf (q := (t, L, st, D)) (by unfold mStep mBr; dsimp only; rw [show mTo pc off = some t from ht]; simp [hc]) (kt hc)
  · exact ev_inl hm hf (q := (pc + 3, L, st, D)) (by unfold mStep mBr; dsimp only; rw [show mTo pc off = some t from ht]; simp [hc]) (kf hc)
theorem x_icmp_lt {x y : Int32} {off : Int} {t : Nat} (hm : mMet mid = some row) (hf : mFetch mid pc = some (.if_icmp .lt off, ex)) (ht : mTo pc off = some t) (kt : x < y → mEv X Q mid t L st D) (kf : ¬ (x < y) → mEv X Q mid (pc + 3) L st D) : mEv X Q mid pc L (.int y :: .int x :: st) D := by
  by_cases hc : x < y
  · exact ev_inl hm hf (q := (t, L, st, D)) (by unfold mStep mBr; dsimp only; rw [show mTo pc off = some t from ht]; simp [hc]) (kt hc)
  · exact ev_inl hm hf (q := (pc + 3, L, st, D)) (by unfold mStep mBr; dsimp only; rw [show mTo pc off = some t from ht]; simp [hc]) (kf hc)
theorem x_if_ge {x : Int32} {off : Int} {t : Nat} (hm : mMet mid = some row) (hf : mFetch mid pc = some (.ifCond .ge off, ex)) (ht : mTo pc off = some t) (kt : 0 ≤ x → mEv X Q mid t L st D) (kf : ¬ (0 ≤ x) → mEv X Q mid (pc + 3) L st D) : mEv X Q mid pc L (.int x :: st) D := by
  by_cases hc : 0 ≤ x
  · exact ev_inl hm hf (q := (t, L, st, D)) (by unfold mStep mBr; dsimp only; rw [show mTo pc off = some t from ht]; simp [hc]) (kt hc)
  · exact ev_inl hm hf (q := (pc + 3, L, st, D)) (by unfold mStep mBr; dsimp only; rw [show mTo pc off = some t from ht]; simp [hc]) (kf hc)
theorem x_icmp_ge {x y : Int32} {off : Int} {t : Nat} (hm : mMet mid = some row) (hf : mFetch mid pc = some (.if_icmp .ge off, ex)) (ht : mTo pc off = some t) (kt : y ≤ x → mEv X Q mid t L st D) (kf : ¬ (y ≤ x) → mEv X Q mid (pc + 3) L st D) : mEv X Q mid pc L (.int y :: .int x :: st) D := by
  by_cases hc : y ≤ x
  · exact ev_inl hm hf (q := (t, L, st, D)) (by unfold mStep mBr; dsimp only; rw [show mTo pc off = some t from ht]; simp [hc]) (kt hc)
  · exact ev_inl hm hf (q := (pc + 3, L, st, D)) (by unfold mStep mBr; dsimp only; rw [show mTo pc off = some t from ht]; simp [hc]) (kf hc)
theorem x_if_gt {x : Int32} {off : Int} {t : Nat} (hm : mMet mid = some row) (hf : mFetch mid pc = some (.ifCond .gt off, ex)) (ht : mTo pc off = some t) (kt : 0 < x → mEv X Q mid t L st D) (kf : ¬ (0 < x) → mEv X Q mid (pc + 3) L st D) : mEv X Q mid pc L (.int x :: st) D := by
  by_cases hc : 0 < x
  · exact ev_inl hm hf (q := (t, L, st, D)) (by unfold mStep mBr; dsimp only; rw [show mTo pc off = some t from ht]; simp [hc]) (kt hc)
  · exact ev_inl hm hf (q := (pc + 3, L, st, D)) (by unfold mStep mBr; dsimp only; rw [show mTo pc off = some t from ht]; simp [hc]) (kf hc)
theorem x_icmp_gt {x y : Int32} {off : Int} {t : Nat} (hm : mMet mid = some row) (hf : mFetch mid pc = some (.if_icmp .gt off, ex)) (ht : mTo pc off = some t) (kt : y < x → mEv X Q mid t L st D) (kf : ¬ (y < x) → mEv X Q mid (pc + 3) L st D) : mEv X Q mid pc L (.int y :: .int x :: st) D := by
  by_cases hc : y < x
  · exact ev_inl hm hf (q := (t, L, st, D)) (by unfold mStep mBr; dsimp only; rw [show mTo pc off = some t from ht]; simp [hc]) (kt hc)
  · exact ev_inl hm hf (q := (pc + 3, L, st, D)) (by unfold mStep mBr; dsimp only; rw [show mTo pc off = some t from ht]; simp [hc]) (kf hc)
theorem x_if_le {x : Int32} {off : Int} {t : Nat} (hm : mMet mid = some row) (hf : mFetch mid pc = some (.ifCond .le off, ex)) (ht : mTo pc off = some t) (kt : x ≤ 0 → mEv X Q mid t L st D) (kf : ¬ (x ≤ 0) → mEv X Q mid (pc + 3) L st D) : mEv X Q mid pc L (.int x :: st) D := by
  by_cases hc : x ≤ 0
  · exact ev_inl hm hf (q := (t, L, st, D)) (by unfold mStep mBr; dsimp only; rw [show mTo pc off = some t from ht]; simp [hc]) (kt hc)
  · exact ev_inl hm hf (q := (pc + 3, L, st, D)) (by unfold mStep mBr; dsimp only; rw [show mTo pc off = some t from ht]; simp [hc]) (kf hc)
theorem x_icmp_le {x y : Int32} {off : Int} {t : Nat} (hm : mMet mid = some row) (hf : mFetch mid pc = some (.if_icmp .le off, ex)) (ht : mTo pc off = some t) (kt : x ≤ y → mEv X Q mid t L st D) (kf : ¬ (x ≤ y) → mEv X Q mid (pc + 3) L st D) : mEv X Q mid pc L (.int y :: .int x :: st) D := by
  by_cases hc : x ≤ y
  · exact ev_inl hm hf (q := (t, L, st, D)) (by unfold mStep mBr; dsimp only; rw [show mTo pc off = some t from ht]; simp [hc]) (kt hc)
  · exact ev_inl hm hf (q := (pc + 3, L, st, D)) (by unfold mStep mBr; dsimp only; rw [show mTo pc off = some t from ht]; simp [hc]) (kf hc)
theorem x_goto {off : Int} {t : Nat} (hm : mMet mid = some row) (hf : mFetch mid pc = some (.goto off, ex)) (ht : mTo pc off = some t) (k : mEv X Q mid t L st D) : mEv X Q mid pc L st D := ev_inl hm hf (q := (t, L, st, D)) (by unfold mStep mGo; dsimp only; rw [show mTo pc off = some t from ht]; rfl) k
theorem x_tsOut {x : Int32} {dflt lo hi : Int} {offs : Array Int} {t : Nat} (hm : mMet mid = some row) (hf : mFetch mid pc = some (.tableswitch dflt lo hi offs, ex)) (hx : x.toInt < lo ∨ hi < x.toInt) (ht : mTo pc dflt = some t) (k : mEv X Q mid t L st D) : mEv X Q mid pc L (.int x :: st) D := ev_inl hm hf (q := (t, L, st, D)) (by unfold mStep mGo; dsimp only; rw [if_pos hx, show mTo pc dflt = some t from ht]; rfl) k
theorem x_tsIn {x : Int32} {dflt lo hi off : Int} {offs : Array Int} {t : Nat} (hm : mMet mid = some row) (hf : mFetch mid pc = some (.tableswitch dflt lo hi offs, ex)) (hx : ¬ (x.toInt < lo ∨ hi < x.toInt)) (ho : offs[(x.toInt - lo).toNat]? = some off) (ht : mTo pc off = some t) (k : mEv X Q mid t L st D) : mEv X Q mid pc L (.int x :: st) D := ev_inl hm hf (q := (t, L, st, D)) (by unfold mStep mGo; dsimp only; rw [if_neg hx, ho]; dsimp only; rw [show mTo pc off = some t from ht]; rfl) k
theorem x_ts {x : Int32} {dflt lo hi : Int} {offs : Array Int} (hm : mMet mid = some row) (hf : mFetch mid pc = some (.tableswitch dflt lo hi offs, ex)) (hD : (x.toInt < lo ∨ hi < x.toInt) → ∃ t, mTo pc dflt = some t ∧ mEv X Q mid t L st D) (hI : ∀ i : Nat, x.toInt = lo + i → (i : Int) ≤ hi - lo → ∃ off t, offs[i]? = some off ∧ mTo pc off = some t ∧ mEv X Q mid t L st D) : mEv X Q mid pc L (.int x :: st) D := by
  by_cases hx : x.toInt < lo ∨ hi < x.toInt
  · obtain ⟨t, h1, h2⟩ := hD hx
    exact x_tsOut hm hf hx h1 h2
  · obtain ⟨off, t, h1, h2, h3⟩ := hI (x.toInt - lo).toNat (by omega) (by omega)
    exact x_tsIn hm hf hx h1 h2 h3
theorem x_getf {i idx j kd a b : Nat} {z : Int} {v : Value} (hm : mMet mid = some row) (hf : mFetch mid pc = some (.getfield idx, 3, j, kd, a, b, z)) (hv : mGet D i a b = some v) (k : mEv X Q mid (pc + 3) L (v :: st) D) : mEv X Q mid pc L (.ref i :: st) D := ev_inl hm hf (q := (pc + 3, L, v :: st, D)) (by unfold mStep; dsimp only; rw [hv]; rfl) k
theorem x_putf {i idx j kd a b : Nat} {z : Int} {v : Value} {D1 : mHp} (hm : mMet mid = some row) (hf : mFetch mid pc = some (.putfield idx, 3, j, kd, a, b, z)) (hv : mPut row kd D i a b v = some D1) (k : mEv X Q mid (pc + 3) L st D1) : mEv X Q mid pc L (v :: .ref i :: st) D := ev_inl hm hf (q := (pc + 3, L, st, D1)) (by unfold mStep; dsimp only; rw [hv]; rfl) k
theorem x_gets {idx : Nat} (hm : mMet mid = some row) (hf : mFetch mid pc = some (.getstatic idx, ex)) (k : mEv X Q mid (pc + 3) L (.ref 1000100 :: st) D) : mEv X Q mid pc L st D := ev_inl hm hf (q := (pc + 3, L, .ref 1000100 :: st, D)) (by rfl) k
theorem x_iald {i : Nat} {j : Int32} {v : Value} (hm : mMet mid = some row) (hf : mFetch mid pc = some (.iaload, ex)) (hv : mLd X 0 D i j = some v) (k : mEv X Q mid (pc + 1) L (v :: st) D) : mEv X Q mid pc L (.int j :: .ref i :: st) D := ev_inl hm hf (q := (pc + 1, L, v :: st, D)) (by unfold mStep; dsimp only; rw [hv]; rfl) k
theorem x_bald {i : Nat} {j : Int32} {v : Value} (hm : mMet mid = some row) (hf : mFetch mid pc = some (.baload, ex)) (hv : mLd X 1 D i j = some v) (k : mEv X Q mid (pc + 1) L (v :: st) D) : mEv X Q mid pc L (.int j :: .ref i :: st) D := ev_inl hm hf (q := (pc + 1, L, v :: st, D)) (by unfold mStep; dsimp only; rw [hv]; rfl) k
theorem x_aald {i : Nat} {j : Int32} {v : Value} (hm : mMet mid = some row) (hf : mFetch mid pc = some (.aaload, ex)) (hv : mLdq D i j = some v) (k : mEv X Q mid (pc + 1) L (v :: st) D) : mEv X Q mid pc L (.int j :: .ref i :: st) D := ev_inl hm hf (q := (pc + 1, L, v :: st, D)) (by unfold mStep; dsimp only; rw [hv]; rfl) k
theorem x_iast {i : Nat} {j x : Int32} {D1 : mHp} (hm : mMet mid = some row) (hf : mFetch mid pc = some (.iastore, ex)) (hv : mStI 0 D i j x = some D1) (k : mEv X Q mid (pc + 1) L st D1) : mEv X Q mid pc L (.int x :: .int j :: .ref i :: st) D := ev_inl hm hf (q := (pc + 1, L, st, D1)) (by unfold mStep; dsimp only; rw [hv]; rfl) k
theorem x_bast {i : Nat} {j x : Int32} {D1 : mHp} (hm : mMet mid = some row) (hf : mFetch mid pc = some (.bastore, ex)) (hv : mStI 1 D i j x = some D1) (k : mEv X Q mid (pc + 1) L st D1) : mEv X Q mid pc L (.int x :: .int j :: .ref i :: st) D := ev_inl hm hf (q := (pc + 1, L, st, D1)) (by unfold mStep; dsimp only; rw [hv]; rfl) k
theorem x_alen {i : Nat} {n : Int32} (hm : mMet mid = some row) (hf : mFetch mid pc = some (.arraylength, ex)) (hv : mLen X D i = some n) (k : mEv X Q mid (pc + 1) L (.int n :: st) D) : mEv X Q mid pc L (.ref i :: st) D := ev_inl hm hf (q := (pc + 1, L, .int n :: st, D)) (by unfold mStep; dsimp only; rw [hv]; rfl) k
theorem x_callS {idx len j kd a b : Nat} {z : Int} {as r : List Value} {rv : Option Value} {D1 : mHp} (hm : mMet mid = some row) (hf : mFetch mid pc = some (.invokestatic idx, len, j, kd, a, b, z)) (hs : mCall (.invokestatic idx, len, j, kd, a, b, z) false pc L st D = some (.inr (.inr (a, as, r)))) (hc : mT X a as D rv D1) (k : mEv X Q mid (pc + 3) L (rv.toList ++ r) D1) : mEv X Q mid pc L st D := ev_call hm hf (x := (a, as, r)) hs hc k
theorem x_callV {idx len j kd a b : Nat} {z : Int} {as r : List Value} {rv : Option Value} {D1 : mHp} (hm : mMet mid = some row) (hf : mFetch mid pc = some (.invokevirtual idx, len, j, kd, a, b, z)) (hs : mCall (.invokevirtual idx, len, j, kd, a, b, z) true pc L st D = some (.inr (.inr (a, as, r)))) (hc : mT X a as D rv D1) (k : mEv X Q mid (pc + 3) L (rv.toList ++ r) D1) : mEv X Q mid pc L st D := ev_call hm hf (x := (a, as, r)) hs hc k
theorem x_callI {idx len j kd a b : Nat} {z : Int} {as r : List Value} {rv : Option Value} {D1 : mHp} (hm : mMet mid = some row) (hf : mFetch mid pc = some (.invokespecial idx, len, j, kd, a, b, z)) (hs : mCall (.invokespecial idx, len, j, kd, a, b, z) true pc L st D = some (.inr (.inr (a, as, r)))) (hc : mT X a as D rv D1) (k : mEv X Q mid (pc + 3) L (rv.toList ++ r) D1) : mEv X Q mid pc L st D := ev_call hm hf (x := (a, as, r)) hs hc k
theorem x_lib {idx len j kd a b : Nat} {z : Int} {q : Nat × mLoc × List Value × mHp} (hm : mMet mid = some row) (hf : mFetch mid pc = some (.invokestatic idx, len, j, kd, a, b, z)) (hs : mCall (.invokestatic idx, len, j, kd, a, b, z) false pc L st D = some (.inl q)) (k : mEv X Q mid q.1 q.2.1 q.2.2.1 q.2.2.2) : mEv X Q mid pc L st D := ev_inl hm hf hs k
theorem x_libV {idx len j kd a b : Nat} {z : Int} {q : Nat × mLoc × List Value × mHp} (hm : mMet mid = some row) (hf : mFetch mid pc = some (.invokevirtual idx, len, j, kd, a, b, z)) (hs : mCall (.invokevirtual idx, len, j, kd, a, b, z) true pc L st D = some (.inl q)) (k : mEv X Q mid q.1 q.2.1 q.2.2.1 q.2.2.2) : mEv X Q mid pc L st D := ev_inl hm hf hs k
theorem x_libI {idx len j kd a b : Nat} {z : Int} {q : Nat × mLoc × List Value × mHp} (hm : mMet mid = some row) (hf : mFetch mid pc = some (.invokespecial idx, len, j, kd, a, b, z)) (hs : mCall (.invokespecial idx, len, j, kd, a, b, z) true pc L st D = some (.inl q)) (k : mEv X Q mid q.1 q.2.1 q.2.2.1 q.2.2.2) : mEv X Q mid pc L st D := ev_inl hm hf hs k
theorem x_iret {v : Int32} {ty : FieldType} (hm : mMet mid = some row) (hf : mFetch mid pc = some (.ireturn, ex)) (hty : row.2.2.2.2.1 = some ty) (hn : narrow ty (.int v) = .int v) (hq : Q (some (.int v)) D) : mEv X Q mid pc L [.int v] D := ev_ret hm hf (v := some (.int v)) (by unfold mStep; dsimp only; rw [hty]; dsimp only; rw [decide_eq_true hn]; rfl) hq
theorem x_lret {v : Int64} (hm : mMet mid = some row) (hf : mFetch mid pc = some (.lreturn, ex)) (hty : row.2.2.2.2.1 = some .long) (hq : Q (some (.long v)) D) : mEv X Q mid pc L [.long v] D := ev_ret hm hf (v := some (.long v)) (by unfold mStep; dsimp only; rw [hty]; rfl) hq
theorem x_aret {v : Nat} {C : String} (hm : mMet mid = some row) (hf : mFetch mid pc = some (.areturn, ex)) (hty : row.2.2.2.2.1 = some (.object C)) (hq : Q (some (.ref v)) D) : mEv X Q mid pc L [.ref v] D := ev_ret hm hf (v := some (.ref v)) (by unfold mStep; dsimp only; rw [hty]) hq
theorem x_ret (hm : mMet mid = some row) (hf : mFetch mid pc = some (.return_, ex)) (hty : row.2.2.2.2.1 = none) (hq : Q none D) : mEv X Q mid pc L [] D := ev_ret hm hf (v := none) (by unfold mStep; dsimp only; rw [hty]; rfl) hq
end MEV
