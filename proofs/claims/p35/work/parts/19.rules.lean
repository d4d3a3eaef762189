section
/-! ===== runs of the small machine: how they go on ===== -/
theorem mRun_more (X : mSc) : ∀ (n : Nat) (mid pc : Nat) (L : mLoc) (st : List Value) (D : mHp) (z : Option Value × mHp) (k : Nat), mRun X n mid pc L st D = some z → mRun X (n + k) mid pc L st D = some z := by
  intro n
  induction n with
  | zero => intro mid pc L st D z k h; cases h
  | succ n ih =>
    intro mid pc L st D z k h
    rw [show n + 1 + k = (n + k) + 1 by omega]
    unfold mRun at h ⊢
    cases hm : mMet mid with
    | none => rw [hm] at h; cases h
    | some row =>
      rw [hm] at h
      cases hf : mFetch mid pc with
      | none => rw [hf] at h; cases h
      | some e =>
        rw [hf] at h
        dsimp only at h ⊢
        cases hs : mStep X row e pc L st D with
        | none => rw [hs] at h; cases h
        | some res =>
          rw [hs] at h
          cases res with
          | inl q => exact ih _ _ _ _ _ _ k h
          | inr res =>
            cases res with
            | inl v => exact h
            | inr x =>
              dsimp only at h ⊢
              cases hr : mMet x.1 with
              | none => rw [hr] at h; cases h
              | some r =>
                rw [hr] at h
                dsimp only at h ⊢
                obtain ⟨hb, h⟩ := mCond_eq h
                rw [hb]
                split at h
                · rename_i z1 hz
                  rw [ih _ _ _ _ _ _ k hz]
                  exact ih _ _ _ _ _ _ k h
                · cases h
/-- a run from here ends, so -/
def mEv (X : mSc) (Q : Option Value → mHp → Prop) (mid pc : Nat) (L : mLoc) (st : List Value) (D : mHp) : Prop := ∃ (n : Nat) (r : Option Value) (D' : mHp), mRun X n mid pc L st D = some (r, D') ∧ Q r D'
/-- a call ends so -/
def mT (X : mSc) (mid : Nat) (as : List Value) (D : mHp) (r : Option Value) (D' : mHp) : Prop := ∃ (row : mRow) (n : Nat), mMet mid = some row ∧ as.length ≤ row.2.2.2.1 ∧ mRun X n mid 0 (mEnv row.2.2.2.1 as) [] D = some (r, D')
section MEV
variable {X : mSc} {Q : Option Value → mHp → Prop} {mid pc : Nat} {L : mLoc} {st : List Value} {D : mHp} {row : mRow} {e : mEnt} {ex : Nat × Nat × Nat × Nat × Nat × Int}
theorem ev_inl (hm : mMet mid = some row) (hf : mFetch mid pc = some e) {q : Nat × mLoc × List Value × mHp} (hs : mStep X row e pc L st D = some (.inl q)) (k : mEv X Q mid q.1 q.2.1 q.2.2.1 q.2.2.2) : mEv X Q mid pc L st D := by
  obtain ⟨n, r, D', h, hq⟩ := k
  refine ⟨n + 1, r, D', ?_, hq⟩
  unfold mRun
  rw [hm, hf]
  dsimp only
  rw [hs]
  exact h
theorem ev_ret (hm : mMet mid = some row) (hf : mFetch mid pc = some e) {v : Option Value} (hs : mStep X row e pc L st D = some (.inr (.inl v))) (hq : Q v D) : mEv X Q mid pc L st D := by
  refine ⟨1, v, D, ?_, hq⟩
  unfold mRun
  rw [hm, hf]
  dsimp only
  rw [hs]
theorem ev_call (hm : mMet mid = some row) (hf : mFetch mid pc = some e) {x : Nat × List Value × List Value} (hs : mStep X row e pc L st D = some (.inr (.inr x))) {r : Option Value} {D1 : mHp} (hc : mT X x.1 x.2.1 D r D1) (k : mEv X Q mid (pc + 3) L (r.toList ++ x.2.2) D1) : mEv X Q mid pc L st D := by
  obtain ⟨row2, n1, hm2, hb, h1⟩ := hc
  obtain ⟨n2, r2, D2, h2, hq⟩ := k
  refine ⟨n1 + n2 + 1, r2, D2, ?_, hq⟩
  unfold mRun
  rw [hm, hf]
  dsimp only
  rw [hs]
  dsimp only
  rw [hm2]
  dsimp only
  rw [Nat.ble_eq_true_of_le hb, mRun_more X n1 _ _ _ _ _ _ n2 h1]
  dsimp only [cond_true]
  rw [show n1 + n2 = n2 + n1 by omega]
  exact mRun_more X n2 _ _ _ _ _ _ n1 h2
/-- the contract of a method out of the run of its body -/
theorem mT.of {as : List Value} {r : Option Value} {D' : mHp} (hm : mMet mid = some row) (hb : as.length ≤ row.2.2.2.1) (h : mEv X (fun r1 D1 => r1 = r ∧ D1 = D') mid 0 (mEnv row.2.2.2.1 as) [] D) : mT X mid as D r D' := by
  obtain ⟨n, r1, D1, h1, rfl, rfl⟩ := h
  exact ⟨row, n, hm, hb, h1⟩

theorem x_iconst {n : Int} {v : Int32} (hm : mMet mid = some row) (hf : mFetch mid pc = some (.iconst n, ex)) (hv : Int32.ofInt n = v) (k : mEv X Q mid (pc + 1) (L) (.int v :: st) (D)) : mEv X Q mid pc L (st) D := ev_inl hm hf (q := (pc + 1, L, .int v :: st, D)) (by rw [← hv]; rfl) k
theorem x_bipush {n : Int} {v : Int32} (hm : mMet mid = some row) (hf : mFetch mid pc = some (.bipush n, ex)) (hv : (Int8.ofInt n).toInt32 = v) (k : mEv X Q mid (pc + 2) (L) (.int v :: st) (D)) : mEv X Q mid pc L (st) D := ev_inl hm hf (q := (pc + 2, L, .int v :: st, D)) (by rw [← hv]; rfl) k
theorem x_sipush {n : Int} {v : Int32} (hm : mMet mid = some row) (hf : mFetch mid pc = some (.sipush n, ex)) (hv : (Int16.ofInt n).toInt32 = v) (k : mEv X Q mid (pc + 3) (L) (.int v :: st) (D)) : mEv X Q mid pc L (st) D := ev_inl hm hf (q := (pc + 3, L, .int v :: st, D)) (by rw [← hv]; rfl) k
theorem x_lconst {n : Fin 2} {v : Int64} (hm : mMet mid = some row) (hf : mFetch mid pc = some (.lconst n, ex)) (hv : Int64.ofNat n.val = v) (k : mEv X Q mid (pc + 1) (L) (.long v :: st) (D)) : mEv X Q mid pc L (st) D := ev_inl hm hf (q := (pc + 1, L, .long v :: st, D)) (by rw [← hv]; rfl) k
theorem x_ldcI {i j a b : Nat} {z : Int} {v : Int32} (hm : mMet mid = some row) (hf : mFetch mid pc = some (.ldc i, 2, j, 2, a, b, z)) (hv : Int32.ofInt z = v) (k : mEv X Q mid (pc + 2) L (.int v :: st) D) : mEv X Q mid pc L st D := ev_inl hm hf (q := (pc + 2, L, .int v :: st, D)) (by rw [← hv]; rfl) k
theorem x_ldcS {i j a b : Nat} {z : Int} (hm : mMet mid = some row) (hf : mFetch mid pc = some (.ldc i, 2, j, 3, a, b, z)) (k : mEv X Q mid (pc + 2) L (.ref (1000000 + b) :: st) D) : mEv X Q mid pc L st D := ev_inl hm hf (q := (pc + 2, L, .ref (1000000 + b) :: st, D)) (by rfl) k
theorem x_ldc_wI {i j a b : Nat} {z : Int} {v : Int32} (hm : mMet mid = some row) (hf : mFetch mid pc = some (.ldc_w i, 3, j, 2, a, b, z)) (hv : Int32.ofInt z = v) (k : mEv X Q mid (pc + 3) L (.int v :: st) D) : mEv X Q mid pc L st D := ev_inl hm hf (q := (pc + 3, L, .int v :: st, D)) (by rw [← hv]; rfl) k
theorem x_ldc_wS {i j a b : Nat} {z : Int} (hm : mMet mid = some row) (hf : mFetch mid pc = some (.ldc_w i, 3, j, 3, a, b, z)) (k : mEv X Q mid (pc + 3) L (.ref (1000000 + b) :: st) D) : mEv X Q mid pc L st D := ev_inl hm hf (q := (pc + 3, L, .ref (1000000 + b) :: st, D)) (by rfl) k
theorem x_iload_n {i : Fin 4} {x : Int32} (hm : mMet mid = some row) (hf : mFetch mid pc = some (.iload_n i, ex)) (hL : L[i.val]? = some (some (.int x))) (k : mEv X Q mid (pc + 1) (L) (.int x :: st) (D)) : mEv X Q mid pc L (st) D := ev_inl hm hf (q := (pc + 1, L, .int x :: st, D)) (by unfold mStep; dsimp only; rw [hL]; rfl) k
theorem x_iload {i : Nat} {x : Int32} (hm : mMet mid = some row) (hf : mFetch mid pc = some (.iload i, ex)) (hL : L[i]? = some (some (.int x))) (k : mEv X Q mid (pc + 2) (L) (.int x :: st) (D)) : mEv X Q mid pc L (st) D := ev_inl hm hf (q := (pc + 2, L, .int x :: st, D)) (by unfold mStep; dsimp only; rw [hL]; rfl) k
theorem x_istore_n {i : Fin 4} {x : Int32} {L' : mLoc} (hm : mMet mid = some row) (hf : mFetch mid pc = some (.istore_n i, ex)) (hL : mS1 L i.val (.int x) = some L') (k : mEv X Q mid (pc + 1) (L') (st) (D)) : mEv X Q mid pc L (.int x :: st) D := ev_inl hm hf (q := (pc + 1, L', st, D)) (by unfold mStep; dsimp only; rw [hL]; rfl) k
theorem x_istore {i : Nat} {x : Int32} {L' : mLoc} (hm : mMet mid = some row) (hf : mFetch mid pc = some (.istore i, ex)) (hL : mS1 L i (.int x) = some L') (k : mEv X Q mid (pc + 2) (L') (st) (D)) : mEv X Q mid pc L (.int x :: st) D := ev_inl hm hf (q := (pc + 2, L', st, D)) (by unfold mStep; dsimp only; rw [hL]; rfl) k
theorem x_lload_n {i : Fin 4} {x : Int64} (hm : mMet mid = some row) (hf : mFetch mid pc = some (.lload_n i, ex)) (hL : L[i.val]? = some (some (.long x))) (k : mEv X Q mid (pc + 1) (L) (.long x :: st) (D)) : mEv X Q mid pc L (st) D := ev_inl hm hf (q := (pc + 1, L, .long x :: st, D)) (by unfold mStep; dsimp only; rw [hL]; rfl) k
theorem x_lload {i : Nat} {x : Int64} (hm : mMet mid = some row) (hf : mFetch mid pc = some (.lload i, ex)) (hL : L[i]? = some (some (.long x))) (k : mEv X Q mid (pc + 2) (L) (.long x :: st) (D)) : mEv X Q mid pc L (st) D := ev_inl hm hf (q := (pc + 2, L, .long x :: st, D)) (by unfold mStep; dsimp only; rw [hL]; rfl) k
theorem x_lstore_n {i : Fin 4} {x : Int64} {L' : mLoc} (hm : mMet mid = some row) (hf : mFetch mid pc = some (.lstore_n i, ex)) (hL : mS2 L i.val (.long x) = some L') (k : mEv X Q mid (pc + 1) (L') (st) (D)) : mEv X Q mid pc L (.long x :: st) D := ev_inl hm hf (q := (pc + 1, L', st, D)) (by unfold mStep; dsimp only; rw [hL]; rfl) k
theorem x_lstore {i : Nat} {x : Int64} {L' : mLoc} (hm : mMet mid = some row) (hf : mFetch mid pc = some (.lstore i, ex)) (hL : mS2 L i (.long x) = some L') (k : mEv X Q mid (pc + 2) (L') (st) (D)) : mEv X Q mid pc L (.long x :: st) D := ev_inl hm hf (q := (pc + 2, L', st, D)) (by unfold mStep; dsimp only; rw [hL]; rfl) k
theorem x_aload_n {i : Fin 4} {x : Nat} (hm : mMet mid = some row) (hf : mFetch mid pc = some (.aload_n i, ex)) (hL : L[i.val]? = some (some (.ref x))) (k : mEv X Q mid (pc + 1) (L) (.ref x :: st) (D)) : mEv X Q mid pc L (st) D := ev_inl hm hf (q := (pc + 1, L, .ref x :: st, D)) (by unfold mStep; dsimp only; rw [hL]; rfl) k
theorem x_aload {i : Nat} {x : Nat} (hm : mMet mid = some row) (hf : mFetch mid pc = some (.aload i, ex)) (hL : L[i]? = some (some (.ref x))) (k : mEv X Q mid (pc + 2) (L) (.ref x :: st) (D)) : mEv X Q mid pc L (st) D := ev_inl hm hf (q := (pc + 2, L, .ref x :: st, D)) (by unfold mStep; dsimp only; rw [hL]; rfl) k
theorem x_astore_n {i : Fin 4} {x : Nat} {L' : mLoc} (hm : mMet mid = some row) (hf : mFetch mid pc = some (.astore_n i, ex)) (hL : mS1 L i.val (.ref x) = some L') (k : mEv X Q mid (pc + 1) (L') (st) (D)) : mEv X Q mid pc L (.ref x :: st) D := ev_inl hm hf (q := (pc + 1, L', st, D)) (by unfold mStep; dsimp only; rw [hL]; rfl) k
theorem x_astore {i : Nat} {x : Nat} {L' : mLoc} (hm : mMet mid = some row) (hf : mFetch mid pc = some (.astore i, ex)) (hL : mS1 L i (.ref x) = some L') (k : mEv X Q mid (pc + 2) (L') (st) (D)) : mEv X Q mid pc L (.ref x :: st) D := ev_inl hm hf (q := (pc + 2, L', st, D)) (by unfold mStep; dsimp only; rw [hL]; rfl) k
theorem x_iinc {i : Nat} {n : Int} {x v : Int32} {L' : mLoc} (hm : mMet mid = some row) (hf : mFetch mid pc = some (.iinc i n, ex)) (hL : L[i]? = some (some (.int x))) (hv : Int32.ofInt n = v) (hS : mS1 L i (.int (x + v)) = some L') (k : mEv X Q mid (pc + 3) (L') (st) (D)) : mEv X Q mid pc L (st) D := ev_inl hm hf (q := (pc + 3, L', st, D)) (by unfold mStep; dsimp only; rw [hL, hv]; dsimp only; rw [hS]; rfl) k
theorem x_iadd {x y : Int32} (hm : mMet mid = some row) (hf : mFetch mid pc = some (.iadd, ex)) (k : mEv X Q mid (pc + 1) (L) (.int (x + y) :: st) (D)) : mEv X Q mid pc L (.int y :: .int x :: st) D := ev_inl hm hf (q := (pc + 1, L, .int (x + y) :: st, D)) (by rfl) k
theorem x_isub {x y : Int32} (hm : mMet mid = some row) (hf : mFetch mid pc = some (.isub, ex)) (k : mEv X Q mid (pc + 1) (L) (.int (x - y) :: st) (D)) : mEv X Q mid pc L (.int y :: .int x :: st) D := ev_inl hm hf (q := (pc + 1, L, .int (x - y) :: st, D)) (by rfl) k
theorem x_imul {x y : Int32} (hm : mMet mid = some row) (hf : mFetch mid pc = some (.imul, ex)) (k : mEv X Q mid (pc + 1) (L) (.int (x * y) :: st) (D)) : mEv X Q mid pc L (.int y :: .int x :: st) D := ev_inl hm hf (q := (pc + 1, L, .int (x * y) :: st, D)) (by rfl) k
theorem x_iand {x y : Int32} (hm : mMet mid = some row) (hf : mFetch mid pc = some (.iand, ex)) (k : mEv X Q mid (pc + 1) (L) (.int (x &&& y) :: st) (D)) : mEv X Q mid pc L (.int y :: .int x :: st) D := ev_inl hm hf (q := (pc + 1, L, .int (x &&& y) :: st, D)) (by rfl) k
theorem x_ior {x y : Int32} (hm : mMet mid = some row) (hf : mFetch mid pc = some (.ior, ex)) (k : mEv X Q mid (pc + 1) (L) (.int (x ||| y) :: st) (D)) : mEv X Q mid pc L (.int y :: .int x :: st) D := ev_inl hm hf (q := (pc + 1, L, .int (x ||| y) :: st, D)) (by rfl) k
theorem x_ixor {x y : Int32} (hm : mMet mid = some row) (hf : mFetch mid pc = some (.ixor, ex)) (k : mEv X Q mid (pc + 1) (L) (.int (x ^^^ y) :: st) (D)) : mEv X Q mid pc L (.int y :: .int x :: st) D := ev_inl hm hf (q := (pc + 1, L, .int (x ^^^ y) :: st, D)) (by rfl) k
theorem x_ishl {x y : Int32} (hm : mMet mid = some row) (hf : mFetch mid pc = some (.ishl, ex)) (k : mEv X Q mid (pc + 1) (L) (.int (x <<< (y &&& 31)) :: st) (D)) : mEv X Q mid pc L (.int y :: .int x :: st) D := ev_inl hm hf (q := (pc + 1, L, .int (x <<< (y &&& 31)) :: st, D)) (by rfl) k
theorem x_ishr {x y : Int32} (hm : mMet mid = some row) (hf : mFetch mid pc = some (.ishr, ex)) (k : mEv X Q mid (pc + 1) (L) (.int (x >>> (y &&& 31)) :: st) (D)) : mEv X Q mid pc L (.int y :: .int x :: st) D := ev_inl hm hf (q := (pc + 1, L, .int (x >>> (y &&& 31)) :: st, D)) (by rfl) k
theorem x_iushr {x y : Int32} (hm : mMet mid = some row) (hf : mFetch mid pc = some (.iushr, ex)) (k : mEv X Q mid (pc + 1) (L) (.int ((x.toUInt32 >>> (y.toUInt32 &&& Int32.toUInt32 31)).toInt32) :: st) (D)) : mEv X Q mid pc L (.int y :: .int x :: st) D := ev_inl hm hf (q := (pc + 1, L, .int ((x.toUInt32 >>> (y.toUInt32 &&& Int32.toUInt32 31)).toInt32) :: st, D)) (by rfl) k
theorem x_idiv {x y : Int32} (hm : mMet mid = some row) (hf : mFetch mid pc = some (.idiv, ex)) (hy : ¬ y = 0) (k : mEv X Q mid (pc + 1) (L) (.int (x / y) :: st) (D)) : mEv X Q mid pc L (.int y :: .int x :: st) D := ev_inl hm hf (q := (pc + 1, L, .int (x / y) :: st, D)) (by unfold mStep; dsimp only; rw [if_neg hy]; rfl) k
theorem x_irem {x y : Int32} (hm : mMet mid = some row) (hf : mFetch mid pc = some (.irem, ex)) (hy : ¬ y = 0) (k : mEv X Q mid (pc + 1) (L) (.int (x - x / y * y) :: st) (D)) : mEv X Q mid pc L (.int y :: .int x :: st) D := ev_inl hm hf (q := (pc + 1, L, .int (x - x / y * y) :: st, D)) (by unfold mStep; dsimp only; rw [if_neg hy]; rfl) k
theorem x_i2l {x : Int32} (hm : mMet mid = some row) (hf : mFetch mid pc = some (.i2l, ex)) (k : mEv X Q mid (pc + 1) (L) (.long x.toInt64 :: st) (D)) : mEv X Q mid pc L (.int x :: st) D := ev_inl hm hf (q := (pc + 1, L, .long x.toInt64 :: st, D)) (by rfl) k
theorem x_i2b {x : Int32} (hm : mMet mid = some row) (hf : mFetch mid pc = some (.i2b, ex)) (k : mEv X Q mid (pc + 1) (L) (.int x.toInt8.toInt32 :: st) (D)) : mEv X Q mid pc L (.int x :: st) D := ev_inl hm hf (q := (pc + 1, L, .int x.toInt8.toInt32 :: st, D)) (by rfl) k
theorem x_i2s {x : Int32} (hm : mMet mid = some row) (hf : mFetch mid pc = some (.i2s, ex)) (k : mEv X Q mid (pc + 1) (L) (.int x.toInt16.toInt32 :: st) (D)) : mEv X Q mid pc L (.int x :: st) D := ev_inl hm hf (q := (pc + 1, L, .int x.toInt16.toInt32 :: st, D)) (by rfl) k
theorem x_ladd {x y : Int64} (hm : mMet mid = some row) (hf : mFetch mid pc = some (.ladd, ex)) (k : mEv X Q mid (pc + 1) (L) (.long (x + y) :: st) (D)) : mEv X Q mid pc L (.long y :: .long x :: st) D := ev_inl hm hf (q := (pc + 1, L, .long (x + y) :: st, D)) (by rfl) k
theorem x_lmul {x y : Int64} (hm : mMet mid = some row) (hf : mFetch mid pc = some (.lmul, ex)) (k : mEv X Q mid (pc + 1) (L) (.long (x * y) :: st) (D)) : mEv X Q mid pc L (.long y :: .long x :: st) D := ev_inl hm hf (q := (pc + 1, L, .long (x * y) :: st, D)) (by rfl) k
theorem x_lcmp {x y : Int64} (hm : mMet mid = some row) (hf : mFetch mid pc = some (.lcmp, ex)) (k : mEv X Q mid (pc + 1) (L) (.int (lg_cmp x y) :: st) (D)) : mEv X Q mid pc L (.long y :: .long x :: st) D := ev_inl hm hf (q := (pc + 1, L, .int (lg_cmp x y) :: st, D)) (by rfl) k
theorem x_dup {v : Value} (hm : mMet mid = some row) (hf : mFetch mid pc = some (.dup, ex)) (hc : v.category = 1) (k : mEv X Q mid (pc + 1) (L) (v :: v :: st) (D)) : mEv X Q mid pc L (v :: st) D := ev_inl hm hf (q := (pc + 1, L, v :: v :: st, D)) (by unfold mStep; dsimp only; rw [hc]; rfl) k
theorem x_pop {v : Value} (hm : mMet mid = some row) (hf : mFetch mid pc = some (.pop, ex)) (hc : v.category = 1) (k : mEv X Q mid (pc + 1) (L) (st) (D)) : mEv X Q mid pc L (v :: st) D := ev_inl hm hf (q := (pc + 1, L, st, D)) (by unfold mStep; dsimp only; rw [hc]; rfl) k
theorem x_dup2 {v w : Value} (hm : mMet mid = some row) (hf : mFetch mid pc = some (.dup2, ex)) (hc : v.category = 1) (hw : w.category = 1) (k : mEv X Q mid (pc + 1) (L) (v :: w :: v :: w :: st) (D)) : mEv X Q mid pc L (v :: w :: st) D := ev_inl hm hf (q := (pc + 1, L, v :: w :: v :: w :: st, D)) (by unfold mStep; dsimp only; rw [hc, hw]; rfl) k
theorem x_pop2 {x : Int64} (hm : mMet mid = some row) (hf : mFetch mid pc = some (.pop2, ex)) (k : mEv X Q mid (pc + 1) (L) (st) (D)) : mEv X Q mid pc L (.long x :: st) D := ev_inl hm hf (q := (pc + 1, L, st, D)) (by rfl) k
theorem x_if_eq {x : Int32} {off : Int} {t : Nat} (hm : mMet mid = some row) (hf : mFetch mid pc = some (.ifCond .eq off, ex)) (ht : mTo pc off = some t) (kt : x = 0 → mEv X Q mid t L st D) (kf : ¬ (x = 0) → mEv X Q mid (pc + 3) L st D) : mEv X Q mid pc L (.int x :: st) D := by
  by_cases hc : x = 0
  · exact ev_inl hm hf (q := (t, L, st, D)) (by unfold mStep mBr; dsimp only; rw [show mTo pc off = some t from ht]; simp [hc]) (kt hc)
  · exact ev_inl hm hf (q := (pc + 3, L, st, D)) (by unfold mStep mBr; dsimp only; rw [show mTo pc off = some t from ht]; simp [hc]) (kf hc)
theorem x_icmp_eq {x y : Int32} {off : Int} {t : Nat} (hm : mMet mid = some row) (hf : mFetch mid pc = some (.if_icmp .eq off, ex)) (ht : mTo pc off = some t) (kt : x = y → mEv X Q mid t L st D) (kf : ¬ (x = y) → mEv X Q mid (pc + 3) L st D) : mEv X Q mid pc L (.int y :: .int x :: st) D := by
  by_cases hc : x = y
  · exact ev_inl hm hf (q := (t, L, st, D)) (by unfold mStep mBr; dsimp only; rw [show mTo pc off = some t from ht]; simp [hc]) (kt hc)
  · exact ev_inl hm hf (q := (pc + 3, L, st, D)) (by unfold mStep mBr; dsimp only; rw [show mTo pc off = some t from ht]; simp [hc]) (kf hc)
theorem x_if_ne {x : Int32} {off : Int} {t : Nat} (hm : mMet mid = some row) (hf : mFetch mid pc = some (.ifCond .ne off, ex)) (ht : mTo pc off = some t) (kt : ¬ x = 0 → mEv X Q mid t L st D) (kf : x = 0 → mEv X Q mid (pc + 3) L st D) : mEv X Q mid pc L (.int x :: st) D := by
  by_cases hc : x = 0
  · exact ev_inl hm hf (q := (pc + 3, L, st, D)) (by unfold mStep mBr; dsimp only; rw [show mTo pc off = some t from ht]; simp [hc]) (kf hc)
  · exact ev_inl hm hf (q := (t, L, st, D)) (by unfold mStep mBr; dsimp only; rw [show mTo pc off = some t from ht]; simp [hc]) (kt hc)
theorem x_icmp_ne {x y : Int32} {off : Int} {t : Nat} (hm : mMet mid = some row) (hf : mFetch mid pc = some (.if_icmp .ne off, ex)) (ht : mTo pc off = some t) (kt : ¬ x = y → mEv X Q mid t L st D) (kf : x = y → mEv X Q mid (pc + 3) L st D) : mEv X Q mid pc L (.int y :: .int x :: st) D := by
  by_cases hc : x = y
  · exact ev_inl hm hf (q := (pc + 3, L, st, D)) (by unfold mStep mBr; dsimp only; rw [show mTo pc off = some t from ht]; simp [hc]) (kf hc)
  · exact ev_inl hm hf (q := (t, L, st, D)) (by unfold mStep mBr; dsimp only; rw [show mTo pc off = some t from ht]; simp [hc]) (kt hc)
theorem x_if_lt {x : Int32} {off : Int} {t : Nat} (hm : mMet mid = some row) (hf : mFetch mid pc = some (.ifCond .lt off, ex)) (ht : mTo pc off = some t) (kt : x < 0 → mEv X Q mid t L st D) (kf : ¬ (x < 0) → mEv X Q mid (pc + 3) L st D) : mEv X Q mid pc L (.int x :: st) D := by
  by_cases hc : x < 0
  · exact ev_inl hm hf (q := (t, L, st, D)) (by unfold mStep mBr; dsimp only; rw [show mTo pc off = some t from ht]; simp [hc]) (kt hc)
  · exact ev_inl hm hf (q := (pc + 3, L, st, D)) (by unfold mStep mBr; dsimp only; rw [show mTo pc off = some t from ht]; simp [hc]) (kf hc)
theorem x_icmp_lt {x y : Int32} {off : Int} {t : Nat} (hm : mMet mid = some row) (hf : mFetch mid pc = some (.if_icmp .lt off, ex)) (ht : mTo pc off = some t) (kt : x < y → mEv X Q mid t L st D) (kf : ¬ (x < y) → mEv X Q mid (pc + 3) L st D) : mEv X Q mid pc L (.int y :: .int x :: st) D := by
  by_cases hc : x < y
  · exact ev_inl hm hf (q := (t, L, st, D)) (by unfold mStep mBr; dsimp only; rw [show mTo pc off = some t from ht]; simp [hc]) (kt hc)
  · exact ev_inl hm hf (q := (pc + 3, L, st, D)) (by unfold mStep mBr; dsimp only; rw [show mTo pc off = some t from ht]; simp [hc]) (kf hc)
theorem x_if_ge {x : Int32} {off : Int} {t : Nat} (hm : mMet mid = some row) (hf : mFetch mid pc = some (.ifCond .ge off, ex)) (ht : mTo pc off = some t) (kt : 0 ≤ x → mEv X Q mid t L st D) (kf : ¬ (0 ≤ x) → mEv X Q mid (pc + 3) L st D) : mEv X Q mid pc L (.int x :: st) D := by
  by_cases hc : 0 ≤ x
  · exact ev_inl hm hf (q := (t, L, st, D)) (by unfold mStep mBr; dsimp only; rw [show mTo pc off = some t from ht]; simp [hc]) (kt hc)
  · exact ev_inl hm hf (q := (pc + 3, L, st, D)) (by unfold mStep mBr; dsimp only; rw [show mTo pc off = some t from ht]; simp [hc]) (kf hc)
theorem x_icmp_ge {x y : Int32} {off : Int} {t : Nat} (hm : mMet mid = some row) (hf : mFetch mid pc = some (.if_icmp .ge off, ex)) (ht : mTo pc off = some t) (kt : y ≤ x → mEv X Q mid t L st D) (kf : ¬ (y ≤ x) → mEv X Q mid (pc + 3) L st D) : mEv X Q mid pc L (.int y :: .int x :: st) D := by
  by_cases hc : y ≤ x
  · exact ev_inl hm hf (q := (t, L, st, D)) (by unfold mStep mBr; dsimp only; rw [show mTo pc off = some t from ht]; simp [hc]) (kt hc)
  · exact ev_inl hm hf (q := (pc + 3, L, st, D)) (by unfold mStep mBr; dsimp only; rw [show mTo pc off = some t from ht]; simp [hc]) (kf hc)
theorem x_if_gt {x : Int32} {off : Int} {t : Nat} (hm : mMet mid = some row) (hf : mFetch mid pc = some (.ifCond .gt off, ex)) (ht : mTo pc off = some t) (kt : 0 < x → mEv X Q mid t L st D) (kf : ¬ (0 < x) → mEv X Q mid (pc + 3) L st D) : mEv X Q mid pc L (.int x :: st) D := by
  by_cases hc : 0 < x
  · exact ev_inl hm hf (q := (t, L, st, D)) (by unfold mStep mBr; dsimp only; rw [show mTo pc off = some t from ht]; simp [hc]) (kt hc)
  · exact ev_inl hm hf (q := (pc + 3, L, st, D)) (by unfold mStep mBr; dsimp only; rw [show mTo pc off = some t from ht]; simp [hc]) (kf hc)
theorem x_icmp_gt {x y : Int32} {off : Int} {t : Nat} (hm : mMet mid = some row) (hf : mFetch mid pc = some (.if_icmp .gt off, ex)) (ht : mTo pc off = some t) (kt : y < x → mEv X Q mid t L st D) (kf : ¬ (y < x) → mEv X Q mid (pc + 3) L st D) : mEv X Q mid pc L (.int y :: .int x :: st) D := by
  by_cases hc : y < x
  · exact ev_inl hm hf (q := (t, L, st, D)) (by unfold mStep mBr; dsimp only; rw [show mTo pc off = some t from ht]; simp [hc]) (kt hc)
  · exact ev_inl hm hf (q := (pc + 3, L, st, D)) (by unfold mStep mBr; dsimp only; rw [show mTo pc off = some t from ht]; simp [hc]) (kf hc)
theorem x_if_le {x : Int32} {off : Int} {t : Nat} (hm : mMet mid = some row) (hf : mFetch mid pc = some (.ifCond .le off, ex)) (ht : mTo pc off = some t) (kt : x ≤ 0 → mEv X Q mid t L st D) (kf : ¬ (x ≤ 0) → mEv X Q mid (pc + 3) L st D) : mEv X Q mid pc L (.int x :: st) D := by
  by_cases hc : x ≤ 0
  · exact ev_inl hm hf (q := (t, L, st, D)) (by unfold mStep mBr; dsimp only; rw [show mTo pc off = some t from ht]; simp [hc]) (kt hc)
  · exact ev_inl hm hf (q := (pc + 3, L, st, D)) (by unfold mStep mBr; dsimp only; rw [show mTo pc off = some t from ht]; simp [hc]) (kf hc)
theorem x_icmp_le {x y : Int32} {off : Int} {t : Nat} (hm : mMet mid = some row) (hf : mFetch mid pc = some (.if_icmp .le off, ex)) (ht : mTo pc off = some t) (kt : x ≤ y → mEv X Q mid t L st D) (kf : ¬ (x ≤ y) → mEv X Q mid (pc + 3) L st D) : mEv X Q mid pc L (.int y :: .int x :: st) D := by
  by_cases hc : x ≤ y
  · exact ev_inl hm hf (q := (t, L, st, D)) (by unfold mStep mBr; dsimp only; rw [show mTo pc off = some t from ht]; simp [hc]) (kt hc)
  · exact ev_inl hm hf (q := (pc + 3, L, st, D)) (by unfold mStep mBr; dsimp only; rw [show mTo pc off = some t from ht]; simp [hc]) (kf hc)
theorem x_goto {off : Int} {t : Nat} (hm : mMet mid = some row) (hf : mFetch mid pc = some (.goto off, ex)) (ht : mTo pc off = some t) (k : mEv X Q mid t L st D) : mEv X Q mid pc L st D := ev_inl hm hf (q := (t, L, st, D)) (by unfold mStep mGo; dsimp only; rw [show mTo pc off = some t from ht]; rfl) k
theorem x_tsOut {x : Int32} {dflt lo hi : Int} {offs : Array Int} {t : Nat} (hm : mMet mid = some row) (hf : mFetch mid pc = some (.tableswitch dflt lo hi offs, ex)) (hx : x.toInt < lo ∨ hi < x.toInt) (ht : mTo pc dflt = some t) (k : mEv X Q mid t L st D) : mEv X Q mid pc L (.int x :: st) D := ev_inl hm hf (q := (t, L, st, D)) (by unfold mStep mGo; dsimp only; rw [if_pos hx, show mTo pc dflt = some t from ht]; rfl) k
theorem x_tsIn {x : Int32} {dflt lo hi off : Int} {offs : Array Int} {t : Nat} (hm : mMet mid = some row) (hf : mFetch mid pc = some (.tableswitch dflt lo hi offs, ex)) (hx : ¬ (x.toInt < lo ∨ hi < x.toInt)) (ho : offs[(x.toInt - lo).toNat]? = some off) (ht : mTo pc off = some t) (k : mEv X Q mid t L st D) : mEv X Q mid pc L (.int x :: st) D := ev_inl hm hf (q := (t, L, st, D)) (by unfold mStep mGo; dsimp only; rw [if_neg hx, ho]; dsimp only; rw [show mTo pc off = some t from ht]; rfl) k
theorem x_ts {x : Int32} {dflt lo hi : Int} {offs : Array Int} (hm : mMet mid = some row) (hf : mFetch mid pc = some (.tableswitch dflt lo hi offs, ex)) (hD : (x.toInt < lo ∨ hi < x.toInt) → ∃ t, mTo pc dflt = some t ∧ mEv X Q mid t L st D) (hI : ∀ i : Nat, x.toInt = lo + i → (i : Int) ≤ hi - lo → ∃ off t, offs[i]? = some off ∧ mTo pc off = some t ∧ mEv X Q mid t L st D) : mEv X Q mid pc L (.int x :: st) D := by
  by_cases hx : x.toInt < lo ∨ hi < x.toInt
  · obtain ⟨t, h1, h2⟩ := hD hx
    exact x_tsOut hm hf hx h1 h2
  · obtain ⟨off, t, h1, h2, h3⟩ := hI (x.toInt - lo).toNat (by omega) (by omega)
    exact x_tsIn hm hf hx h1 h2 h3
theorem x_getf {i idx j kd a b : Nat} {z : Int} {v : Value} (hm : mMet mid = some row) (hf : mFetch mid pc = some (.getfield idx, 3, j, kd, a, b, z)) (hv : mGet D i a b = some v) (k : mEv X Q mid (pc + 3) L (v :: st) D) : mEv X Q mid pc L (.ref i :: st) D := ev_inl hm hf (q := (pc + 3, L, v :: st, D)) (by unfold mStep; dsimp only; rw [hv]; rfl) k
theorem x_putf {i idx j kd a b : Nat} {z : Int} {v : Value} {D1 : mHp} (hm : mMet mid = some row) (hf : mFetch mid pc = some (.putfield idx, 3, j, kd, a, b, z)) (hv : mPut row kd D i a b v = some D1) (k : mEv X Q mid (pc + 3) L st D1) : mEv X Q mid pc L (v :: .ref i :: st) D := ev_inl hm hf (q := (pc + 3, L, st, D1)) (by unfold mStep; dsimp only; rw [hv]; rfl) k
theorem x_gets {idx : Nat} (hm : mMet mid = some row) (hf : mFetch mid pc = some (.getstatic idx, ex)) (k : mEv X Q mid (pc + 3) L (.ref 1000100 :: st) D) : mEv X Q mid pc L st D := ev_inl hm hf (q := (pc + 3, L, .ref 1000100 :: st, D)) (by rfl) k
theorem x_iald {i : Nat} {j : Int32} {v : Value} (hm : mMet mid = some row) (hf : mFetch mid pc = some (.iaload, ex)) (hv : mLd X 0 D i j = some v) (k : mEv X Q mid (pc + 1) L (v :: st) D) : mEv X Q mid pc L (.int j :: .ref i :: st) D := ev_inl hm hf (q := (pc + 1, L, v :: st, D)) (by unfold mStep; dsimp only; rw [hv]; rfl) k
theorem x_bald {i : Nat} {j : Int32} {v : Value} (hm : mMet mid = some row) (hf : mFetch mid pc = some (.baload, ex)) (hv : mLd X 1 D i j = some v) (k : mEv X Q mid (pc + 1) L (v :: st) D) : mEv X Q mid pc L (.int j :: .ref i :: st) D := ev_inl hm hf (q := (pc + 1, L, v :: st, D)) (by unfold mStep; dsimp only; rw [hv]; rfl) k
theorem x_aald {i : Nat} {j : Int32} {v : Value} (hm : mMet mid = some row) (hf : mFetch mid pc = some (.aaload, ex)) (hv : mLdq D i j = some v) (k : mEv X Q mid (pc + 1) L (v :: st) D) : mEv X Q mid pc L (.int j :: .ref i :: st) D := ev_inl hm hf (q := (pc + 1, L, v :: st, D)) (by unfold mStep; dsimp only; rw [hv]; rfl) k
theorem x_iast {i : Nat} {j x : Int32} {D1 : mHp} (hm : mMet mid = some row) (hf : mFetch mid pc = some (.iastore, ex)) (hv : mStI 0 D i j x = some D1) (k : mEv X Q mid (pc + 1) L st D1) : mEv X Q mid pc L (.int x :: .int j :: .ref i :: st) D := ev_inl hm hf (q := (pc + 1, L, st, D1)) (by unfold mStep; dsimp only; rw [hv]; rfl) k
theorem x_bast {i : Nat} {j x : Int32} {D1 : mHp} (hm : mMet mid = some row) (hf : mFetch mid pc = some (.bastore, ex)) (hv : mStI 1 D i j x = some D1) (k : mEv X Q mid (pc + 1) L st D1) : mEv X Q mid pc L (.int x :: .int j :: .ref i :: st) D := ev_inl hm hf (q := (pc + 1, L, st, D1)) (by unfold mStep; dsimp only; rw [hv]; rfl) k
theorem x_alen {i : Nat} {n : Int32} (hm : mMet mid = some row) (hf : mFetch mid pc = some (.arraylength, ex)) (hv : mLen X D i = some n) (k : mEv X Q mid (pc + 1) L (.int n :: st) D) : mEv X Q mid pc L (.ref i :: st) D := ev_inl hm hf (q := (pc + 1, L, .int n :: st, D)) (by unfold mStep; dsimp only; rw [hv]; rfl) k
theorem x_callS {idx len j kd a b : Nat} {z : Int} {as r : List Value} {rv : Option Value} {D1 : mHp} (hm : mMet mid = some row) (hf : mFetch mid pc = some (.invokestatic idx, len, j, kd, a, b, z)) (hs : mCall (.invokestatic idx, len, j, kd, a, b, z) false pc L st D = some (.inr (.inr (a, as, r)))) (hc : mT X a as D rv D1) (k : mEv X Q mid (pc + 3) L (rv.toList ++ r) D1) : mEv X Q mid pc L st D := ev_call hm hf (x := (a, as, r)) hs hc k
theorem x_callV {idx len j kd a b : Nat} {z : Int} {as r : List Value} {rv : Option Value} {D1 : mHp} (hm : mMet mid = some row) (hf : mFetch mid pc = some (.invokevirtual idx, len, j, kd, a, b, z)) (hs : mCall (.invokevirtual idx, len, j, kd, a, b, z) true pc L st D = some (.inr (.inr (a, as, r)))) (hc : mT X a as D rv D1) (k : mEv X Q mid (pc + 3) L (rv.toList ++ r) D1) : mEv X Q mid pc L st D := ev_call hm hf (x := (a, as, r)) hs hc k
theorem x_callI {idx len j kd a b : Nat} {z : Int} {as r : List Value} {rv : Option Value} {D1 : mHp} (hm : mMet mid = some row) (hf : mFetch mid pc = some (.invokespecial idx, len, j, kd, a, b, z)) (hs : mCall (.invokespecial idx, len, j, kd, a, b, z) true pc L st D = some (.inr (.inr (a, as, r)))) (hc : mT X a as D rv D1) (k : mEv X Q mid (pc + 3) L (rv.toList ++ r) D1) : mEv X Q mid pc L st D := ev_call hm hf (x := (a, as, r)) hs hc k
theorem x_lib {idx len j kd a b : Nat} {z : Int} {q : Nat × mLoc × List Value × mHp} (hm : mMet mid = some row) (hf : mFetch mid pc = some (.invokestatic idx, len, j, kd, a, b, z)) (hs : mCall (.invokestatic idx, len, j, kd, a, b, z) false pc L st D = some (.inl q)) (k : mEv X Q mid q.1 q.2.1 q.2.2.1 q.2.2.2) : mEv X Q mid pc L st D := ev_inl hm hf hs k
theorem x_libV {idx len j kd a b : Nat} {z : Int} {q : Nat × mLoc × List Value × mHp} (hm : mMet mid = some row) (hf : mFetch mid pc = some (.invokevirtual idx, len, j, kd, a, b, z)) (hs : mCall (.invokevirtual idx, len, j, kd, a, b, z) true pc L st D = some (.inl q)) (k : mEv X Q mid q.1 q.2.1 q.2.2.1 q.2.2.2) : mEv X Q mid pc L st D := ev_inl hm hf hs k
theorem x_libI {idx len j kd a b : Nat} {z : Int} {q : Nat × mLoc × List Value × mHp} (hm : mMet mid = some row) (hf : mFetch mid pc = some (.invokespecial idx, len, j, kd, a, b, z)) (hs : mCall (.invokespecial idx, len, j, kd, a, b, z) true pc L st D = some (.inl q)) (k : mEv X Q mid q.1 q.2.1 q.2.2.1 q.2.2.2) : mEv X Q mid pc L st D := ev_inl hm hf hs k
theorem x_iret {v : Int32} {ty : FieldType} (hm : mMet mid = some row) (hf : mFetch mid pc = some (.ireturn, ex)) (hty : row.2.2.2.2.1 = some ty) (hn : narrow ty (.int v) = .int v) (hq : Q (some (.int v)) D) : mEv X Q mid pc L [.int v] D := ev_ret hm hf (v := some (.int v)) (by unfold mStep; dsimp only; rw [hty]; dsimp only; rw [decide_eq_true hn]; rfl) hq
theorem x_lret {v : Int64} (hm : mMet mid = some row) (hf : mFetch mid pc = some (.lreturn, ex)) (hty : row.2.2.2.2.1 = some .long) (hq : Q (some (.long v)) D) : mEv X Q mid pc L [.long v] D := ev_ret hm hf (v := some (.long v)) (by unfold mStep; dsimp only; rw [hty]; rfl) hq
theorem x_aret {v : Nat} {C : String} (hm : mMet mid = some row) (hf : mFetch mid pc = some (.areturn, ex)) (hty : row.2.2.2.2.1 = some (.object C)) (hq : Q (some (.ref v)) D) : mEv X Q mid pc L [.ref v] D := ev_ret hm hf (v := some (.ref v)) (by unfold mStep; dsimp only; rw [hty]) hq
theorem x_ret (hm : mMet mid = some row) (hf : mFetch mid pc = some (.return_, ex)) (hty : row.2.2.2.2.1 = none) (hq : Q none D) : mEv X Q mid pc L [] D := ev_ret hm hf (v := none) (by unfold mStep; dsimp only; rw [hty]; rfl) hq
end MEV
end
section
/-! ===== the world behind the constructors: its cells are fixed, its numbers are M ===== -/
abbrev mM : Type := Nat → Nat → Int32
def mSp : List (Nat × Nat × List Nat) := [(5, 3, [2, 19, 36, 53, 55, 56, 0, 57, 58]),
  (5, 2, [3, 10, 18, 0, 0, 0, 0, 0]),
  (3, 6, [3, 4, 5, 6, 7, 8]),
  (0, 8, []),
  (0, 8, []),
  (0, 8, []),
  (0, 8, []),
  (0, 8, []),
  (0, 8, []),
  (3, 7, [10, 11, 12, 13, 14, 15, 16]),
  (0, 8, []),
  (0, 8, []),
  (0, 8, []),
  (0, 8, []),
  (0, 8, []),
  (0, 8, []),
  (0, 8, []),
  (0, 10, []),
  (5, 2, [20, 27, 35, 0, 0, 0, 0, 0]),
  (3, 6, [20, 21, 22, 23, 24, 25]),
  (0, 8, []),
  (0, 8, []),
  (0, 8, []),
  (0, 8, []),
  (0, 8, []),
  (0, 8, []),
  (3, 7, [27, 28, 29, 30, 31, 32, 33]),
  (0, 8, []),
  (0, 8, []),
  (0, 8, []),
  (0, 8, []),
  (0, 8, []),
  (0, 8, []),
  (0, 8, []),
  (0, 10, []),
  (5, 2, [37, 44, 52, 0, 0, 0, 0, 0]),
  (3, 6, [37, 38, 39, 40, 41, 42]),
  (0, 8, []),
  (0, 8, []),
  (0, 8, []),
  (0, 8, []),
  (0, 8, []),
  (0, 8, []),
  (3, 7, [44, 45, 46, 47, 48, 49, 50]),
  (0, 8, []),
  (0, 8, []),
  (0, 8, []),
  (0, 8, []),
  (0, 8, []),
  (0, 8, []),
  (0, 8, []),
  (0, 10, []),
  (5, 1, [54, 0, 0, 0, 0, 0, 0]),
  (1, 120, []),
  (2, 4, [58, 60, 62, 64]),
  (0, 7, []),
  (0, 8, []),
  (0, 8, []),
  (5, 0, [60, 0, 0]),
  (0, 40, []),
  (5, 0, [62, 0, 0]),
  (0, 40, []),
  (5, 0, [64, 0, 0]),
  (0, 40, []),
  (5, 0, [66, 0, 0]),
  (0, 40, []),
  (5, 4, [68, 69, 70, 0, 71, 72, 0, 73, 74, 0, 0, 0, 0, 0, 0, 75, 76, 0, 0, 0, 77, 78, 79, 80]),
  (0, 118, []),
  (0, 118, []),
  (0, 118, []),
  (0, 8, []),
  (0, 8, []),
  (0, 8, []),
  (0, 120, []),
  (4, 7, [1000007, 1000001, 1000002, 1000003, 1000004, 1000005, 1000006]),
  (0, 840, []),
  (0, 4, []),
  (0, 4, []),
  (0, 160, []),
  (0, 40, [])]
noncomputable def mCellv (M : mM) (k : Nat) (q : Nat × Nat × List Nat) : va_E := match q.1 with
  | 0 => .inl (0, q.2.1, .inl (M k))
  | 1 => .inl (1, q.2.1, .inl (M k))
  | 5 => .inr (q.2.1, (q.2.2.zipIdx).map fun x => match x.1 with
    | 0 => .int (M k x.2)
    | r + 1 => .ref r)
  | t => .inl (t, q.2.1, .inr (.inr (.inr (.inr (fun i => q.2.2[i]?)))))
noncomputable def con (M : mM) : mHp := (mSp.zipIdx).map fun x => mCellv M x.2 x.1
def mput (M : mM) (a b : Nat) (v : Int32) : mM := fun i j => if i = a ∧ j = b then v else M i j
theorem con_get {M : mM} {k : Nat} {q : Nat × Nat × List Nat} (h : mSp[k]? = some q) : (con M)[k]? = some (mCellv M k q) := by
  unfold con
  rw [List.getElem?_map, List.getElem?_zipIdx, h]
  simp
theorem con_none {M : mM} {k : Nat} (h : 80 ≤ k) : (con M)[k]? = none := by
  have hl : mSp.length = 80 := rfl
  unfold con
  rw [List.getElem?_map, List.getElem?_zipIdx, List.getElem?_eq_none (by omega)]
  rfl
theorem con_set {M M' : mM} {k : Nat} {q : Nat × Nat × List Nat} {c : va_E} (h : mSp[k]? = some q) (hc : mCellv M' k q = c) (ho : ∀ i, i ≠ k → M' i = M i) : (con M).set k c = con M' := by
  refine List.ext_getElem? fun i => ?_
  by_cases hi : i = k
  · subst hi
    rw [List.getElem?_set_self (mLt_of (con_get (M := M) h)), con_get h, hc]
  · rw [List.getElem?_set_ne (fun e => hi e.symm)]
    cases hs : mSp[i]? with
    | none =>
      have hl : mSp.length = 80 := rfl
      have := List.getElem?_eq_none_iff.mp hs
      rw [con_none (by omega), con_none (by omega)]
    | some qi =>
      rw [con_get hs, con_get hs]
      unfold mCellv
      rw [ho i hi]
theorem con_obj {M : mM} {i a : Nat} {fs : List Nat} (h : mSp[i]? = some (5, a, fs)) : (con M)[i]? = some (.inr (a, (fs.zipIdx).map fun x => match x.1 with
    | 0 => .int (M i x.2)
    | r + 1 => .ref r)) := con_get h
theorem con_fld {M : mM} {i b : Nat} {fs : List Nat} : (((fs.zipIdx).map fun x => match x.1 with
    | 0 => (.int (M i x.2) : Value)
    | r + 1 => .ref r))[b]? = (fs[b]?).map fun y => match y with
    | 0 => .int (M i b)
    | r + 1 => .ref r := by
  rw [List.getElem?_map, List.getElem?_zipIdx]
  cases fs[b]? with
  | none => rfl
  | some y => simp
section CON
variable {X : mSc} {Q : Option Value → mHp → Prop} {mid pc : Nat} {L : mLoc} {st : List Value} {M : mM} {row : mRow} {ex : Nat × Nat × Nat × Nat × Nat × Int} {i a b n : Nat} {fs : List Nat}
theorem gI (hs : mSp[i]? = some (5, a, fs)) (hb : fs[b]? = some 0) : mGet (con M) i a b = some (.int (M i b)) := by
  unfold mGet
  rw [con_obj hs]
  dsimp only
  rw [con_fld, hb, Nat.beq_refl]
  rfl
theorem gR {r : Nat} (hs : mSp[i]? = some (5, a, fs)) (hb : fs[b]? = some (r + 1)) : mGet (con M) i a b = some (.ref r) := by
  unfold mGet
  rw [con_obj hs]
  dsimp only
  rw [con_fld, hb, Nat.beq_refl]
  rfl
theorem pI {kd : Nat} {v : Int32} (hs : mSp[i]? = some (5, a, fs)) (hb : fs[b]? = some 0) (hN : b < mFN a) (hfit : mFit (mFy a b) (.int v) = true) (hfin : (mFT a b).2.2.2 = false) : mPut row kd (con M) i a b (.int v) = some (con (mput M i b v)) := by
  unfold mPut
  rw [con_obj hs]
  dsimp only
  have hl : b < fs.length := (List.getElem?_eq_some_iff.mp hb).1
  have hl2 : b < ((fs.zipIdx).map fun x => match x.1 with
    | 0 => (.int (M i x.2) : Value)
    | r + 1 => .ref r).length := by simpa using hl
  rw [Nat.beq_refl, Nat.blt_eq.mpr hN, Nat.blt_eq.mpr hl2, hfit, hfin]
  simp only [Bool.and_true, Bool.not_false, Bool.true_or, cond_true, Option.some.injEq]
  refine con_set hs ?_ fun j hj => by funext c; simp [mput, hj]
  show (.inr (a, _) : va_E) = .inr (a, _)
  congr 2
  refine List.ext_getElem? fun c => ?_
  by_cases hc : c = b
  · subst hc
    rw [List.getElem?_set_self hl2, con_fld, hb]
    simp [mput]
  · rw [List.getElem?_set_ne (fun e => hc e.symm), con_fld, con_fld]
    simp [mput, hc]
theorem jI_int {k : Nat} (h : k < 2147483648) : (nI k).toInt = (k : Int) := Int32.toInt_ofNat_of_lt h
theorem jI_nat {k : Nat} (h : k < 2147483648) : (nI k).toNatClampNeg = k := by
  show (nI k).toInt.toNat = k
  rw [jI_int h]
  rfl
theorem jI_nn {k : Nat} (h : k < 2147483648) : ¬ nI k < 0 := by
  rw [Int32.lt_iff_toInt_lt, jI_int h]
  show ¬ (k : Int) < 0
  omega
theorem jI_out {k n : Nat} (hk : k < n) (hn : n ≤ 1000) : mOut (nI k) n = false := by
  unfold mOut
  rw [jI_nat (by omega), decide_eq_false_iff_not]
  rintro (h | h)
  · exact jI_nn (by omega) h
  · omega
theorem lI {k : Nat} (hs : mSp[i]? = some (0, n, fs)) (hk : k < n) (hn : n ≤ 1000) : mLd X 0 (con M) i (nI k) = some (.int (M i k)) := by
  unfold mLd
  rw [con_get hs]
  show cond (Nat.beq 0 0 && !mOut (nI k) n) (some (Value.int (M i (nI k).toNatClampNeg))) none = _
  rw [jI_out hk hn, jI_nat (by omega)]
  rfl
theorem lB {k : Nat} (hs : mSp[i]? = some (1, n, fs)) (hk : k < n) (hn : n ≤ 1000) : mLd X 1 (con M) i (nI k) = some (.int (M i k)) := by
  unfold mLd
  rw [con_get hs]
  show cond (Nat.beq 1 1 && !mOut (nI k) n) (some (Value.int (M i (nI k).toNatClampNeg))) none = _
  rw [jI_out hk hn, jI_nat (by omega)]
  rfl
theorem lQ {k r : Nat} (t : Nat) (ht : t = 2 ∨ t = 3 ∨ t = 4) (hs : mSp[i]? = some (t, n, fs)) (hr : fs[k]? = some r) (hk : k < n) (hn : n ≤ 1000) : mLdq (con M) i (nI k) = some (.ref r) := by
  unfold mLdq
  rw [con_get hs]
  rcases ht with rfl | rfl | rfl
  · show cond (Nat.ble 2 2 && Nat.ble 2 4 && !mOut (nI k) n) (some (va_rf (fs[(nI k).toNatClampNeg]?))) none = _
    rw [jI_out hk hn, jI_nat (by omega), hr]
    rfl
  · show cond (Nat.ble 2 3 && Nat.ble 3 4 && !mOut (nI k) n) (some (va_rf (fs[(nI k).toNatClampNeg]?))) none = _
    rw [jI_out hk hn, jI_nat (by omega), hr]
    rfl
  · show cond (Nat.ble 2 4 && Nat.ble 4 4 && !mOut (nI k) n) (some (va_rf (fs[(nI k).toNatClampNeg]?))) none = _
    rw [jI_out hk hn, jI_nat (by omega), hr]
    rfl
theorem upd_mput {k : Nat} {v : Int32} : upd (M i) k v = mput M i k v i := by
  funext c
  simp [upd, mput]
theorem sI {k : Nat} {v : Int32} (hs : mSp[i]? = some (0, n, fs)) (hk : k < n) (hn : n ≤ 1000) : mStI 0 (con M) i (nI k) v = some (con (mput M i k v)) := by
  unfold mStI
  rw [con_get hs]
  show cond (Nat.beq 0 0 && !mOut (nI k) n) (some ((con M).set i (.inl (0, n, .inl (upd (M i) (nI k).toNatClampNeg v))))) none = _
  rw [jI_out hk hn, jI_nat (by omega)]
  show some ((con M).set i _) = _
  rw [con_set (M' := mput M i k v) hs (by rw [upd_mput]; rfl) fun j hj => by funext c; simp [mput, hj]]
theorem sB {k : Nat} {v : Int32} (hs : mSp[i]? = some (1, n, fs)) (hk : k < n) (hn : n ≤ 1000) : mStI 1 (con M) i (nI k) v = some (con (mput M i k v.toInt8.toInt32)) := by
  unfold mStI
  rw [con_get hs]
  show cond (Nat.beq 1 1 && !mOut (nI k) n) (some ((con M).set i (.inl (1, n, .inl (upd (M i) (nI k).toNatClampNeg v.toInt8.toInt32))))) none = _
  rw [jI_out hk hn, jI_nat (by omega)]
  show some ((con M).set i _) = _
  rw [con_set (M' := mput M i k v.toInt8.toInt32) hs (by rw [upd_mput]; rfl) fun j hj => by funext c; simp [mput, hj]]
theorem gLen (t : Nat) (ht : Nat.ble t 4 = true) (hs : mSp[i]? = some (t, n, fs)) : mLen X (con M) i = some (nI n) := by
  unfold mLen
  rw [con_get hs]
  have h := Nat.le_of_ble_eq_true ht
  rcases (by omega : t = 0 ∨ t = 1 ∨ t = 2 ∨ t = 3 ∨ t = 4) with rfl | rfl | rfl | rfl | rfl <;> rfl
theorem lK {k : Nat} (hk : k < 7) : mLd X 0 (con M) 1000100 (nI k) = some (.int (mKA k)) := by
  unfold mLd
  rw [con_none (by decide)]
  show (match mRo X 1000100 with
    | some (n, f) => cond (!mOut (nI k) n) (some (Value.int (f (nI k).toNatClampNeg))) none
    | none => none) = _
  have : mRo X 1000100 = some (7, mKA) := rfl
  rw [this]
  dsimp only
  rw [jI_out hk (by omega), jI_nat (by omega)]
  rfl
theorem lX {k : Nat} (hk : k < X.1) (hX : X.1 ≤ 3072) : mLd X 0 (con M) 1000200 (nI k) = some (.int (X.2 k)) := by
  unfold mLd
  rw [con_none (by decide)]
  show (match mRo X 1000200 with
    | some (n, f) => cond (!mOut (nI k) n) (some (Value.int (f (nI k).toNatClampNeg))) none
    | none => none) = _
  have : mRo X 1000200 = some X := rfl
  rw [this]
  obtain ⟨xn, xf⟩ := X
  dsimp only at hk hX ⊢
  have ho : mOut (nI k) xn = false := by
    unfold mOut
    rw [jI_nat (by omega), decide_eq_false_iff_not]
    rintro (h | h)
    · exact jI_nn (by omega) h
    · omega
  rw [ho, jI_nat (by omega)]
  rfl
theorem lenX : mLen X (con M) 1000200 = some (nI X.1) := by
  unfold mLen
  rw [con_none (by decide)]
  rfl
theorem jI_add (a b : Nat) : nI a + nI b = nI (a + b) := (Int32.ofNat_add a b).symm
theorem jI_mul (a b : Nat) : nI a * nI b = nI (a * b) := (Int32.ofNat_mul a b).symm
theorem jI_lt {a b : Nat} (ha : a < 2147483648) (hb : b < 2147483648) : nI a < nI b ↔ a < b := by
  rw [Int32.lt_iff_toInt_lt, jI_int ha, jI_int hb]
  omega
theorem jI_le {a b : Nat} (ha : a < 2147483648) (hb : b < 2147483648) : nI a ≤ nI b ↔ a ≤ b := by
  rw [Int32.le_iff_toInt_le, jI_int ha, jI_int hb]
  omega
theorem jI_inj {a b : Nat} (ha : a < 2147483648) (hb : b < 2147483648) (h : nI a = nI b) : a = b := by
  have := congrArg Int32.toInt h
  rw [jI_int ha, jI_int hb] at this
  omega
/-- what lies in bounds is such a number -/
theorem jI_of {v : Int32} (h : ¬ v < 0) : ∃ k : Nat, k < 2147483648 ∧ v = nI k := by
  have h0 : (0 : Int) ≤ v.toInt := by
    have := Int32.not_lt.mp h
    simpa using Int32.le_iff_toInt_le.mp this
  refine ⟨v.toInt.toNat, ?_, ?_⟩
  · have := v.toInt_lt
    omega
  · apply Int32.toInt_inj.mp
    have := v.toInt_lt
    rw [jI_int (by omega)]
    omega
end CON
/-! ===== what always holds of the numbers; contracts of methods that write ===== -/
def kd (a b : Nat) : Nat := if a = 67 ∨ a = 68 ∨ a = 69 then (if b = 1 ∨ b = 2 then 1 else if 4 ≤ b ∧ b ≤ 13 then 2 else if 14 ≤ b ∧ b < 62 then (if (b - 14) % 6 = 0 then 3 else if (b - 14) % 6 = 4 ∨ (b - 14) % 6 = 5 then 2 else 0) else 0)
  else if a = 1 ∨ a = 18 ∨ a = 35 then (if b = 3 ∨ b = 4 then 1 else 0)
  else if a = 3 ∨ a = 20 ∨ a = 37 then 3
  else if a = 7 ∨ a = 24 ∨ a = 41 ∨ a = 8 ∨ a = 25 ∨ a = 42 ∨ a = 17 ∨ a = 34 ∨ a = 51 then 2
  else if a = 52 then (if b = 1 then 4 else 0)
  else if a = 58 ∨ a = 60 ∨ a = 62 ∨ a = 64 then (if b = 2 then 5 else 0)
  else if a = 66 then (if b = 9 then 4 else 0)
  else if a = 77 then 5 else 0
def okx (k : Nat) (v : Int32) : Prop := match k with
  | 0 => True
  | 1 => 0 ≤ v.toInt ∧ v.toInt ≤ 8
  | 2 => -1 ≤ v.toInt ∧ v.toInt ≤ 7
  | 3 => 0 ≤ v.toInt ∧ v.toInt ≤ 3
  | 4 => 0 ≤ v.toInt ∧ v.toInt ≤ 120
  | _ => 0 ≤ v.toInt ∧ v.toInt ≤ 40
def Wf (M : mM) : Prop := ∀ a b, okx (kd a b) (M a b)
theorem Wf.put {M : mM} {a b : Nat} {v : Int32} (h : Wf M) (hv : okx (kd a b) v) : Wf (mput M a b v) := by
  intro i j
  unfold mput
  split
  · rename_i e
    rw [e.1, e.2]
    exact hv
  · exact h i j
theorem jI_of2 {v : Int32} {n : Nat} (h : 0 ≤ v.toInt ∧ v.toInt ≤ (n : Int)) : ∃ k, k ≤ n ∧ v = nI k := by
  refine ⟨v.toInt.toNat, by omega, ?_⟩
  apply Int32.toInt_inj.mp
  have := v.toInt_lt
  rw [jI_int (by omega)]
  omega
theorem ok1 {v : Int32} (h : okx 1 v) : ∃ k, k ≤ 8 ∧ v = nI k := jI_of2 (n := 8) h
theorem ok3 {v : Int32} (h : okx 3 v) : ∃ k, k ≤ 3 ∧ v = nI k := jI_of2 (n := 3) h
theorem ok4 {v : Int32} (h : okx 4 v) : ∃ k, k ≤ 120 ∧ v = nI k := jI_of2 (n := 120) h
theorem ok5 {v : Int32} (h : okx 5 v) : ∃ k, k ≤ 40 ∧ v = nI k := jI_of2 (n := 40) h
theorem ok2 {v : Int32} (h : okx 2 v) : v = -1 ∨ ∃ k, k ≤ 7 ∧ v = nI k := by
  have h1 : -1 ≤ v.toInt ∧ v.toInt ≤ 7 := h
  by_cases h0 : v.toInt = -1
  · exact Or.inl (Int32.toInt_inj.mp (by rw [h0]; rfl))
  · exact Or.inr (jI_of2 (n := 7) (by omega))
theorem okI1 {k : Nat} (h : k ≤ 8) : okx 1 (nI k) := by
  show 0 ≤ (nI k).toInt ∧ (nI k).toInt ≤ 8
  rw [jI_int (by omega)]
  omega
theorem okI2 {k : Nat} (h : k ≤ 7) : okx 2 (nI k) := by
  show -1 ≤ (nI k).toInt ∧ (nI k).toInt ≤ 7
  rw [jI_int (by omega)]
  omega
theorem okI3 {k : Nat} (h : k ≤ 3) : okx 3 (nI k) := by
  show 0 ≤ (nI k).toInt ∧ (nI k).toInt ≤ 3
  rw [jI_int (by omega)]
  omega
theorem okI4 {k : Nat} (h : k ≤ 120) : okx 4 (nI k) := by
  show 0 ≤ (nI k).toInt ∧ (nI k).toInt ≤ 120
  rw [jI_int (by omega)]
  omega
theorem okI5 {k : Nat} (h : k ≤ 40) : okx 5 (nI k) := by
  show 0 ≤ (nI k).toInt ∧ (nI k).toInt ≤ 40
  rw [jI_int (by omega)]
  omega
theorem okM1 : okx 2 (-1) := by
  show -1 ≤ (-1 : Int32).toInt ∧ (-1 : Int32).toInt ≤ 7
  decide
section CTR
variable {X : mSc} {Q : Option Value → mHp → Prop} {mid pc : Nat} {L : mLoc} {st : List Value} {M : mM} {row : mRow} {as : List Value}
def QE (M : mM) (R : Int32 → Prop) : Option Value → mHp → Prop := fun r D => ∃ v, r = some (.int v) ∧ D = con M ∧ R v
def QI (P : Int32 → mM → Prop) : Option Value → mHp → Prop := fun r D => ∃ v M', r = some (.int v) ∧ D = con M' ∧ P v M'
def QV (P : mM → Prop) : Option Value → mHp → Prop := fun r D => ∃ M', r = none ∧ D = con M' ∧ P M'
theorem te_of {R : Int32 → Prop} (hm : mMet mid = some row) (hb : as.length ≤ row.2.2.2.1) (h : mEv X (QE M R) mid 0 (mEnv row.2.2.2.1 as) [] (con M)) : ∃ v, mT X mid as (con M) (some (.int v)) (con M) ∧ R v := by
  obtain ⟨n, r1, D1, h1, v, rfl, rfl, hr⟩ := h
  exact ⟨v, ⟨row, n, hm, hb, h1⟩, hr⟩
theorem ti_of {P : Int32 → mM → Prop} (hm : mMet mid = some row) (hb : as.length ≤ row.2.2.2.1) (h : mEv X (QI P) mid 0 (mEnv row.2.2.2.1 as) [] (con M)) : ∃ v M', mT X mid as (con M) (some (.int v)) (con M') ∧ P v M' := by
  obtain ⟨n, r1, D1, h1, v, M', rfl, rfl, hr⟩ := h
  exact ⟨v, M', ⟨row, n, hm, hb, h1⟩, hr⟩
theorem tv_of {P : mM → Prop} (hm : mMet mid = some row) (hb : as.length ≤ row.2.2.2.1) (h : mEv X (QV P) mid 0 (mEnv row.2.2.2.1 as) [] (con M)) : ∃ M', mT X mid as (con M) none (con M') ∧ P M' := by
  obtain ⟨n, r1, D1, h1, M', rfl, rfl, hr⟩ := h
  exact ⟨M', ⟨row, n, hm, hb, h1⟩, hr⟩
theorem x_cSe {idx len j kd a b : Nat} {z : Int} {as r : List Value} {R : Int32 → Prop} (hm : mMet mid = some row) (hf : mFetch mid pc = some (.invokestatic idx, len, j, kd, a, b, z)) (hs : mCall (.invokestatic idx, len, j, kd, a, b, z) false pc L st (con M) = some (.inr (.inr (a, as, r)))) (hc : ∃ v, mT X a as (con M) (some (.int v)) (con M) ∧ R v) (k : ∀ v, R v → mEv X Q mid (pc + 3) L (.int v :: r) (con M)) : mEv X Q mid pc L st (con M) := by
  obtain ⟨v, h1, h2⟩ := hc
  exact x_callS hm hf hs h1 (k v h2)
theorem x_cSi {idx len j kd a b : Nat} {z : Int} {as r : List Value} {P : Int32 → mM → Prop} (hm : mMet mid = some row) (hf : mFetch mid pc = some (.invokestatic idx, len, j, kd, a, b, z)) (hs : mCall (.invokestatic idx, len, j, kd, a, b, z) false pc L st (con M) = some (.inr (.inr (a, as, r)))) (hc : ∃ v M', mT X a as (con M) (some (.int v)) (con M') ∧ P v M') (k : ∀ v M', P v M' → mEv X Q mid (pc + 3) L (.int v :: r) (con M')) : mEv X Q mid pc L st (con M) := by
  obtain ⟨v, M', h1, h2⟩ := hc
  exact x_callS hm hf hs h1 (k v M' h2)
theorem x_cSv {idx len j kd a b : Nat} {z : Int} {as r : List Value} {P : mM → Prop} (hm : mMet mid = some row) (hf : mFetch mid pc = some (.invokestatic idx, len, j, kd, a, b, z)) (hs : mCall (.invokestatic idx, len, j, kd, a, b, z) false pc L st (con M) = some (.inr (.inr (a, as, r)))) (hc : ∃ M', mT X a as (con M) none (con M') ∧ P M') (k : ∀ M', P M' → mEv X Q mid (pc + 3) L r (con M')) : mEv X Q mid pc L st (con M) := by
  obtain ⟨M', h1, h2⟩ := hc
  exact x_callS hm hf hs h1 (k M' h2)
theorem x_cVe {idx len j kd a b : Nat} {z : Int} {as r : List Value} {R : Int32 → Prop} (hm : mMet mid = some row) (hf : mFetch mid pc = some (.invokevirtual idx, len, j, kd, a, b, z)) (hs : mCall (.invokevirtual idx, len, j, kd, a, b, z) true pc L st (con M) = some (.inr (.inr (a, as, r)))) (hc : ∃ v, mT X a as (con M) (some (.int v)) (con M) ∧ R v) (k : ∀ v, R v → mEv X Q mid (pc + 3) L (.int v :: r) (con M)) : mEv X Q mid pc L st (con M) := by
  obtain ⟨v, h1, h2⟩ := hc
  exact x_callV hm hf hs h1 (k v h2)
theorem x_cVi {idx len j kd a b : Nat} {z : Int} {as r : List Value} {P : Int32 → mM → Prop} (hm : mMet mid = some row) (hf : mFetch mid pc = some (.invokevirtual idx, len, j, kd, a, b, z)) (hs : mCall (.invokevirtual idx, len, j, kd, a, b, z) true pc L st (con M) = some (.inr (.inr (a, as, r)))) (hc : ∃ v M', mT X a as (con M) (some (.int v)) (con M') ∧ P v M') (k : ∀ v M', P v M' → mEv X Q mid (pc + 3) L (.int v :: r) (con M')) : mEv X Q mid pc L st (con M) := by
  obtain ⟨v, M', h1, h2⟩ := hc
  exact x_callV hm hf hs h1 (k v M' h2)
theorem x_cVv {idx len j kd a b : Nat} {z : Int} {as r : List Value} {P : mM → Prop} (hm : mMet mid = some row) (hf : mFetch mid pc = some (.invokevirtual idx, len, j, kd, a, b, z)) (hs : mCall (.invokevirtual idx, len, j, kd, a, b, z) true pc L st (con M) = some (.inr (.inr (a, as, r)))) (hc : ∃ M', mT X a as (con M) none (con M') ∧ P M') (k : ∀ M', P M' → mEv X Q mid (pc + 3) L r (con M')) : mEv X Q mid pc L st (con M) := by
  obtain ⟨M', h1, h2⟩ := hc
  exact x_callV hm hf hs h1 (k M' h2)
theorem x_cIe {idx len j kd a b : Nat} {z : Int} {as r : List Value} {R : Int32 → Prop} (hm : mMet mid = some row) (hf : mFetch mid pc = some (.invokespecial idx, len, j, kd, a, b, z)) (hs : mCall (.invokespecial idx, len, j, kd, a, b, z) true pc L st (con M) = some (.inr (.inr (a, as, r)))) (hc : ∃ v, mT X a as (con M) (some (.int v)) (con M) ∧ R v) (k : ∀ v, R v → mEv X Q mid (pc + 3) L (.int v :: r) (con M)) : mEv X Q mid pc L st (con M) := by
  obtain ⟨v, h1, h2⟩ := hc
  exact x_callI hm hf hs h1 (k v h2)
theorem x_cIi {idx len j kd a b : Nat} {z : Int} {as r : List Value} {P : Int32 → mM → Prop} (hm : mMet mid = some row) (hf : mFetch mid pc = some (.invokespecial idx, len, j, kd, a, b, z)) (hs : mCall (.invokespecial idx, len, j, kd, a, b, z) true pc L st (con M) = some (.inr (.inr (a, as, r)))) (hc : ∃ v M', mT X a as (con M) (some (.int v)) (con M') ∧ P v M') (k : ∀ v M', P v M' → mEv X Q mid (pc + 3) L (.int v :: r) (con M')) : mEv X Q mid pc L st (con M) := by
  obtain ⟨v, M', h1, h2⟩ := hc
  exact x_callI hm hf hs h1 (k v M' h2)
theorem x_cIv {idx len j kd a b : Nat} {z : Int} {as r : List Value} {P : mM → Prop} (hm : mMet mid = some row) (hf : mFetch mid pc = some (.invokespecial idx, len, j, kd, a, b, z)) (hs : mCall (.invokespecial idx, len, j, kd, a, b, z) true pc L st (con M) = some (.inr (.inr (a, as, r)))) (hc : ∃ M', mT X a as (con M) none (con M') ∧ P M') (k : ∀ M', P M' → mEv X Q mid (pc + 3) L r (con M')) : mEv X Q mid pc L st (con M) := by
  obtain ⟨M', h1, h2⟩ := hc
  exact x_callI hm hf hs h1 (k M' h2)
end CTR
end
section
/-! ===== the small methods ===== -/
/-- a truth value as the machine has it -/
def bI (c : Prop) [Decidable c] : Int32 := if c then nI 1 else nI 0
theorem bI_t {c : Prop} [Decidable c] (h : c) : nI 1 = bI c := (if_pos h).symm
theorem bI_f {c : Prop} [Decidable c] (h : ¬ c) : nI 0 = bI c := (if_neg h).symm
theorem qt {a b : Value} {D : mHp} (h : a = b) : (some a = some b ∧ D = D) := ⟨by rw [h], rfl⟩
theorem bI_eq0 {c : Prop} [Decidable c] : bI c = 0 ↔ ¬ c := by
  unfold bI
  by_cases h : c <;> simp [h, nI] <;> decide
theorem bI_nar {c : Prop} [Decidable c] : narrow .boolean (.int (bI c)) = .int (bI c) := by
  unfold bI
  by_cases h : c
  · rw [if_pos h]; rfl
  · rw [if_neg h]; rfl
theorem bI_iff {c d : Prop} [Decidable c] [Decidable d] (h : c ↔ d) : bI c = bI d := by
  unfold bI
  by_cases hc : c
  · rw [if_pos hc, if_pos (h.mp hc)]
  · rw [if_neg hc, if_neg fun x => hc (h.mpr x)]

section SM
variable {X : mSc} {M : mM}
theorem t6 {v a b : Int32} : mT X 6 [.int v, .int a, .int b] (con M) (some (.int (bI (a ≤ v ∧ v ≤ b)))) (con M) := by
  refine mT.of (row := _) rfl (Nat.le_of_ble_eq_true rfl) ?_
  have hm : mMet 6 = some _ := rfl
  refine x_iload_n hm rfl rfl ?_
  refine x_iload_n hm rfl rfl ?_
  refine x_icmp_lt hm rfl (t := 14) rfl (fun h1 => ?_) (fun h1 => ?_)
  · refine x_iconst hm rfl (v := nI 0) (by decide) ?_
    refine x_iret hm rfl rfl (by first | rfl | exact bI_nar | decide) ?_
    exact qt (congrArg Value.int (by first | exact bI_t ⟨Int32.not_lt.mp h1, Int32.not_lt.mp h2⟩ | exact bI_f (fun h => Int32.not_lt.mpr h.1 h1) | exact bI_f (fun h => Int32.not_lt.mpr h.2 h2)))
  · refine x_iload_n hm rfl rfl ?_
    refine x_iload_n hm rfl rfl ?_
    refine x_icmp_gt hm rfl (t := 14) rfl (fun h2 => ?_) (fun h2 => ?_)
    · refine x_iconst hm rfl (v := nI 0) (by decide) ?_
      refine x_iret hm rfl rfl (by first | rfl | exact bI_nar | decide) ?_
      exact qt (congrArg Value.int (by first | exact bI_t ⟨Int32.not_lt.mp h1, Int32.not_lt.mp h2⟩ | exact bI_f (fun h => Int32.not_lt.mpr h.1 h1) | exact bI_f (fun h => Int32.not_lt.mpr h.2 h2)))
    · refine x_iconst hm rfl (v := nI 1) (by decide) ?_
      refine x_goto hm rfl (t := 15) rfl ?_
      refine x_iret hm rfl rfl (by first | rfl | exact bI_nar | decide) ?_
      exact qt (congrArg Value.int (by first | exact bI_t ⟨Int32.not_lt.mp h1, Int32.not_lt.mp h2⟩ | exact bI_f (fun h => Int32.not_lt.mpr h.1 h1) | exact bI_f (fun h => Int32.not_lt.mpr h.2 h2)))
theorem t133 {v a b : Int32} : mT X 133 [.int v, .int a, .int b] (con M) (some (.int (bI (a ≤ v ∧ v ≤ b)))) (con M) := by
  refine mT.of (row := _) rfl (Nat.le_of_ble_eq_true rfl) ?_
  have hm : mMet 133 = some _ := rfl
  refine x_iload_n hm rfl rfl ?_
  refine x_iload_n hm rfl rfl ?_
  refine x_icmp_lt hm rfl (t := 14) rfl (fun h1 => ?_) (fun h1 => ?_)
  · refine x_iconst hm rfl (v := nI 0) (by decide) ?_
    refine x_iret hm rfl rfl (by first | rfl | exact bI_nar | decide) ?_
    exact qt (congrArg Value.int (by first | exact bI_t ⟨Int32.not_lt.mp h1, Int32.not_lt.mp h2⟩ | exact bI_f (fun h => Int32.not_lt.mpr h.1 h1) | exact bI_f (fun h => Int32.not_lt.mpr h.2 h2)))
  · refine x_iload_n hm rfl rfl ?_
    refine x_iload_n hm rfl rfl ?_
    refine x_icmp_gt hm rfl (t := 14) rfl (fun h2 => ?_) (fun h2 => ?_)
    · refine x_iconst hm rfl (v := nI 0) (by decide) ?_
      refine x_iret hm rfl rfl (by first | rfl | exact bI_nar | decide) ?_
      exact qt (congrArg Value.int (by first | exact bI_t ⟨Int32.not_lt.mp h1, Int32.not_lt.mp h2⟩ | exact bI_f (fun h => Int32.not_lt.mpr h.1 h1) | exact bI_f (fun h => Int32.not_lt.mpr h.2 h2)))
    · refine x_iconst hm rfl (v := nI 1) (by decide) ?_
      refine x_goto hm rfl (t := 15) rfl ?_
      refine x_iret hm rfl rfl (by first | rfl | exact bI_nar | decide) ?_
      exact qt (congrArg Value.int (by first | exact bI_t ⟨Int32.not_lt.mp h1, Int32.not_lt.mp h2⟩ | exact bI_f (fun h => Int32.not_lt.mpr h.1 h1) | exact bI_f (fun h => Int32.not_lt.mpr h.2 h2)))
theorem t137 {t f : Nat} : mT X 137 [.int (nI t), .int (nI f)] (con M) (some (.int (nI (14 + 6 * t + f)))) (con M) := by
  refine mT.of (row := _) rfl (Nat.le_of_ble_eq_true rfl) ?_
  have hm : mMet 137 = some _ := rfl
  refine x_bipush hm rfl (v := nI 14) (by decide) ?_
  refine x_bipush hm rfl (v := nI 6) (by decide) ?_
  refine x_iload_n hm rfl rfl ?_
  refine x_imul hm rfl ?_
  refine x_iadd hm rfl ?_
  refine x_iload_n hm rfl rfl ?_
  refine x_iadd hm rfl ?_
  refine x_iret hm rfl rfl (by first | rfl | exact bI_nar | decide) ?_
  exact qt (by rw [jI_mul, jI_add, jI_add])
theorem t142 {t f : Nat} : mT X 142 [.int (nI t), .int (nI f)] (con M) (some (.int (nI (62 + 7 * t + f)))) (con M) := by
  refine mT.of (row := _) rfl (Nat.le_of_ble_eq_true rfl) ?_
  have hm : mMet 142 = some _ := rfl
  refine x_bipush hm rfl (v := nI 62) (by decide) ?_
  refine x_bipush hm rfl (v := nI 7) (by decide) ?_
  refine x_iload_n hm rfl rfl ?_
  refine x_imul hm rfl ?_
  refine x_iadd hm rfl ?_
  refine x_iload_n hm rfl rfl ?_
  refine x_iadd hm rfl ?_
  refine x_iret hm rfl rfl (by first | rfl | exact bI_nar | decide) ?_
  exact qt (by rw [jI_mul, jI_add, jI_add])
theorem t143 {t f : Nat} (ht : t < 8) (hf : f < 6) : mT X 143 [.ref 66, .int (nI t), .int (nI f)] (con M) (some (.int (M 67 (14 + 6 * t + f)))) (con M) := by
  refine mT.of (row := _) rfl (Nat.le_of_ble_eq_true rfl) ?_
  have hm : mMet 143 = some _ := rfl
  refine x_aload_n hm rfl rfl ?_
  refine x_getf hm rfl (gR rfl rfl) ?_
  refine x_iload_n hm rfl rfl ?_
  refine x_iload_n hm rfl rfl ?_
  refine x_callS hm rfl rfl (t137) ?_
  refine x_iald hm rfl (lI rfl (by omega) (by decide)) ?_
  refine x_iret hm rfl rfl (by first | rfl | exact bI_nar | decide) ?_
  exact qt rfl
theorem t141 {t f : Nat} (ht : t < 8) (hf : f < 7) : mT X 141 [.ref 66, .int (nI t), .int (nI f)] (con M) (some (.int (M 67 (62 + 7 * t + f)))) (con M) := by
  refine mT.of (row := _) rfl (Nat.le_of_ble_eq_true rfl) ?_
  have hm : mMet 141 = some _ := rfl
  refine x_aload_n hm rfl rfl ?_
  refine x_getf hm rfl (gR rfl rfl) ?_
  refine x_iload_n hm rfl rfl ?_
  refine x_iload_n hm rfl rfl ?_
  refine x_callS hm rfl rfl (t142) ?_
  refine x_iald hm rfl (lI rfl (by omega) (by decide)) ?_
  refine x_iret hm rfl rfl (by first | rfl | exact bI_nar | decide) ?_
  exact qt rfl
end SM
end
section
/-! ===== the reference: what only reads ===== -/
abbrev FD (v : Int32) : Prop := v = -1000001 ∨ v = -1000002 ∨ v = -1000003 ∨ v = -1000004 ∨ v = -1000005 ∨ v = -1000006 ∨ v = -1000007
theorem FD_k {v : Int32} (h : FD v) : ∃ k, k ≤ 7 ∧ (-1000001 : Int32) - v + nI 1 = nI k := by
  rcases h with rfl | rfl | rfl | rfl | rfl | rfl | rfl
  · exact ⟨1, by omega, by decide +kernel⟩
  · exact ⟨2, by omega, by decide +kernel⟩
  · exact ⟨3, by omega, by decide +kernel⟩
  · exact ⟨4, by omega, by decide +kernel⟩
  · exact ⟨5, by omega, by decide +kernel⟩
  · exact ⟨6, by omega, by decide +kernel⟩
  · exact ⟨7, by omega, by decide +kernel⟩
/-- a number below another that is one of the small ones -/
theorem in_k {v w : Int32} {n : Nat} (hw : w = nI n) (hn : n ≤ 1000) (h : nI 0 ≤ v ∧ v ≤ w - nI 1) : ∃ k, k < n ∧ v = nI k := by
  obtain ⟨k, hk, rfl⟩ := jI_of (v := v) (by
    have h0 : (nI 0 : Int32) = 0 := rfl
    rw [← h0]
    exact Int32.not_lt.mpr h.1)
  refine ⟨k, ?_, rfl⟩
  have h2 := h.2
  subst hw
  cases n with
  | zero =>
    have e : nI 0 - nI 1 = -1 := by decide +kernel
    rw [e, Int32.le_iff_toInt_le, jI_int hk] at h2
    have e2 : (-1 : Int32).toInt = -1 := by decide +kernel
    omega
  | succ m =>
    have e : nI (m + 1) - nI 1 = nI m := by
      rw [← jI_add m 1]
      exact Int32.add_sub_cancel _ _
    rw [e, jI_le hk (by omega)] at h2
    omega
theorem le_k {v : Int32} {n : Nat} (hn : n ≤ 999) (h : nI 0 ≤ v ∧ v ≤ nI n) : ∃ k, k ≤ n ∧ v = nI k := by
  have h0 : nI n = nI (n + 1) - nI 1 := by
    rw [← jI_add n 1]
    exact (Int32.add_sub_cancel _ _).symm
  rw [h0] at h
  obtain ⟨k, hk, e⟩ := in_k (n := n + 1) rfl (by omega) h
  exact ⟨k, by omega, e⟩
theorem bI_ne0 {c : Prop} [Decidable c] (h : ¬ bI c = 0) : c := Classical.byContradiction fun hc => h (bI_eq0.mpr hc)
theorem bI_01 {c : Prop} [Decidable c] : bI c = nI 0 ∨ bI c = nI 1 := by
  unfold bI
  by_cases h : c
  · rw [if_pos h]; exact Or.inr rfl
  · rw [if_neg h]; exact Or.inl rfl
theorem kd_t : ∀ t, t < 8 → ∀ f, f < 6 → kd 67 (14 + 6 * t + f) = if f = 0 then 3 else if f = 4 ∨ f = 5 then 2 else 0 := by decide +kernel
theorem Wf.sort {M : mM} (h : Wf M) {t : Nat} (ht : t < 8) : ∃ k, k ≤ 3 ∧ M 67 (14 + 6 * t + 0) = nI k := by
  have := h 67 (14 + 6 * t + 0)
  rw [kd_t t ht 0 (by decide)] at this
  exact ok3 this
theorem Wf.owner {M : mM} (h : Wf M) {t : Nat} (ht : t < 8) : okx 2 (M 67 (14 + 6 * t + 4)) := by
  have := h 67 (14 + 6 * t + 4)
  rwa [kd_t t ht 4 (by decide)] at this
theorem Wf.on {M : mM} (h : Wf M) {t : Nat} (ht : t < 8) : okx 2 (M 67 (14 + 6 * t + 5)) := by
  have := h 67 (14 + 6 * t + 5)
  rwa [kd_t t ht 5 (by decide)] at this
theorem Wf.nt {M : mM} (h : Wf M) : ∃ n, n ≤ 8 ∧ M 67 1 = nI n := ok1 (h 67 1)
theorem Wf.np {M : mM} (h : Wf M) : ∃ n, n ≤ 8 ∧ M 67 2 = nI n := ok1 (h 67 2)
def ab (k : Int32) : Int32 := if k = 0 then -1 else if k = nI 3 then nI 2 else if k = nI 4 then nI 3 else if k = nI 6 then nI 1 else nI 0
def rkU (k : Int32) : Nat := if k < 0 then 0 else if k = 0 then 1 else if k = nI 3 then 3 else if k = nI 4 then 4 else if k = nI 6 then 3 else 2
theorem ab_rk {k : Int32} (h : ¬ k < 0) : rkU (ab k) < rkU k := by
  unfold ab
  by_cases h0 : k = 0
  · subst h0; decide
  · rw [if_neg h0]
    by_cases h3 : k = nI 3
    · subst h3; decide
    · rw [if_neg h3]
      by_cases h4 : k = nI 4
      · subst h4; decide
      · rw [if_neg h4]
        by_cases h6 : k = nI 6
        · subst h6; decide
        · rw [if_neg h6]
          unfold rkU
          rw [if_neg h, if_neg h0, if_neg h3, if_neg h4, if_neg h6]
          decide
theorem rkU_le (k : Int32) : rkU k ≤ 4 := by
  unfold rkU
  repeat' split
  all_goals omega

section RR
variable {X : mSc} {Q : Option Value → mHp → Prop} {M : mM}
theorem t134 {v : Int32} : mT X 134 [.int v] (con M) (some (.int (bI (nI 0 ≤ v ∧ v ≤ nI 15)))) (con M) := by
  refine mT.of (row := _) rfl (Nat.le_of_ble_eq_true rfl) ?_
  have hm : mMet 134 = some _ := rfl
  refine x_iload_n hm rfl rfl ?_
  refine x_iconst hm rfl (v := nI 0) (by decide) ?_
  refine x_bipush hm rfl (v := nI 15) (by decide) ?_
  refine x_callS hm rfl rfl (t133) ?_
  refine x_iret hm rfl rfl (by first | rfl | exact bI_nar | decide) ?_
  exact qt rfl
theorem t157 {v : Int32} : mT X 157 [.int v] (con M) (some (.int (bI (nI 0 ≤ v ∧ v ≤ nI 6)))) (con M) := by
  refine mT.of (row := _) rfl (Nat.le_of_ble_eq_true rfl) ?_
  have hm : mMet 157 = some _ := rfl
  refine x_iload_n hm rfl rfl ?_
  refine x_iconst hm rfl (v := nI 0) (by decide) ?_
  refine x_bipush hm rfl (v := nI 6) (by decide) ?_
  refine x_callS hm rfl rfl (t133) ?_
  refine x_iret hm rfl rfl (by first | rfl | exact bI_nar | decide) ?_
  exact qt rfl
theorem t151 {v : Int32} : mT X 151 [.int v] (con M) (some (.int (bI (nI 0 ≤ v ∧ v ≤ nI 999)))) (con M) := by
  refine mT.of (row := _) rfl (Nat.le_of_ble_eq_true rfl) ?_
  have hm : mMet 151 = some _ := rfl
  refine x_iload_n hm rfl rfl ?_
  refine x_iconst hm rfl (v := nI 0) (by decide) ?_
  refine x_sipush hm rfl (v := nI 999) (by decide) ?_
  refine x_callS hm rfl rfl (t133) ?_
  refine x_iret hm rfl rfl (by first | rfl | exact bI_nar | decide) ?_
  exact qt rfl
theorem t152 {v : Int32} : mT X 152 [.int v] (con M) (some (.int (bI (nI 0 ≤ v ∧ v ≤ nI 9)))) (con M) := by
  refine mT.of (row := _) rfl (Nat.le_of_ble_eq_true rfl) ?_
  have hm : mMet 152 = some _ := rfl
  refine x_iload_n hm rfl rfl ?_
  refine x_iconst hm rfl (v := nI 0) (by decide) ?_
  refine x_bipush hm rfl (v := nI 9) (by decide) ?_
  refine x_callS hm rfl rfl (t133) ?_
  refine x_iret hm rfl rfl (by first | rfl | exact bI_nar | decide) ?_
  exact qt rfl
theorem t232 {v : Int32} : mT X 232 [.int v] (con M) (some (.int (bI (nI 0 ≤ v ∧ v ≤ nI 9)))) (con M) := by
  refine mT.of (row := _) rfl (Nat.le_of_ble_eq_true rfl) ?_
  have hm : mMet 232 = some _ := rfl
  refine x_iload_n hm rfl rfl ?_
  refine x_iconst hm rfl (v := nI 0) (by decide) ?_
  refine x_bipush hm rfl (v := nI 9) (by decide) ?_
  refine x_callS hm rfl rfl (t133) ?_
  refine x_iret hm rfl rfl (by first | rfl | exact bI_nar | decide) ?_
  exact qt rfl
theorem t210 {v : Int32} : mT X 210 [.int v] (con M) (some (.int (bI (nI 0 ≤ v ∧ v ≤ nI 3)))) (con M) := by
  refine mT.of (row := _) rfl (Nat.le_of_ble_eq_true rfl) ?_
  have hm : mMet 210 = some _ := rfl
  refine x_iload_n hm rfl rfl ?_
  refine x_iconst hm rfl (v := nI 0) (by decide) ?_
  refine x_iconst hm rfl (v := nI 3) (by decide) ?_
  refine x_callS hm rfl rfl (t133) ?_
  refine x_iret hm rfl rfl (by first | rfl | exact bI_nar | decide) ?_
  exact qt rfl
theorem t139 {v : Int32} : mT X 139 [.ref 66, .int v] (con M) (some (.int (bI (nI 0 ≤ v ∧ v ≤ M 67 1 - nI 1)))) (con M) := by
  refine mT.of (row := _) rfl (Nat.le_of_ble_eq_true rfl) ?_
  have hm : mMet 139 = some _ := rfl
  refine x_iload_n hm rfl rfl ?_
  refine x_iconst hm rfl (v := nI 0) (by decide) ?_
  refine x_aload_n hm rfl rfl ?_
  refine x_getf hm rfl (gR rfl rfl) ?_
  refine x_iconst hm rfl (v := nI 1) (by decide) ?_
  refine x_iald hm rfl (lI rfl (by omega) (by decide)) ?_
  refine x_iconst hm rfl (v := nI 1) (by decide) ?_
  refine x_isub hm rfl ?_
  refine x_callS hm rfl rfl (t133) ?_
  refine x_iret hm rfl rfl (by first | rfl | exact bI_nar | decide) ?_
  exact qt rfl
theorem t153 {v : Int32} : mT X 153 [.ref 66, .int v] (con M) (some (.int (bI (nI 0 ≤ v ∧ v ≤ M 67 2 - nI 1)))) (con M) := by
  refine mT.of (row := _) rfl (Nat.le_of_ble_eq_true rfl) ?_
  have hm : mMet 153 = some _ := rfl
  refine x_iload_n hm rfl rfl ?_
  refine x_iconst hm rfl (v := nI 0) (by decide) ?_
  refine x_aload_n hm rfl rfl ?_
  refine x_getf hm rfl (gR rfl rfl) ?_
  refine x_iconst hm rfl (v := nI 2) (by decide) ?_
  refine x_iald hm rfl (lI rfl (by omega) (by decide)) ?_
  refine x_iconst hm rfl (v := nI 1) (by decide) ?_
  refine x_isub hm rfl ?_
  refine x_callS hm rfl rfl (t133) ?_
  refine x_iret hm rfl rfl (by first | rfl | exact bI_nar | decide) ?_
  exact qt rfl
theorem t146 {t : Nat} (ht : t < 8) : mT X 146 [.ref 66, .int (nI t)] (con M) (some (.int (bI (M 67 (14 + 6 * t + 2) = 0)))) (con M) := by
  refine mT.of (row := _) rfl (Nat.le_of_ble_eq_true rfl) ?_
  have hm : mMet 146 = some _ := rfl
  refine x_aload_n hm rfl rfl ?_
  refine x_iload_n hm rfl rfl ?_
  refine x_iconst hm rfl (v := nI 2) (by decide) ?_
  refine x_callV hm rfl rfl (t143 (by omega) (by omega)) ?_
  refine x_if_ne hm rfl (t := 13) rfl (fun h1 => ?_) (fun h1 => ?_)
  · refine x_iconst hm rfl (v := nI 0) (by decide) ?_
    refine x_iret hm rfl rfl (by first | rfl | exact bI_nar | decide) ?_
    exact qt (congrArg Value.int (by first | exact bI_t h1 | exact bI_f h1))
  · refine x_iconst hm rfl (v := nI 1) (by decide) ?_
    refine x_goto hm rfl (t := 14) rfl ?_
    refine x_iret hm rfl rfl (by first | rfl | exact bI_nar | decide) ?_
    exact qt (congrArg Value.int (by first | exact bI_t h1 | exact bI_f h1))
theorem t148 {k : Int32} : mT X 148 [.int k] (con M) (some (.int (ab k))) (con M) := by
  refine mT.of (row := _) rfl (Nat.le_of_ble_eq_true rfl) ?_
  have hm : mMet 148 = some _ := rfl
  refine x_iload_n hm rfl rfl ?_
  refine x_if_ne hm rfl (t := 8) rfl (fun h1 => ?_) (fun h1 => ?_)
  · refine x_iload_n hm rfl rfl ?_
    refine x_iconst hm rfl (v := nI 3) (by decide) ?_
    refine x_icmp_ne hm rfl (t := 17) rfl (fun h2 => ?_) (fun h2 => ?_)
    · refine x_iload_n hm rfl rfl ?_
      refine x_iconst hm rfl (v := nI 4) (by decide) ?_
      refine x_icmp_ne hm rfl (t := 26) rfl (fun h3 => ?_) (fun h3 => ?_)
      · refine x_iload_n hm rfl rfl ?_
        refine x_bipush hm rfl (v := nI 6) (by decide) ?_
        refine x_icmp_ne hm rfl (t := 36) rfl (fun h4 => ?_) (fun h4 => ?_)
        · refine x_iconst hm rfl (v := nI 0) (by decide) ?_
          refine x_iret hm rfl rfl (by first | rfl | exact bI_nar | decide) ?_
          exact qt (congrArg Value.int (by unfold ab; first | rw [if_pos h1] | (rw [if_neg h1]; first | rw [if_pos h2] | (rw [if_neg h2]; first | rw [if_pos h3] | (rw [if_neg h3]; first | rw [if_pos h4] | rw [if_neg h4])))))
        · refine x_iconst hm rfl (v := nI 1) (by decide) ?_
          refine x_goto hm rfl (t := 37) rfl ?_
          refine x_iret hm rfl rfl (by first | rfl | exact bI_nar | decide) ?_
          exact qt (congrArg Value.int (by unfold ab; first | rw [if_pos h1] | (rw [if_neg h1]; first | rw [if_pos h2] | (rw [if_neg h2]; first | rw [if_pos h3] | (rw [if_neg h3]; first | rw [if_pos h4] | rw [if_neg h4])))))
      · refine x_iconst hm rfl (v := nI 3) (by decide) ?_
        refine x_goto hm rfl (t := 37) rfl ?_
        refine x_iret hm rfl rfl (by first | rfl | exact bI_nar | decide) ?_
        exact qt (congrArg Value.int (by unfold ab; first | rw [if_pos h1] | (rw [if_neg h1]; first | rw [if_pos h2] | (rw [if_neg h2]; first | rw [if_pos h3] | (rw [if_neg h3]; first | rw [if_pos h4] | rw [if_neg h4])))))
    · refine x_iconst hm rfl (v := nI 2) (by decide) ?_
      refine x_goto hm rfl (t := 37) rfl ?_
      refine x_iret hm rfl rfl (by first | rfl | exact bI_nar | decide) ?_
      exact qt (congrArg Value.int (by unfold ab; first | rw [if_pos h1] | (rw [if_neg h1]; first | rw [if_pos h2] | (rw [if_neg h2]; first | rw [if_pos h3] | (rw [if_neg h3]; first | rw [if_pos h4] | rw [if_neg h4])))))
  · refine x_iconst hm rfl (v := (-1 : Int32)) (by decide) ?_
    refine x_goto hm rfl (t := 37) rfl ?_
    refine x_iret hm rfl rfl (by first | rfl | exact bI_nar | decide) ?_
    exact qt (congrArg Value.int (by unfold ab; first | rw [if_pos h1] | (rw [if_neg h1]; first | rw [if_pos h2] | (rw [if_neg h2]; first | rw [if_pos h3] | (rw [if_neg h3]; first | rw [if_pos h4] | rw [if_neg h4])))))
theorem l147 {o : Int32} (k0 : Int32) : ∀ (n : Nat) (k : Int32), rkU k < n → mEv X (QE M (fun v => v = nI 0 ∨ v = nI 1)) 147 2 [some (.int k0), some (.int o), some (.int k)] [] (con M) := by
  have hm : mMet 147 = some _ := rfl
  intro n
  induction n with
  | zero =>
    intro k hk
    omega
  | succ n ih =>
    intro k hk
    refine x_iload_n hm rfl rfl ?_
    refine x_if_lt hm rfl (t := 19) rfl (fun h1 => ?_) (fun h1 => ?_)
    · refine x_iload_n hm rfl rfl ?_
      refine x_if_lt hm rfl (t := 27) rfl (fun h2 => ?_) (fun h2 => ?_)
      · refine x_iconst hm rfl (v := nI 0) (by decide) ?_
        refine x_iret hm rfl rfl (by first | rfl | exact bI_nar | decide) ?_
        exact ⟨_, rfl, rfl, by first | exact Or.inl rfl | exact Or.inr rfl⟩
      · refine x_iconst hm rfl (v := nI 1) (by decide) ?_
        refine x_goto hm rfl (t := 28) rfl ?_
        refine x_iret hm rfl rfl (by first | rfl | exact bI_nar | decide) ?_
        exact ⟨_, rfl, rfl, by first | exact Or.inl rfl | exact Or.inr rfl⟩
    · refine x_iload_n hm rfl rfl ?_
      refine x_iload_n hm rfl rfl ?_
      refine x_icmp_eq hm rfl (t := 19) rfl (fun h3 => ?_) (fun h3 => ?_)
      · refine x_iload_n hm rfl rfl ?_
        refine x_if_lt hm rfl (t := 27) rfl (fun h4 => ?_) (fun h4 => ?_)
        · refine x_iconst hm rfl (v := nI 0) (by decide) ?_
          refine x_iret hm rfl rfl (by first | rfl | exact bI_nar | decide) ?_
          exact ⟨_, rfl, rfl, by first | exact Or.inl rfl | exact Or.inr rfl⟩
        · refine x_iconst hm rfl (v := nI 1) (by decide) ?_
          refine x_goto hm rfl (t := 28) rfl ?_
          refine x_iret hm rfl rfl (by first | rfl | exact bI_nar | decide) ?_
          exact ⟨_, rfl, rfl, by first | exact Or.inl rfl | exact Or.inr rfl⟩
      · refine x_iload_n hm rfl rfl ?_
        refine x_callS hm rfl rfl (t148) ?_
        refine x_istore_n hm rfl rfl ?_
        refine x_goto hm rfl (t := 2) rfl ?_
        exact ih _ (by have := ab_rk h1; omega)
theorem t147 {k o : Int32} : ∃ v, mT X 147 [.int k, .int o] (con M) (some (.int v)) (con M) ∧ (v = nI 0 ∨ v = nI 1) := by
  refine te_of (row := _) rfl (Nat.le_of_ble_eq_true rfl) ?_
  have hm : mMet 147 = some _ := rfl
  refine x_iload_n hm rfl rfl ?_
  refine x_istore_n hm rfl rfl ?_
  exact l147 _ 5 _ (by have := rkU_le k; omega)
/-- the reference's chains end -/
def Ac (r : Nat → Int32) : Prop := ∀ n, n ≤ 8 → r 1 = nI n → ∃ rk : Nat → Nat, ∀ t u, t < n → u ≤ 7 → r (14 + 6 * t + 5) = nI u → u < n ∧ rk u < rk t
def hr (r : Nat → Int32) (o : Nat) : Nat → Nat → Prop
  | 0, _ => False
  | f + 1, u => u = o ∨ ∃ w, w ≤ 7 ∧ r (14 + 6 * u + 5) = nI w ∧ hr r o f w
def Inv (M : mM) : Prop := Wf M ∧ Ac (M 67) ∧ Ac (M 68)
/-- a finding was counted, or nothing was -/
def Fnd (M M' : mM) : Prop := (Wf M → Wf M') ∧ ∀ a, a ≠ 70 → M' a = M a
theorem Wf.put0 {M : mM} {a b : Nat} {v : Int32} (h : Wf M) (hk : kd a b = 0) : Wf (mput M a b v) := h.put (by rw [hk]; trivial)
theorem kd70 (b : Nat) : kd 70 b = 0 := by simp [kd]
theorem kd71 (b : Nat) : kd 71 b = 0 := by simp [kd]
theorem kd72 (b : Nat) : kd 72 b = 0 := by simp [kd]
theorem kd73 (b : Nat) : kd 73 b = 0 := by simp [kd]
theorem kd75 (b : Nat) : kd 75 b = 0 := by simp [kd]
theorem kd76 (b : Nat) : kd 76 b = 0 := by simp [kd]
theorem kd78 (b : Nat) : kd 78 b = 0 := by simp [kd]
theorem kd79 (b : Nat) : kd 79 b = 0 := by simp [kd]
theorem kd66 {b : Nat} (h : b ≠ 9) : kd 66 b = 0 := by simp [kd, h]
theorem Fnd.rf : Fnd M M := ⟨fun h => h, fun _ _ => rfl⟩
theorem Fnd.inv {M M' : mM} (h : Fnd M M') (hI : Inv M) : Inv M' := ⟨h.1 hI.1, by rw [h.2 67 (by decide)]; exact hI.2.1, by rw [h.2 68 (by decide)]; exact hI.2.2⟩
theorem tsm1 {v : Int32} (h : ¬ v < 0) (ho : okx 2 v) : ∃ k, k ≤ 7 ∧ v = nI k := by
  rcases ok2 ho with rfl | h1
  · exact absurd (by decide) h
  · exact h1
theorem t145 {p t : Nat} {o : Int32} (hW : Wf M) (hp : p < 8) (ht : t < 8) (ho : okx 2 o) : ∃ v, mT X 145 [.ref 66, .int (nI p), .int (nI t), .int o] (con M) (some (.int v)) (con M) ∧ True := by
  refine te_of (row := _) rfl (Nat.le_of_ble_eq_true rfl) ?_
  have hm : mMet 145 = some _ := rfl
  obtain ⟨s, hs3, hs⟩ := hW.sort ht
  have J190 : ∀ (o1 v4 v5 v6 : Int32), mEv X (QE M (fun _ => True)) 145 190 [some (.ref 66), some (.int (nI p)), some (.int (nI t)), some (.int o1), some (.int v4), some (.int v5), some (.int v6)] [] (con M) := by
    intro o1 v4 v5 v6
    refine x_iconst hm rfl (v := nI 0) (by decide) ?_
    refine x_iload hm rfl rfl ?_
    refine x_lib hm rfl rfl ?_
    dsimp only
    refine x_iret hm rfl rfl (by first | rfl | exact bI_nar | decide) ?_
    exact ⟨_, rfl, rfl, trivial⟩
  have J73 : ∀ (o1 v4 v5 : Int32), mEv X (QE M (fun _ => True)) 145 73 [some (.ref 66), some (.int (nI p)), some (.int (nI t)), some (.int o1), some (.int v4), some (.int v5), none] [] (con M) := by
    intro o1 v4 v5
    refine x_aload_n hm rfl rfl ?_
    refine x_iload_n hm rfl rfl ?_
    refine x_iconst hm rfl (v := nI 0) (by decide) ?_
    refine x_callV hm rfl rfl (t141 (by omega) (by omega)) ?_
    refine x_ts hm rfl (fun h1 => ⟨186, rfl, ?_⟩) (fun i1 h1 g1 => ?_)
    · refine x_iload hm rfl rfl ?_
      refine x_istore hm rfl rfl ?_
      exact J190 _ _ _ _
    · have k1 : i1 = 0 ∨ i1 = 1 ∨ i1 = 2 ∨ i1 = 3 ∨ i1 = 4 ∨ i1 = 5 := by omega
      rcases k1 with rfl | rfl | rfl | rfl | rfl | rfl
      · refine ⟨_, 116, rfl, rfl, ?_⟩
        refine x_iload hm rfl rfl ?_
        refine x_iconst hm rfl (v := nI 2) (by decide) ?_
        refine x_idiv hm rfl (by decide) ?_
        refine x_istore hm rfl rfl ?_
        refine x_goto hm rfl (t := 190) rfl ?_
        exact J190 _ _ _ _
      · refine ⟨_, 142, rfl, rfl, ?_⟩
        refine x_iload hm rfl rfl ?_
        refine x_istore hm rfl rfl ?_
        refine x_goto hm rfl (t := 190) rfl ?_
        exact J190 _ _ _ _
      · refine ⟨_, 149, rfl, rfl, ?_⟩
        refine x_iload hm rfl rfl ?_
        refine x_iconst hm rfl (v := nI 3) (by decide) ?_
        refine x_isub hm rfl ?_
        refine x_istore hm rfl rfl ?_
        refine x_goto hm rfl (t := 190) rfl ?_
        exact J190 _ _ _ _
      · refine ⟨_, 158, rfl, rfl, ?_⟩
        refine x_iload hm rfl rfl ?_
        refine x_iconst hm rfl (v := nI 3) (by decide) ?_
        refine x_isub hm rfl ?_
        refine x_aload_n hm rfl rfl ?_
        refine x_iload_n hm rfl rfl ?_
        refine x_iconst hm rfl (v := nI 2) (by decide) ?_
        refine x_callV hm rfl rfl (t143 (by omega) (by omega)) ?_
        refine x_bipush hm rfl (v := nI 100) (by decide) ?_
        refine x_idiv hm rfl (by decide) ?_
        refine x_iadd hm rfl ?_
        refine x_istore hm rfl rfl ?_
        refine x_goto hm rfl (t := 190) rfl ?_
        exact J190 _ _ _ _
      · refine ⟨_, 177, rfl, rfl, ?_⟩
        refine x_iconst hm rfl (v := nI 2) (by decide) ?_
        refine x_iload hm rfl rfl ?_
        refine x_imul hm rfl ?_
        refine x_istore hm rfl rfl ?_
        refine x_goto hm rfl (t := 190) rfl ?_
        exact J190 _ _ _ _
      · refine ⟨_, 125, rfl, rfl, ?_⟩
        refine x_iload_n hm rfl rfl ?_
        refine x_if_ge hm rfl (t := 133) rfl (fun h2 => ?_) (fun h2 => ?_)
        · refine x_iload hm rfl rfl ?_
          refine x_iconst hm rfl (v := nI 2) (by decide) ?_
          refine x_idiv hm rfl (by decide) ?_
          refine x_istore hm rfl rfl ?_
          refine x_goto hm rfl (t := 190) rfl ?_
          exact J190 _ _ _ _
        · refine x_iconst hm rfl (v := nI 0) (by decide) ?_
          refine x_goto hm rfl (t := 137) rfl ?_
          refine x_istore hm rfl rfl ?_
          refine x_goto hm rfl (t := 190) rfl ?_
          exact J190 _ _ _ _
  refine x_iload_n hm rfl rfl ?_
  refine x_iload_n hm rfl rfl ?_
  refine x_icmp_eq hm rfl (t := 21) rfl (fun h3 => ?_) (fun h3 => ?_)
  · refine x_iconst hm rfl (v := nI 0) (by decide) ?_
    refine x_iret hm rfl rfl (by first | rfl | exact bI_nar | decide) ?_
    exact ⟨_, rfl, rfl, trivial⟩
  · refine x_aload_n hm rfl rfl ?_
    refine x_iload_n hm rfl rfl ?_
    refine x_callV hm rfl rfl (t146 (by omega)) ?_
    refine x_if_ne hm rfl (t := 21) rfl (fun h4 => ?_) (fun h4 => ?_)
    · refine x_iconst hm rfl (v := nI 0) (by decide) ?_
      refine x_iret hm rfl rfl (by first | rfl | exact bI_nar | decide) ?_
      exact ⟨_, rfl, rfl, trivial⟩
    · refine x_iload_n hm rfl rfl ?_
      refine x_aload_n hm rfl rfl ?_
      refine x_getf hm rfl (gI rfl rfl) ?_
      refine x_icmp_ne hm rfl (t := 23) rfl (fun h5 => ?_) (fun h5 => ?_)
      · refine x_aload_n hm rfl rfl ?_
        refine x_iload_n hm rfl rfl ?_
        refine x_iconst hm rfl (v := nI 3) (by decide) ?_
        refine x_aload_n hm rfl rfl ?_
        refine x_iload_n hm rfl rfl ?_
        refine x_iconst hm rfl (v := nI 0) (by decide) ?_
        refine x_callV hm rfl rfl (t143 (by omega) (by omega)) ?_
        rw [hs]
        refine x_iadd hm rfl ?_
        rw [jI_add]
        refine x_callV hm rfl rfl (t141 (by omega) (by omega)) ?_
        refine x_aload_n hm rfl rfl ?_
        refine x_iload_n hm rfl rfl ?_
        refine x_iconst hm rfl (v := nI 3) (by decide) ?_
        refine x_callV hm rfl rfl (t143 (by omega) (by omega)) ?_
        refine x_isub hm rfl ?_
        refine x_istore hm rfl rfl ?_
        refine x_iload_n hm rfl rfl ?_
        refine x_if_lt hm rfl (t := 69) rfl (fun h6 => ?_) (fun h6 => ?_)
        · refine x_iload hm rfl rfl ?_
          refine x_istore hm rfl rfl ?_
          exact J73 _ _ _
        · obtain ⟨k, hk, rfl⟩ := tsm1 h6 ho
          refine x_aload_n hm rfl rfl ?_
          refine x_iload_n hm rfl rfl ?_
          refine x_iconst hm rfl (v := nI 0) (by decide) ?_
          refine x_callV hm rfl rfl (t141 (by omega) (by omega)) ?_
          refine x_iconst hm rfl (v := nI 2) (by decide) ?_
          refine x_cSe hm rfl rfl (t147) (fun v7 r7 => ?_)
          refine x_if_eq hm rfl (t := 69) rfl (fun h8 => ?_) (fun h8 => ?_)
          · refine x_iload hm rfl rfl ?_
            refine x_istore hm rfl rfl ?_
            exact J73 _ _ _
          · refine x_iload hm rfl rfl ?_
            refine x_iconst hm rfl (v := nI 2) (by decide) ?_
            refine x_iadd hm rfl ?_
            refine x_goto hm rfl (t := 71) rfl ?_
            refine x_istore hm rfl rfl ?_
            exact J73 _ _ _
      · refine x_iconst hm rfl (v := nI 0) (by decide) ?_
        refine x_iret hm rfl rfl (by first | rfl | exact bI_nar | decide) ?_
        exact ⟨_, rfl, rfl, trivial⟩
theorem t144 {p t : Nat} (hW : Wf M) (hp : p < 8) (ht : t < 8) : ∃ v, mT X 144 [.ref 66, .int (nI p), .int (nI t)] (con M) (some (.int v)) (con M) ∧ True := by
  refine te_of (row := _) rfl (Nat.le_of_ble_eq_true rfl) ?_
  have hm : mMet 144 = some _ := rfl
  refine x_aload_n hm rfl rfl ?_
  refine x_iload_n hm rfl rfl ?_
  refine x_iload_n hm rfl rfl ?_
  refine x_aload_n hm rfl rfl ?_
  refine x_iload_n hm rfl rfl ?_
  refine x_iconst hm rfl (v := nI 4) (by decide) ?_
  refine x_callV hm rfl rfl (t143 (by omega) (by omega)) ?_
  refine x_cVe hm rfl rfl (t145 hW hp ht (hW.owner ht)) (fun v1 r1 => ?_)
  refine x_iret hm rfl rfl (by first | rfl | exact bI_nar | decide) ?_
  exact ⟨_, rfl, rfl, trivial⟩
theorem l140 {t np : Nat} (hW : Wf M) (hnp : M 67 2 = nI np) (h8 : np ≤ 8) (ht : t < 8) : ∀ (n p : Nat) (s : Int32), np - p < n → p ≤ np → mEv X (QE M (fun _ => True)) 140 4 [some (.ref 66), some (.int (nI t)), some (.int s), some (.int (nI p))] [] (con M) := by
  have hm : mMet 140 = some _ := rfl
  intro n
  induction n with
  | zero =>
    intro p s hp hpn
    omega
  | succ n ih =>
    intro p s hp hpn
    refine x_iload_n hm rfl rfl ?_
    refine x_aload_n hm rfl rfl ?_
    refine x_getf hm rfl (gR rfl rfl) ?_
    refine x_iconst hm rfl (v := nI 2) (by decide) ?_
    refine x_iald hm rfl (lI rfl (by omega) (by decide)) ?_
    rw [hnp]
    refine x_icmp_ge hm rfl (t := 48) rfl (fun h1 => ?_) (fun h1 => ?_)
    · refine x_iload_n hm rfl rfl ?_
      refine x_aload_n hm rfl rfl ?_
      refine x_iload_n hm rfl rfl ?_
      refine x_iconst hm rfl (v := nI 2) (by decide) ?_
      refine x_callV hm rfl rfl (t143 (by omega) (by omega)) ?_
      refine x_lib hm rfl rfl ?_
      dsimp only
      refine x_iret hm rfl rfl (by first | rfl | exact bI_nar | decide) ?_
      exact ⟨_, rfl, rfl, trivial⟩
    · have hlt : p < np := Nat.lt_of_not_le fun h => h1 (nI_le h (by omega))
      refine x_iload_n hm rfl rfl ?_
      refine x_aload_n hm rfl rfl ?_
      refine x_iload_n hm rfl rfl ?_
      refine x_iconst hm rfl (v := nI 1) (by decide) ?_
      refine x_callV hm rfl rfl (t141 (by omega) (by omega)) ?_
      refine x_aload_n hm rfl rfl ?_
      refine x_iload_n hm rfl rfl ?_
      refine x_iconst hm rfl (v := nI 1) (by decide) ?_
      refine x_callV hm rfl rfl (t143 (by omega) (by omega)) ?_
      refine x_icmp_ne hm rfl (t := 39) rfl (fun h2 => ?_) (fun h2 => ?_)
      · refine x_iconst hm rfl (v := nI 0) (by decide) ?_
        refine x_iadd hm rfl ?_
        refine x_istore_n hm rfl rfl ?_
        refine x_iinc hm rfl rfl (v := nI 1) (by decide) rfl ?_
        rw [jI_add]
        refine x_goto hm rfl (t := 4) rfl ?_
        exact ih _ _ (by omega) (by omega)
      · refine x_aload_n hm rfl rfl ?_
        refine x_iload_n hm rfl rfl ?_
        refine x_iload_n hm rfl rfl ?_
        refine x_cVe hm rfl rfl (t144 hW (by omega) (by omega)) (fun v3 r3 => ?_)
        refine x_goto hm rfl (t := 40) rfl ?_
        refine x_iadd hm rfl ?_
        refine x_istore_n hm rfl rfl ?_
        refine x_iinc hm rfl rfl (v := nI 1) (by decide) rfl ?_
        rw [jI_add]
        refine x_goto hm rfl (t := 4) rfl ?_
        exact ih _ _ (by omega) (by omega)
theorem t140 {t : Nat} (hW : Wf M) (ht : t < 8) : ∃ v, mT X 140 [.ref 66, .int (nI t)] (con M) (some (.int v)) (con M) ∧ True := by
  refine te_of (row := _) rfl (Nat.le_of_ble_eq_true rfl) ?_
  have hm : mMet 140 = some _ := rfl
  obtain ⟨np, h8, hnp⟩ := hW.np
  refine x_iconst hm rfl (v := nI 0) (by decide) ?_
  refine x_istore_n hm rfl rfl ?_
  refine x_iconst hm rfl (v := nI 0) (by decide) ?_
  refine x_istore_n hm rfl rfl ?_
  exact l140 hW hnp h8 ht _ 0 _ (Nat.lt_succ_self _) (Nat.zero_le _)
theorem t135 {v : Int32} (hv : FD v) : ∃ v' M', mT X 135 [.ref 66, .int v] (con M) (some (.int v')) (con M') ∧ v' = v ∧ Fnd M M' := by
  refine ti_of (row := _) rfl (Nat.le_of_ble_eq_true rfl) ?_
  have hm : mMet 135 = some _ := rfl
  obtain ⟨k, hk, he⟩ := FD_k hv
  refine x_aload_n hm rfl rfl ?_
  refine x_getf hm rfl (gR rfl rfl) ?_
  refine x_ldcI hm rfl (v := (-1000001 : Int32)) (by decide +kernel) ?_
  refine x_iload_n hm rfl rfl ?_
  refine x_isub hm rfl ?_
  refine x_iconst hm rfl (v := nI 1) (by decide) ?_
  refine x_iadd hm rfl ?_
  rw [he]
  refine x_dup2 hm rfl rfl rfl ?_
  refine x_iald hm rfl (lI rfl (by omega) (by decide)) ?_
  refine x_iconst hm rfl (v := nI 1) (by decide) ?_
  refine x_iadd hm rfl ?_
  refine x_iast hm rfl (sI rfl (by omega) (by decide)) ?_
  refine x_aload_n hm rfl rfl ?_
  refine x_getf hm rfl (gR rfl rfl) ?_
  refine x_iconst hm rfl (v := nI 0) (by decide) ?_
  refine x_dup2 hm rfl rfl rfl ?_
  refine x_iald hm rfl (lI rfl (by omega) (by decide)) ?_
  refine x_iconst hm rfl (v := nI 1) (by decide) ?_
  refine x_iadd hm rfl ?_
  refine x_iast hm rfl (sI rfl (by omega) (by decide)) ?_
  refine x_iload_n hm rfl rfl ?_
  refine x_iret hm rfl rfl (by first | rfl | exact bI_nar | decide) ?_
  exact ⟨_, _, rfl, rfl, rfl, fun h => (h.put0 (kd70 _)).put0 (kd70 _), fun a ha => by funext b; simp [mput, ha]⟩
/-- what is only asked changes but the findings -/
def Iq (M M' : mM) : Prop := Inv M' ∧ ∀ a, a ≠ 70 → M' a = M a
theorem Iq.rf (hI : Inv M) : Iq M M := ⟨hI, fun _ _ => rfl⟩
theorem Fnd.iq {M' : mM} (h : Fnd M M') (hI : Inv M) : Iq M M' := ⟨h.inv hI, h.2⟩
theorem t138 {a1 a2 : Int32} (hI : Inv M) : ∃ v M', mT X 138 [.ref 66, .int a1, .int a2] (con M) (some (.int v)) (con M') ∧ Iq M M' := by
  refine ti_of (row := _) rfl (Nat.le_of_ble_eq_true rfl) ?_
  have hm : mMet 138 = some _ := rfl
  obtain ⟨nt, hn8, hnt⟩ := hI.1.nt
  refine x_aload_n hm rfl rfl ?_
  refine x_iload_n hm rfl rfl ?_
  refine x_callV hm rfl rfl (t139) ?_
  refine x_if_eq hm rfl (t := 18) rfl (fun h1 => ?_) (fun h1 => ?_)
  · refine x_aload_n hm rfl rfl ?_
    refine x_ldcI hm rfl (v := (-1000001 : Int32)) (by decide +kernel) ?_
    refine x_cVi hm rfl rfl (t135 (by decide +kernel)) (fun v2 M2 r2 => ?_)
    refine x_iret hm rfl rfl (by first | rfl | exact bI_nar | decide) ?_
    exact ⟨_, _, rfl, rfl, by first | exact Iq.rf hI | exact (r1.2.iq hI) | exact (r2.2.iq hI) | exact (r3.2.iq hI) | exact (r4.2.iq hI) | exact (r5.2.iq hI) | exact (r6.2.iq hI) | exact (r7.2.iq hI) | exact (r8.2.iq hI)⟩
  · obtain ⟨t, ht, rfl⟩ := in_k hnt (by omega) (bI_ne0 h1)
    refine x_iload_n hm rfl rfl ?_
    refine x_iconst hm rfl (v := nI 0) (by decide) ?_
    refine x_bipush hm rfl (v := nI 6) (by decide) ?_
    refine x_callS hm rfl rfl (t133) ?_
    refine x_if_ne hm rfl (t := 25) rfl (fun h3 => ?_) (fun h3 => ?_)
    · obtain ⟨w, hw, rfl⟩ := le_k (by omega) (bI_ne0 h3)
      refine x_iload_n hm rfl rfl ?_
      refine x_bipush hm rfl (v := nI 6) (by decide) ?_
      refine x_icmp_ne hm rfl (t := 39) rfl (fun h4 => ?_) (fun h4 => ?_)
      · have hw6 : w ≠ 6 := fun e => h4 (by rw [e])
        refine x_aload_n hm rfl rfl ?_
        refine x_iload_n hm rfl rfl ?_
        refine x_iload_n hm rfl rfl ?_
        refine x_callV hm rfl rfl (t143 (by omega) (by omega)) ?_
        refine x_iret hm rfl rfl (by first | rfl | exact bI_nar | decide) ?_
        exact ⟨_, _, rfl, rfl, by first | exact Iq.rf hI | exact (r1.2.iq hI) | exact (r2.2.iq hI) | exact (r3.2.iq hI) | exact (r4.2.iq hI) | exact (r5.2.iq hI) | exact (r6.2.iq hI) | exact (r7.2.iq hI) | exact (r8.2.iq hI)⟩
      · 
        refine x_aload_n hm rfl rfl ?_
        refine x_iload_n hm rfl rfl ?_
        refine x_cVe hm rfl rfl (t140 hI.1 (by omega)) (fun v5 r5 => ?_)
        refine x_goto hm rfl (t := 45) rfl ?_
        refine x_iret hm rfl rfl (by first | rfl | exact bI_nar | decide) ?_
        exact ⟨_, _, rfl, rfl, by first | exact Iq.rf hI | exact (r1.2.iq hI) | exact (r2.2.iq hI) | exact (r3.2.iq hI) | exact (r4.2.iq hI) | exact (r5.2.iq hI) | exact (r6.2.iq hI) | exact (r7.2.iq hI) | exact (r8.2.iq hI)⟩
    · refine x_aload_n hm rfl rfl ?_
      refine x_ldcI hm rfl (v := (-1000001 : Int32)) (by decide +kernel) ?_
      refine x_cVi hm rfl rfl (t135 (by decide +kernel)) (fun v6 M6 r6 => ?_)
      refine x_iret hm rfl rfl (by first | rfl | exact bI_nar | decide) ?_
      exact ⟨_, _, rfl, rfl, by first | exact Iq.rf hI | exact (r1.2.iq hI) | exact (r2.2.iq hI) | exact (r3.2.iq hI) | exact (r4.2.iq hI) | exact (r5.2.iq hI) | exact (r6.2.iq hI) | exact (r7.2.iq hI) | exact (r8.2.iq hI)⟩
end RR
end
section
/-! ===== the reference: days ===== -/
/-- what days, findings and trials leave as it was -/
def Sf (M M' : mM) : Prop := (Wf M → Wf M') ∧ M' 67 1 = M 67 1 ∧ M' 67 2 = M 67 2 ∧ (∀ t, t < 8 → M' 67 (14 + 6 * t + 5) = M 67 (14 + 6 * t + 5)) ∧ M' 68 = M 68
theorem Sf.rf {M : mM} : Sf M M := ⟨fun h => h, rfl, rfl, fun _ _ => rfl, rfl⟩
theorem Sf.trans {M M1 M2 : mM} (h : Sf M M1) (g : Sf M1 M2) : Sf M M2 := ⟨fun w => g.1 (h.1 w), g.2.1.trans h.2.1, g.2.2.1.trans h.2.2.1, fun t ht => (g.2.2.2.1 t ht).trans (h.2.2.2.1 t ht), g.2.2.2.2.trans h.2.2.2.2⟩
theorem Ac.of {r r' : Nat → Int32} (h : Ac r) (h1 : r' 1 = r 1) (ht : ∀ t, t < 8 → r' (14 + 6 * t + 5) = r (14 + 6 * t + 5)) : Ac r' := by
  intro n hn e
  rw [h1] at e
  obtain ⟨rk, hk⟩ := h n hn e
  refine ⟨rk, fun t u htn hu he => ?_⟩
  rw [ht t (by omega)] at he
  exact hk t u htn hu he
theorem Sf.inv {M M' : mM} (h : Sf M M') (hI : Inv M) : Inv M' := ⟨h.1 hI.1, hI.2.1.of h.2.1 h.2.2.2.1, by rw [h.2.2.2.2]; exact hI.2.2⟩
theorem Fnd.sf {M M' : mM} (h : Fnd M M') : Sf M M' := ⟨h.1, by rw [h.2 67 (by decide)], by rw [h.2 67 (by decide)], fun t _ => by rw [h.2 67 (by decide)], h.2 68 (by decide)⟩
theorem Sf.put {M : mM} {a b : Nat} {v : Int32} (hv : okx (kd a b) v) (ha : a ≠ 68) (hb : a = 67 → b ≠ 1 ∧ b ≠ 2 ∧ ∀ t, t < 8 → b ≠ 14 + 6 * t + 5) : Sf M (mput M a b v) := by
  refine ⟨fun h => h.put hv, ?_, ?_, fun t ht => ?_, ?_⟩
  · unfold mput
    rw [if_neg]
    rintro ⟨e, e2⟩
    exact (hb e.symm).1 e2.symm
  · unfold mput
    rw [if_neg]
    rintro ⟨e, e2⟩
    exact (hb e.symm).2.1 e2.symm
  · unfold mput
    rw [if_neg]
    rintro ⟨e, e2⟩
    exact (hb e.symm).2.2 t ht e2.symm
  · funext j
    unfold mput
    rw [if_neg]
    rintro ⟨e, -⟩
    exact ha e.symm
theorem Sf.put0 {M : mM} {a b : Nat} {v : Int32} (hk : kd a b = 0) (ha : a ≠ 68) (ha7 : a ≠ 67) : Sf M (mput M a b v) := Sf.put (by rw [hk]; trivial) ha (fun e => absurd e ha7)
theorem kd_p : ∀ p, p < 8 → ∀ f, f < 7 → kd 67 (62 + 7 * p + f) = 0 := by decide +kernel
theorem Sf.person {M : mM} {p f : Nat} {v : Int32} (hp : p < 8) (hf : f < 7) : Sf M (mput M 67 (62 + 7 * p + f) v) := Sf.put (by rw [kd_p p hp f hf]; trivial) (by decide) (fun _ => ⟨by omega, by omega, fun t ht => by omega⟩)
theorem Sf.thing {M : mM} {t f : Nat} {v : Int32} (ht : t < 8) (hf : f < 5) (h0 : f ≠ 0) (h4 : f ≠ 4) : Sf M (mput M 67 (14 + 6 * t + f) v) := Sf.put (by
    rw [kd_t t ht f (by omega), if_neg h0, if_neg (by omega)]
    trivial) (by decide) (fun _ => ⟨by omega, by omega, fun t ht => by omega⟩)
theorem Sf.owner {M : mM} {t : Nat} {v : Int32} (ht : t < 8) (hv : okx 2 v) : Sf M (mput M 67 (14 + 6 * t + 4) v) := Sf.put (by
    rw [kd_t t ht 4 (by omega)]
    exact hv) (by decide) (fun _ => ⟨by omega, by omega, fun t ht => by omega⟩)
theorem Sf.sort {M : mM} {t : Nat} {v : Int32} (ht : t < 8) (hv : okx 3 v) : Sf M (mput M 67 (14 + 6 * t + 0) v) := Sf.put (by
    rw [kd_t t ht 0 (by omega)]
    exact hv) (by decide) (fun _ => ⟨by omega, by omega, fun t ht => by omega⟩)
theorem Sf.day {M : mM} {v : Int32} : Sf M (mput M 67 0 v) := Sf.put (by trivial) (by decide) (fun _ => ⟨by omega, by omega, fun t ht => by omega⟩)
theorem Sf.draw {M : mM} {v : Int32} : Sf M (mput M 67 3 v) := Sf.put (by trivial) (by decide) (fun _ => ⟨by omega, by omega, fun t ht => by omega⟩)
def Dy (M M' : mM) : Prop := Sf M M' ∧ M' 69 = M 69
theorem Dy.rf {M : mM} : Dy M M := ⟨Sf.rf, rfl⟩
theorem Dy.trans {M M1 M2 : mM} (h : Dy M M1) (g : Dy M1 M2) : Dy M M2 := ⟨h.1.trans g.1, g.2.trans h.2⟩
theorem Dy.put {M : mM} {a b : Nat} {v : Int32} (h : Sf M (mput M a b v)) (ha : a ≠ 69) : Dy M (mput M a b v) := ⟨h, by
  funext j
  unfold mput
  rw [if_neg]
  rintro ⟨e, -⟩
  exact ha e.symm⟩
/-- how many are not gone -/
def cnt (f : Nat → Int32) : Nat → Nat
  | 0 => 0
  | n + 1 => cnt f n + if f (14 + 6 * n + 2) = 0 then 0 else 1
theorem cnt_same {f g : Nat → Int32} : ∀ n, (∀ t, t < n → f (14 + 6 * t + 2) = g (14 + 6 * t + 2)) → cnt f n = cnt g n := by
  intro n
  induction n with
  | zero => intro _; rfl
  | succ n ih =>
    intro h
    unfold cnt
    rw [ih fun t ht => h t (by omega), h n (by omega)]
theorem cnt_zero {M : mM} {t : Nat} : ∀ n, t < n → ¬ M 67 (14 + 6 * t + 2) = 0 → cnt (mput M 67 (14 + 6 * t + 2) (nI 0) 67) n < cnt (M 67) n := by
  intro n
  induction n with
  | zero => intro h; omega
  | succ n ih =>
    intro h h0
    unfold cnt
    by_cases e : t = n
    · subst e
      have e1 : mput M 67 (14 + 6 * t + 2) (nI 0) 67 (14 + 6 * t + 2) = 0 := by
        unfold mput
        rw [if_pos ⟨rfl, rfl⟩]
        rfl
      rw [if_pos e1, if_neg h0, cnt_same (g := M 67) t fun u hu => by
        unfold mput
        rw [if_neg]
        rintro ⟨-, e2⟩
        omega]
      omega
    · have := ih (by omega) h0
      have e1 : mput M 67 (14 + 6 * t + 2) (nI 0) 67 (14 + 6 * n + 2) = M 67 (14 + 6 * n + 2) := by
        unfold mput
        rw [if_neg]
        rintro ⟨-, e2⟩
        omega
      rw [e1]
      omega
/-- a row copied, up to i -/
def cp (M : mM) (a b i : Nat) : mM := fun x j => if x = b ∧ j < i then M a j else M x j
theorem cp_0 {M : mM} {a b : Nat} : cp M a b 0 = M := by
  funext x j
  simp [cp]
theorem cp_s {M : mM} {a b i : Nat} (h : a ≠ b) : mput (cp M a b i) b i (cp M a b i a i) = cp M a b (i + 1) := by
  funext x j
  unfold mput cp
  by_cases hx : x = b
  · subst hx
    by_cases hj : j = i
    · subst hj
      simp [h]
    · by_cases hl : j < i
      · have h2 : j < i + 1 := by omega
        simp [hj, hl, h2]
      · have h2 : ¬ j < i + 1 := by omega
        simp [hj, hl, h2]
  · simp [hx]
theorem kd_row (b j : Nat) (h : b = 67 ∨ b = 68 ∨ b = 69) : kd b j = kd 67 j := by
  rcases h with rfl | rfl | rfl <;> rfl
theorem Wf.ofcp {M : mM} {a b i : Nat} (h : Wf M) (ha : a = 67 ∨ a = 68 ∨ a = 69) (hb : b = 67 ∨ b = 68 ∨ b = 69) : Wf (cp M a b i) := by
  intro x j
  show okx (kd x j) (if x = b ∧ j < i then M a j else M x j)
  by_cases hx : x = b ∧ j < i
  · rw [if_pos hx, hx.1, kd_row b j hb, ← kd_row a j ha]
    exact h a j
  · rw [if_neg hx]
    exact h x j

theorem nar01 {v : Int32} (h : v = nI 0 ∨ v = nI 1) : narrow .boolean (.int v) = .int v := by
  rcases h with rfl | rfl <;> rfl
theorem and_dec {l : Int32} (h : ¬ l = 0) : (l &&& (l - nI 1)).toBitVec.toNat < l.toBitVec.toNat := by
  have h0 : l.toBitVec.toNat ≠ 0 := fun e => h (Int32.toBitVec_inj.mp (BitVec.eq_of_toNat_eq (by rw [e]; rfl)))
  have h1 : (l - nI 1).toBitVec.toNat = l.toBitVec.toNat - 1 := by
    rw [Int32.toBitVec_sub, BitVec.toNat_sub]
    have e : (nI 1).toBitVec.toNat = 1 := rfl
    have hl := l.toBitVec.isLt
    rw [e]
    omega
  rw [Int32.toBitVec_and, BitVec.toNat_and, h1]
  have := Nat.and_le_right (n := l.toBitVec.toNat) (m := l.toBitVec.toNat - 1)
  omega
section RD
variable {X : mSc} {Q : Option Value → mHp → Prop} {M : mM}
theorem l170  {nb : Nat} (hnb : M 67 1 = nI nb) (h8 : nb ≤ 8) : ∀ (n k : Nat) (s : Int32), nb - k < n → k ≤ nb → mEv X (QE M (fun _ => True)) 170 4 [some (.ref 66), some (.int s), some (.int (nI k))] [] (con M) := by
  have hm : mMet 170 = some _ := rfl
  intro n
  induction n with
  | zero =>
    intro k s hkn hkb
    omega
  | succ n ih =>
    intro k s hkn hkb
    refine x_iload_n hm rfl rfl ?_
    refine x_aload_n hm rfl rfl ?_
    refine x_getf hm rfl (gR rfl rfl) ?_
    refine x_iconst hm rfl (v := nI 1) (by decide) ?_
    refine x_iald hm rfl (lI rfl (by omega) (by decide)) ?_
    rw [hnb]
    refine x_icmp_ge hm rfl (t := 29) rfl (fun h1 => ?_) (fun h1 => ?_)
    · refine x_iload_n hm rfl rfl ?_
      refine x_iret hm rfl rfl (by first | rfl | exact bI_nar | decide) ?_
      exact ⟨_, rfl, rfl, trivial⟩
    · have hk : k < nb := Nat.lt_of_not_le fun h => h1 (nI_le h (by omega))
      refine x_iload_n hm rfl rfl ?_
      refine x_aload_n hm rfl rfl ?_
      refine x_iload_n hm rfl rfl ?_
      refine x_iconst hm rfl (v := nI 2) (by decide) ?_
      refine x_callV hm rfl rfl (t143 (by omega) (by omega)) ?_
      refine x_iadd hm rfl ?_
      refine x_istore_n hm rfl rfl ?_
      refine x_iinc hm rfl rfl (v := nI 1) (by decide) rfl ?_
      rw [jI_add]
      refine x_goto hm rfl (t := 4) rfl ?_
      exact ih _ _ (by omega) (by omega)
theorem t170 (hW : Wf M) : ∃ v, mT X 170 [.ref 66] (con M) (some (.int v)) (con M) ∧ True := by
  refine te_of (row := _) rfl (Nat.le_of_ble_eq_true rfl) ?_
  have hm : mMet 170 = some _ := rfl
  obtain ⟨nb, h8, hnb⟩ := hW.nt
  refine x_iconst hm rfl (v := nI 0) (by decide) ?_
  refine x_istore_n hm rfl rfl ?_
  refine x_iconst hm rfl (v := nI 0) (by decide) ?_
  refine x_istore_n hm rfl rfl ?_
  exact l170 hnb h8 _ 0 _ (Nat.lt_succ_self _) (Nat.zero_le _)
theorem l167  {nb : Nat} (hnb : M 67 1 = nI nb) (h8 : nb ≤ 8) : ∀ (n k : Nat) (s : Int32), nb - k < n → k ≤ nb → mEv X (QE M (fun _ => True)) 167 4 [some (.ref 66), some (.int s), some (.int (nI k))] [] (con M) := by
  have hm : mMet 167 = some _ := rfl
  intro n
  induction n with
  | zero =>
    intro k s hkn hkb
    omega
  | succ n ih =>
    intro k s hkn hkb
    refine x_iload_n hm rfl rfl ?_
    refine x_aload_n hm rfl rfl ?_
    refine x_getf hm rfl (gR rfl rfl) ?_
    refine x_iconst hm rfl (v := nI 1) (by decide) ?_
    refine x_iald hm rfl (lI rfl (by omega) (by decide)) ?_
    rw [hnb]
    refine x_icmp_ge hm rfl (t := 38) rfl (fun h1 => ?_) (fun h1 => ?_)
    · refine x_iload_n hm rfl rfl ?_
      refine x_iret hm rfl rfl (by first | rfl | exact bI_nar | decide) ?_
      exact ⟨_, rfl, rfl, trivial⟩
    · have hk : k < nb := Nat.lt_of_not_le fun h => h1 (nI_le h (by omega))
      refine x_iload_n hm rfl rfl ?_
      refine x_aload_n hm rfl rfl ?_
      refine x_iload_n hm rfl rfl ?_
      refine x_callV hm rfl rfl (t146 (by omega)) ?_
      refine x_if_eq hm rfl (t := 29) rfl (fun h2 => ?_) (fun h2 => ?_)
      · refine x_iconst hm rfl (v := nI 0) (by decide) ?_
        refine x_ior hm rfl ?_
        refine x_istore_n hm rfl rfl ?_
        refine x_iinc hm rfl rfl (v := nI 1) (by decide) rfl ?_
        rw [jI_add]
        refine x_goto hm rfl (t := 4) rfl ?_
        exact ih _ _ (by omega) (by omega)
      · refine x_iconst hm rfl (v := nI 1) (by decide) ?_
        refine x_iload_n hm rfl rfl ?_
        refine x_ishl hm rfl ?_
        refine x_goto hm rfl (t := 30) rfl ?_
        refine x_ior hm rfl ?_
        refine x_istore_n hm rfl rfl ?_
        refine x_iinc hm rfl rfl (v := nI 1) (by decide) rfl ?_
        rw [jI_add]
        refine x_goto hm rfl (t := 4) rfl ?_
        exact ih _ _ (by omega) (by omega)
theorem t167 (hW : Wf M) : ∃ v, mT X 167 [.ref 66] (con M) (some (.int v)) (con M) ∧ True := by
  refine te_of (row := _) rfl (Nat.le_of_ble_eq_true rfl) ?_
  have hm : mMet 167 = some _ := rfl
  obtain ⟨nb, h8, hnb⟩ := hW.nt
  refine x_iconst hm rfl (v := nI 0) (by decide) ?_
  refine x_istore_n hm rfl rfl ?_
  refine x_iconst hm rfl (v := nI 0) (by decide) ?_
  refine x_istore_n hm rfl rfl ?_
  exact l167 hnb h8 _ 0 _ (Nat.lt_succ_self _) (Nat.zero_le _)
theorem l160 {a1 : Int32} {nb : Nat} (hnb : M 67 1 = nI nb) (h8 : nb ≤ 8) : ∀ (n k : Nat) (s : Int32), nb - k < n → k ≤ nb → mEv X (QE M (fun _ => True)) 160 4 [some (.ref 66), some (.int a1), some (.int s), some (.int (nI k))] [] (con M) := by
  have hm : mMet 160 = some _ := rfl
  intro n
  induction n with
  | zero =>
    intro k s hkn hkb
    omega
  | succ n ih =>
    intro k s hkn hkb
    refine x_iload_n hm rfl rfl ?_
    refine x_aload_n hm rfl rfl ?_
    refine x_getf hm rfl (gR rfl rfl) ?_
    refine x_iconst hm rfl (v := nI 1) (by decide) ?_
    refine x_iald hm rfl (lI rfl (by omega) (by decide)) ?_
    rw [hnb]
    refine x_icmp_ge hm rfl (t := 40) rfl (fun h1 => ?_) (fun h1 => ?_)
    · refine x_iload_n hm rfl rfl ?_
      refine x_iret hm rfl rfl (by first | rfl | exact bI_nar | decide) ?_
      exact ⟨_, rfl, rfl, trivial⟩
    · have hk : k < nb := Nat.lt_of_not_le fun h => h1 (nI_le h (by omega))
      refine x_iload_n hm rfl rfl ?_
      refine x_aload_n hm rfl rfl ?_
      refine x_iload_n hm rfl rfl ?_
      refine x_iconst hm rfl (v := nI 4) (by decide) ?_
      refine x_callV hm rfl rfl (t143 (by omega) (by omega)) ?_
      refine x_iload_n hm rfl rfl ?_
      refine x_icmp_ne hm rfl (t := 31) rfl (fun h2 => ?_) (fun h2 => ?_)
      · refine x_iconst hm rfl (v := nI 0) (by decide) ?_
        refine x_ior hm rfl ?_
        refine x_istore_n hm rfl rfl ?_
        refine x_iinc hm rfl rfl (v := nI 1) (by decide) rfl ?_
        rw [jI_add]
        refine x_goto hm rfl (t := 4) rfl ?_
        exact ih _ _ (by omega) (by omega)
      · refine x_iconst hm rfl (v := nI 1) (by decide) ?_
        refine x_iload_n hm rfl rfl ?_
        refine x_ishl hm rfl ?_
        refine x_goto hm rfl (t := 32) rfl ?_
        refine x_ior hm rfl ?_
        refine x_istore_n hm rfl rfl ?_
        refine x_iinc hm rfl rfl (v := nI 1) (by decide) rfl ?_
        rw [jI_add]
        refine x_goto hm rfl (t := 4) rfl ?_
        exact ih _ _ (by omega) (by omega)
theorem t160 {a1 : Int32} (hW : Wf M) : ∃ v, mT X 160 [.ref 66, .int a1] (con M) (some (.int v)) (con M) ∧ True := by
  refine te_of (row := _) rfl (Nat.le_of_ble_eq_true rfl) ?_
  have hm : mMet 160 = some _ := rfl
  obtain ⟨nb, h8, hnb⟩ := hW.nt
  refine x_iconst hm rfl (v := nI 0) (by decide) ?_
  refine x_istore_n hm rfl rfl ?_
  refine x_iconst hm rfl (v := nI 0) (by decide) ?_
  refine x_istore_n hm rfl rfl ?_
  exact l160 hnb h8 _ 0 _ (Nat.lt_succ_self _) (Nat.zero_le _)
theorem l171 {a1 : Int32} {nb : Nat} (hnb : M 67 2 = nI nb) (h8 : nb ≤ 8) : ∀ (n k : Nat) (s : Int32), nb - k < n → k ≤ nb → (s = nI 0 ∨ s = nI 1) → mEv X (QE M (fun _ => True)) 171 4 [some (.ref 66), some (.int a1), some (.int s), some (.int (nI k))] [] (con M) := by
  have hm : mMet 171 = some _ := rfl
  intro n
  induction n with
  | zero =>
    intro k s hkn hkb h01
    omega
  | succ n ih =>
    intro k s hkn hkb h01
    refine x_iload_n hm rfl rfl ?_
    refine x_aload_n hm rfl rfl ?_
    refine x_getf hm rfl (gR rfl rfl) ?_
    refine x_iconst hm rfl (v := nI 2) (by decide) ?_
    refine x_iald hm rfl (lI rfl (by omega) (by decide)) ?_
    rw [hnb]
    refine x_icmp_ge hm rfl (t := 40) rfl (fun h1 => ?_) (fun h1 => ?_)
    · refine x_iload_n hm rfl rfl ?_
      refine x_iret hm rfl rfl (nar01 h01) ?_
      exact ⟨_, rfl, rfl, trivial⟩ --stop
    · have hk : k < nb := Nat.lt_of_not_le fun h => h1 (nI_le h (by omega))
      refine x_iload_n hm rfl rfl ?_
      refine x_if_ne hm rfl (t := 28) rfl (fun h2 => ?_) (fun h2 => ?_)
      · refine x_iconst hm rfl (v := nI 1) (by decide) ?_
        refine x_goto hm rfl (t := 33) rfl ?_
        refine x_istore_n hm rfl rfl ?_
        refine x_iinc hm rfl rfl (v := nI 1) (by decide) rfl ?_
        rw [jI_add]
        refine x_goto hm rfl (t := 4) rfl ?_
        exact ih _ _ (by omega) (by omega) (by first | exact Or.inl rfl | exact Or.inr rfl)
      · refine x_aload_n hm rfl rfl ?_
        refine x_iload_n hm rfl rfl ?_
        refine x_iconst hm rfl (v := nI 1) (by decide) ?_
        refine x_callV hm rfl rfl (t141 (by omega) (by omega)) ?_
        refine x_iload_n hm rfl rfl ?_
        refine x_icmp_ne hm rfl (t := 32) rfl (fun h3 => ?_) (fun h3 => ?_)
        · refine x_iconst hm rfl (v := nI 0) (by decide) ?_
          refine x_istore_n hm rfl rfl ?_
          refine x_iinc hm rfl rfl (v := nI 1) (by decide) rfl ?_
          rw [jI_add]
          refine x_goto hm rfl (t := 4) rfl ?_
          exact ih _ _ (by omega) (by omega) (by first | exact Or.inl rfl | exact Or.inr rfl)
        · refine x_iconst hm rfl (v := nI 1) (by decide) ?_
          refine x_goto hm rfl (t := 33) rfl ?_
          refine x_istore_n hm rfl rfl ?_
          refine x_iinc hm rfl rfl (v := nI 1) (by decide) rfl ?_
          rw [jI_add]
          refine x_goto hm rfl (t := 4) rfl ?_
          exact ih _ _ (by omega) (by omega) (by first | exact Or.inl rfl | exact Or.inr rfl)
theorem t171 {a1 : Int32} (hW : Wf M) : ∃ v, mT X 171 [.ref 66, .int a1] (con M) (some (.int v)) (con M) ∧ True := by
  refine te_of (row := _) rfl (Nat.le_of_ble_eq_true rfl) ?_
  have hm : mMet 171 = some _ := rfl
  obtain ⟨nb, h8, hnb⟩ := hW.np
  refine x_iconst hm rfl (v := nI 0) (by decide) ?_
  refine x_istore_n hm rfl rfl ?_
  refine x_iconst hm rfl (v := nI 0) (by decide) ?_
  refine x_istore_n hm rfl rfl ?_
  exact l171 hnb h8 _ 0 _ (Nat.lt_succ_self _) (Nat.zero_le _) (Or.inl rfl)
theorem l168 {a1 : Int32} : ∀ (n : Nat) (s l : Int32), l.toBitVec.toNat < n → mEv X (QE M (fun _ => True)) 168 4 [some (.int a1), some (.int s), some (.int l)] [] (con M) := by
  have hm : mMet 168 = some _ := rfl
  intro n
  induction n with
  | zero =>
    intro s l hl
    omega
  | succ n ih =>
    intro s l hl
    refine x_iload_n hm rfl rfl ?_
    refine x_if_eq hm rfl (t := 20) rfl (fun h1 => ?_) (fun h1 => ?_)
    · refine x_iload_n hm rfl rfl ?_
      refine x_iret hm rfl rfl (by first | rfl | exact bI_nar | decide) ?_
      exact ⟨_, rfl, rfl, trivial⟩
    · refine x_iinc hm rfl rfl (v := nI 1) (by decide) rfl ?_
      refine x_iload_n hm rfl rfl ?_
      refine x_iload_n hm rfl rfl ?_
      refine x_iconst hm rfl (v := nI 1) (by decide) ?_
      refine x_isub hm rfl ?_
      refine x_iand hm rfl ?_
      refine x_istore_n hm rfl rfl ?_
      refine x_goto hm rfl (t := 4) rfl ?_
      exact ih _ _ (by have := and_dec h1; omega)
theorem t168 {a1 : Int32} : ∃ v, mT X 168 [.int a1] (con M) (some (.int v)) (con M) ∧ True := by
  refine te_of (row := _) rfl (Nat.le_of_ble_eq_true rfl) ?_
  have hm : mMet 168 = some _ := rfl
  refine x_iconst hm rfl (v := nI 0) (by decide) ?_
  refine x_istore_n hm rfl rfl ?_
  refine x_iload_n hm rfl rfl ?_
  refine x_istore_n hm rfl rfl ?_
  exact l168 _ _ _ (Nat.lt_succ_self _)
theorem l174 {a b : Nat} (ha : mSp[a]? = some (0, 118, [])) (hb : mSp[b]? = some (0, 118, [])) (hab : a ≠ b) : ∀ (n i : Nat), 118 - i < n → i ≤ 118 → mEv X (fun r1 D1 => r1 = none ∧ D1 = con (cp M a b 118)) 174 2 [some (.ref a), some (.ref b), some (.int (nI i))] [] (con (cp M a b i)) := by
  have hm : mMet 174 = some _ := rfl
  intro n
  induction n with
  | zero =>
    intro i hin hi
    omega
  | succ n ih =>
    intro i hin hi
    refine x_iload_n hm rfl rfl ?_
    refine x_bipush hm rfl (v := nI 118) (by decide) ?_
    refine x_icmp_ge hm rfl (t := 20) rfl (fun h1 => ?_) (fun h1 => ?_)
    · obtain rfl : i = 118 := Nat.le_antisymm hi ((jI_le (by decide) (by omega)).mp h1)
      refine x_ret hm rfl rfl ?_
      exact ⟨rfl, rfl⟩
    · have hk : i < 118 := Nat.lt_of_not_le fun h => h1 (nI_le h (by omega))
      refine x_aload_n hm rfl rfl ?_
      refine x_iload_n hm rfl rfl ?_
      refine x_aload_n hm rfl rfl ?_
      refine x_iload_n hm rfl rfl ?_
      refine x_iald hm rfl (lI ha hk (by decide)) ?_
      refine x_iast hm rfl (sI hb hk (by decide)) ?_
      rw [cp_s hab]
      refine x_iinc hm rfl rfl (v := nI 1) (by decide) rfl ?_
      rw [jI_add]
      refine x_goto hm rfl (t := 2) rfl ?_
      exact ih _ (by omega) (by omega)
theorem t174 {a b : Nat} (ha : mSp[a]? = some (0, 118, [])) (hb : mSp[b]? = some (0, 118, [])) (hab : a ≠ b) : mT X 174 [.ref a, .ref b] (con M) none (con (cp M a b 118)) := by
  refine mT.of (row := _) rfl (Nat.le_of_ble_eq_true rfl) ?_
  have hm : mMet 174 = some _ := rfl
  refine x_iconst hm rfl (v := nI 0) (by decide) ?_
  refine x_istore_n hm rfl rfl ?_
  have h9 := l174 (X := X) (M := M) ha hb hab _ 0 (Nat.lt_succ_self _) (Nat.zero_le _)
  rw [cp_0] at h9
  exact h9
theorem t175 {v : Int32} : mT X 175 [.ref 66, .int v] (con M) (some (.int v)) (con (cp M 69 67 118)) := by
  refine mT.of (row := _) rfl (Nat.le_of_ble_eq_true rfl) ?_
  have hm : mMet 175 = some _ := rfl
  refine x_aload_n hm rfl rfl ?_
  refine x_getf hm rfl (gR rfl rfl) ?_
  refine x_aload_n hm rfl rfl ?_
  refine x_getf hm rfl (gR rfl rfl) ?_
  refine x_callS hm rfl rfl (t174 rfl rfl (by decide)) ?_
  refine x_iload_n hm rfl rfl ?_
  refine x_iret hm rfl rfl (by first | rfl | exact bI_nar | decide) ?_
  exact ⟨rfl, rfl⟩
end RD
section RE
variable {X : mSc} {Q : Option Value → mHp → Prop} {M : mM}
theorem l166 {nb : Nat} (hW : Wf M) (hnb : M 67 1 = nI nb) (h8 : nb ≤ 8) : ∀ (n k : Nat) (s : Int32) (M1 : mM), nb - k < n → k ≤ nb → Dy M M1 → ((s = nI 0 ∧ cnt (M1 67) nb ≤ cnt (M 67) nb) ∨ (s = nI 1 ∧ cnt (M1 67) nb < cnt (M 67) nb)) → mEv X (QI (fun v M' => Dy M M' ∧ ((v = nI 0 ∧ cnt (M' 67) nb ≤ cnt (M 67) nb) ∨ (v = nI 1 ∧ cnt (M' 67) nb < cnt (M 67) nb)))) 166 4 [some (.ref 66), some (.int s), some (.int (nI k))] [] (con M1) := by
  have hm : mMet 166 = some _ := rfl
  intro n
  induction n with
  | zero =>
    intro k s M1 hkn hkb hD hc
    omega
  | succ n ih =>
    intro k s M1 hkn hkb hD hc
    have hW1 := hD.1.1 hW
    have hn1 : M1 67 1 = nI nb := hD.1.2.1.trans hnb
    have h01 : s = nI 0 ∨ s = nI 1 := hc.elim (fun h => Or.inl h.1) (fun h => Or.inr h.1)
    refine x_iload_n hm rfl rfl ?_
    refine x_aload_n hm rfl rfl ?_
    refine x_getf hm rfl (gR rfl rfl) ?_
    refine x_iconst hm rfl (v := nI 1) (by decide) ?_
    refine x_iald hm rfl (lI rfl (by omega) (by decide)) ?_
    rw [hn1]
    refine x_icmp_ge hm rfl (t := 63) rfl (fun h1 => ?_) (fun h1 => ?_)
    · refine x_iload_n hm rfl rfl ?_
      refine x_iret hm rfl rfl (nar01 h01) ?_
      exact ⟨_, _, rfl, rfl, hD, hc⟩ --stop
    · have hk : k < nb := Nat.lt_of_not_le fun h => h1 (nI_le h (by omega))
      refine x_aload_n hm rfl rfl ?_
      refine x_iload_n hm rfl rfl ?_
      refine x_callV hm rfl rfl (t146 (by omega)) ?_
      refine x_if_ne hm rfl (t := 57) rfl (fun h2 => ?_) (fun h2 => ?_)
      · refine x_iinc hm rfl rfl (v := nI 1) (by decide) rfl ?_
        rw [jI_add]
        refine x_goto hm rfl (t := 4) rfl ?_
        first
          | exact ih _ _ _ (by omega) (by omega) hD hc
          | exact ih _ _ _ (by omega) (by omega) (hD.trans (Dy.put (Sf.thing (by omega) (by decide) (by decide) (by decide)) (by decide))) (Or.inr ⟨rfl, by have := cnt_zero (M := M1) nb hk hg; omega⟩)
      · have hg : ¬ M1 67 (14 + 6 * k + 2) = 0 := bI_eq0.mp h2
        refine x_aload_n hm rfl rfl ?_
        refine x_iload_n hm rfl rfl ?_
        refine x_iconst hm rfl (v := nI 5) (by decide) ?_
        refine x_callV hm rfl rfl (t143 (by omega) (by omega)) ?_
        refine x_if_lt hm rfl (t := 57) rfl (fun h3 => ?_) (fun h3 => ?_)
        · refine x_iinc hm rfl rfl (v := nI 1) (by decide) rfl ?_
          rw [jI_add]
          refine x_goto hm rfl (t := 4) rfl ?_
          first
            | exact ih _ _ _ (by omega) (by omega) hD hc
            | exact ih _ _ _ (by omega) (by omega) (hD.trans (Dy.put (Sf.thing (by omega) (by decide) (by decide) (by decide)) (by decide))) (Or.inr ⟨rfl, by have := cnt_zero (M := M1) nb hk hg; omega⟩)
        · obtain ⟨w, hw, hw2⟩ := tsm1 h3 (hW1.on (by omega))
          refine x_aload_n hm rfl rfl ?_
          refine x_aload_n hm rfl rfl ?_
          refine x_iload_n hm rfl rfl ?_
          refine x_iconst hm rfl (v := nI 5) (by decide) ?_
          refine x_callV hm rfl rfl (t143 (by omega) (by omega)) ?_
          rw [hw2]
          refine x_callV hm rfl rfl (t146 (by omega)) ?_
          refine x_if_eq hm rfl (t := 57) rfl (fun h4 => ?_) (fun h4 => ?_)
          · refine x_iinc hm rfl rfl (v := nI 1) (by decide) rfl ?_
            rw [jI_add]
            refine x_goto hm rfl (t := 4) rfl ?_
            first
              | exact ih _ _ _ (by omega) (by omega) hD hc
              | exact ih _ _ _ (by omega) (by omega) (hD.trans (Dy.put (Sf.thing (by omega) (by decide) (by decide) (by decide)) (by decide))) (Or.inr ⟨rfl, by have := cnt_zero (M := M1) nb hk hg; omega⟩)
          · refine x_aload_n hm rfl rfl ?_
            refine x_getf hm rfl (gR rfl rfl) ?_
            refine x_iload_n hm rfl rfl ?_
            refine x_iconst hm rfl (v := nI 2) (by decide) ?_
            refine x_callS hm rfl rfl (t137) ?_
            refine x_iconst hm rfl (v := nI 0) (by decide) ?_
            refine x_iast hm rfl (sI rfl (by omega) (by decide)) ?_
            refine x_iconst hm rfl (v := nI 1) (by decide) ?_
            refine x_istore_n hm rfl rfl ?_
            refine x_iinc hm rfl rfl (v := nI 1) (by decide) rfl ?_
            rw [jI_add]
            refine x_goto hm rfl (t := 4) rfl ?_
            first
              | exact ih _ _ _ (by omega) (by omega) hD hc
              | exact ih _ _ _ (by omega) (by omega) (hD.trans (Dy.put (Sf.thing (by omega) (by decide) (by decide) (by decide)) (by decide))) (Or.inr ⟨rfl, by have := cnt_zero (M := M1) nb hk hg; omega⟩)
theorem t166 {nb : Nat} (hW : Wf M) (hnb : M 67 1 = nI nb) (h8 : nb ≤ 8) : ∃ v M', mT X 166 [.ref 66] (con M) (some (.int v)) (con M') ∧ (fun v M' => Dy M M' ∧ ((v = nI 0 ∧ cnt (M' 67) nb ≤ cnt (M 67) nb) ∨ (v = nI 1 ∧ cnt (M' 67) nb < cnt (M 67) nb))) v M' := by
  refine ti_of (row := _) rfl (Nat.le_of_ble_eq_true rfl) ?_
  have hm : mMet 166 = some _ := rfl
  refine x_iconst hm rfl (v := nI 0) (by decide) ?_
  refine x_istore_n hm rfl rfl ?_
  refine x_iconst hm rfl (v := nI 0) (by decide) ?_
  refine x_istore_n hm rfl rfl ?_
  exact l166 hW hnb h8 _ 0 _ _ (Nat.lt_succ_self _) (Nat.zero_le _) Dy.rf (Or.inl ⟨rfl, Nat.le_refl _⟩)
theorem l165d {nb np : Nat} (hW : Wf M) (hnb : M 67 1 = nI nb) (h8 : nb ≤ 8) (hnp : M 67 2 = nI np) (hp8 : np ≤ 8) {s : Int32} : ∀ (n k : Nat) (M1 : mM), np - k < n → k ≤ np → Dy M M1 → mEv X (QV (fun M' => Dy M M')) 165 82 [some (.ref 66), some (.int s), some (.int (nI k))] [] (con M1) := by
  have hm : mMet 165 = some _ := rfl
  intro n
  induction n with
  | zero =>
    intro k M1 hkn hkb hD
    omega
  | succ n ih =>
    intro k M1 hkn hkb hD
    have hW1 := hD.1.1 hW
    have hn1 : M1 67 1 = nI nb := hD.1.2.1.trans hnb
    have hp1 : M1 67 2 = nI np := hD.1.2.2.1.trans hnp
    refine x_iload_n hm rfl rfl ?_
    refine x_aload_n hm rfl rfl ?_
    refine x_getf hm rfl (gR rfl rfl) ?_
    refine x_iconst hm rfl (v := nI 2) (by decide) ?_
    refine x_iald hm rfl (lI rfl (by omega) (by decide)) ?_
    rw [hp1]
    refine x_icmp_ge hm rfl (t := 124) rfl (fun h1 => ?_) (fun h1 => ?_)
    · refine x_aload_n hm rfl rfl ?_
      refine x_getf hm rfl (gR rfl rfl) ?_
      refine x_iconst hm rfl (v := nI 0) (by decide) ?_
      refine x_dup2 hm rfl rfl rfl ?_
      refine x_iald hm rfl (lI rfl (by omega) (by decide)) ?_
      refine x_iconst hm rfl (v := nI 1) (by decide) ?_
      refine x_iadd hm rfl ?_
      refine x_iast hm rfl (sI rfl (by omega) (by decide)) ?_
      refine x_ret hm rfl rfl ?_
      exact ⟨_, rfl, rfl, hD.trans (Dy.put Sf.day (by decide))⟩
    · have hk : k < np := Nat.lt_of_not_le fun h => h1 (nI_le h (by omega))
      refine x_aload_n hm rfl rfl ?_
      refine x_getf hm rfl (gR rfl rfl) ?_
      refine x_iload_n hm rfl rfl ?_
      refine x_iconst hm rfl (v := nI 1) (by decide) ?_
      refine x_callS hm rfl rfl (t142) ?_
      refine x_aload_n hm rfl rfl ?_
      refine x_iload_n hm rfl rfl ?_
      refine x_iconst hm rfl (v := nI 1) (by decide) ?_
      refine x_callV hm rfl rfl (t141 (by omega) (by omega)) ?_
      refine x_aload_n hm rfl rfl ?_
      refine x_iload_n hm rfl rfl ?_
      refine x_iconst hm rfl (v := nI 2) (by decide) ?_
      refine x_callV hm rfl rfl (t141 (by omega) (by omega)) ?_
      refine x_iadd hm rfl ?_
      refine x_bipush hm rfl (v := nI 16) (by decide) ?_
      refine x_irem hm rfl (by decide) ?_
      refine x_iast hm rfl (sI rfl (by omega) (by decide)) ?_
      refine x_iinc hm rfl rfl (v := nI 1) (by decide) rfl ?_
      rw [jI_add]
      refine x_goto hm rfl (t := 82) rfl ?_
      exact ih _ _ (by omega) (by omega) (hD.trans (Dy.put (Sf.person (by omega) (by decide)) (by decide)))
theorem l165c {nb np : Nat} (hW : Wf M) (hnb : M 67 1 = nI nb) (h8 : nb ≤ 8) (hnp : M 67 2 = nI np) (hp8 : np ≤ 8) : ∀ (n : Nat) (s : Int32) (M1 : mM), (s = nI 0 ∨ (s = nI 1 ∧ cnt (M1 67) nb + 1 < n)) → 0 < n → Dy M M1 → mEv X (QV (fun M' => Dy M M')) 165 68 [some (.ref 66), some (.int s), none] [] (con M1) := by
  have hm : mMet 165 = some _ := rfl
  intro n
  induction n with
  | zero =>
    intro s M1 hs hn hD
    omega
  | succ n ih =>
    intro s M1 hs hn hD
    have hW1 := hD.1.1 hW
    have hn1 : M1 67 1 = nI nb := hD.1.2.1.trans hnb
    have hp1 : M1 67 2 = nI np := hD.1.2.2.1.trans hnp
    refine x_iload_n hm rfl rfl ?_
    refine x_if_eq hm rfl (t := 80) rfl (fun h1 => ?_) (fun h1 => ?_)
    · refine x_iconst hm rfl (v := nI 0) (by decide) ?_
      refine x_istore_n hm rfl rfl ?_
      exact l165d hW hnb h8 hnp hp8 _ 0 _ (Nat.lt_succ_self _) (Nat.zero_le _) hD
    · have hs2 : cnt (M1 67) nb + 1 < n + 1 := hs.elim (fun e => absurd e h1) (fun e => e.2)
      refine x_aload_n hm rfl rfl ?_
      refine x_cVi hm rfl rfl (t166 hW1 hn1 h8) (fun v2 M2 r2 => ?_)
      refine x_istore_n hm rfl rfl ?_
      refine x_goto hm rfl (t := 68) rfl ?_
      exact ih _ _ (r2.2.elim (fun e => Or.inl e.1) (fun e => Or.inr ⟨e.1, by omega⟩)) (by omega) (hD.trans r2.1)
theorem l165b {nb np : Nat} (hW : Wf M) (hnb : M 67 1 = nI nb) (h8 : nb ≤ 8) (hnp : M 67 2 = nI np) (hp8 : np ≤ 8) : ∀ (n k : Nat) (M1 : mM), nb - k < n → k ≤ nb → Dy M M1 → mEv X (QV (fun M' => Dy M M')) 165 31 [some (.ref 66), some (.int (nI k)), none] [] (con M1) := by
  have hm : mMet 165 = some _ := rfl
  intro n
  induction n with
  | zero =>
    intro k M1 hkn hkb hD
    omega
  | succ n ih =>
    intro k M1 hkn hkb hD
    have hW1 := hD.1.1 hW
    have hn1 : M1 67 1 = nI nb := hD.1.2.1.trans hnb
    have hp1 : M1 67 2 = nI np := hD.1.2.2.1.trans hnp
    refine x_iload_n hm rfl rfl ?_
    refine x_aload_n hm rfl rfl ?_
    refine x_getf hm rfl (gR rfl rfl) ?_
    refine x_iconst hm rfl (v := nI 1) (by decide) ?_
    refine x_iald hm rfl (lI rfl (by omega) (by decide)) ?_
    rw [hn1]
    refine x_icmp_ge hm rfl (t := 66) rfl (fun h1 => ?_) (fun h1 => ?_)
    · refine x_iconst hm rfl (v := nI 1) (by decide) ?_
      refine x_istore_n hm rfl rfl ?_
      exact l165c hW hnb h8 hnp hp8 _ _ _ (Or.inr ⟨rfl, Nat.lt_succ_self _⟩) (Nat.succ_pos _) hD
    · have hk : k < nb := Nat.lt_of_not_le fun h => h1 (nI_le h (by omega))
      refine x_aload_n hm rfl rfl ?_
      refine x_getf hm rfl (gR rfl rfl) ?_
      refine x_iload_n hm rfl rfl ?_
      refine x_iconst hm rfl (v := nI 2) (by decide) ?_
      refine x_callS hm rfl rfl (t137) ?_
      refine x_dup2 hm rfl rfl rfl ?_
      refine x_iald hm rfl (lI rfl (by omega) (by decide)) ?_
      refine x_aload_n hm rfl rfl ?_
      refine x_getf hm rfl (gR rfl rfl) ?_
      refine x_iload_n hm rfl rfl ?_
      refine x_iald hm rfl (lI rfl (by omega) (by decide)) ?_
      refine x_isub hm rfl ?_
      refine x_iast hm rfl (sI rfl (by omega) (by decide)) ?_
      refine x_iinc hm rfl rfl (v := nI 1) (by decide) rfl ?_
      rw [jI_add]
      refine x_goto hm rfl (t := 31) rfl ?_
      exact ih _ _ (by omega) (by omega) (hD.trans (Dy.put (Sf.thing (by omega) (by decide) (by decide) (by decide)) (by decide)))
theorem l165a {nb np : Nat} (hW : Wf M) (hnb : M 67 1 = nI nb) (h8 : nb ≤ 8) (hnp : M 67 2 = nI np) (hp8 : np ≤ 8) : ∀ (n k : Nat) (M1 : mM), nb - k < n → k ≤ nb → Dy M M1 → mEv X (QV (fun M' => Dy M M')) 165 2 [some (.ref 66), some (.int (nI k)), none] [] (con M1) := by
  have hm : mMet 165 = some _ := rfl
  intro n
  induction n with
  | zero =>
    intro k M1 hkn hkb hD
    omega
  | succ n ih =>
    intro k M1 hkn hkb hD
    have hW1 := hD.1.1 hW
    have hn1 : M1 67 1 = nI nb := hD.1.2.1.trans hnb
    have hp1 : M1 67 2 = nI np := hD.1.2.2.1.trans hnp
    refine x_iload_n hm rfl rfl ?_
    refine x_aload_n hm rfl rfl ?_
    refine x_getf hm rfl (gR rfl rfl) ?_
    refine x_iconst hm rfl (v := nI 1) (by decide) ?_
    refine x_iald hm rfl (lI rfl (by omega) (by decide)) ?_
    rw [hn1]
    refine x_icmp_ge hm rfl (t := 29) rfl (fun h1 => ?_) (fun h1 => ?_)
    · refine x_iconst hm rfl (v := nI 0) (by decide) ?_
      refine x_istore_n hm rfl rfl ?_
      exact l165b hW hnb h8 hnp hp8 _ 0 _ (Nat.lt_succ_self _) (Nat.zero_le _) hD
    · have hk : k < nb := Nat.lt_of_not_le fun h => h1 (nI_le h (by omega))
      refine x_aload_n hm rfl rfl ?_
      refine x_getf hm rfl (gR rfl rfl) ?_
      refine x_iload_n hm rfl rfl ?_
      refine x_aload_n hm rfl rfl ?_
      refine x_iload_n hm rfl rfl ?_
      refine x_cVe hm rfl rfl (t140 hW1 (by omega)) (fun v2 r2 => ?_)
      refine x_iast hm rfl (sI rfl (by omega) (by decide)) ?_
      refine x_iinc hm rfl rfl (v := nI 1) (by decide) rfl ?_
      rw [jI_add]
      refine x_goto hm rfl (t := 2) rfl ?_
      exact ih _ _ (by omega) (by omega) (hD.trans (Dy.put (Sf.put0 (kd71 _) (by decide) (by decide)) (by decide)))
theorem t165 (hW : Wf M) : ∃ M', mT X 165 [.ref 66] (con M) none (con M') ∧ Dy M M' := by
  refine tv_of (row := _) rfl (Nat.le_of_ble_eq_true rfl) ?_
  have hm : mMet 165 = some _ := rfl
  obtain ⟨nb, h8, hnb⟩ := hW.nt
  obtain ⟨np, hp8, hnp⟩ := hW.np
  refine x_iconst hm rfl (v := nI 0) (by decide) ?_
  refine x_istore_n hm rfl rfl ?_
  exact l165a hW hnb h8 hnp hp8 _ 0 _ (Nat.lt_succ_self _) (Nat.zero_le _) Dy.rf
theorem l164 {a : Nat} (hW : Wf M) (ha : a ≤ 1000) : ∀ (n k : Nat) (M1 : mM), a - k < n → k ≤ a → Dy M M1 → mEv X (QV (fun M' => Dy M M')) 164 2 [some (.ref 66), some (.int (nI a)), some (.int (nI k))] [] (con M1) := by
  have hm : mMet 164 = some _ := rfl
  intro n
  induction n with
  | zero =>
    intro k M1 hkn hkb hD
    omega
  | succ n ih =>
    intro k M1 hkn hkb hD
    refine x_iload_n hm rfl rfl ?_
    refine x_iload_n hm rfl rfl ?_
    refine x_icmp_ge hm rfl (t := 17) rfl (fun h1 => ?_) (fun h1 => ?_)
    · refine x_ret hm rfl rfl ?_
      exact ⟨_, rfl, rfl, hD⟩
    · have hk : k < a := Nat.lt_of_not_le fun h => h1 (nI_le h (by omega))
      refine x_aload_n hm rfl rfl ?_
      refine x_cVv hm rfl rfl (t165 (hD.1.1 hW)) (fun M2 r2 => ?_)
      refine x_iinc hm rfl rfl (v := nI 1) (by decide) rfl ?_
      rw [jI_add]
      refine x_goto hm rfl (t := 2) rfl ?_
      exact ih _ _ (by omega) (by omega) (hD.trans r2)
theorem t164 {a : Nat} (hW : Wf M) (ha : a ≤ 1000) : ∃ M', mT X 164 [.ref 66, .int (nI a)] (con M) none (con M') ∧ Dy M M' := by
  refine tv_of (row := _) rfl (Nat.le_of_ble_eq_true rfl) ?_
  have hm : mMet 164 = some _ := rfl
  refine x_iconst hm rfl (v := nI 0) (by decide) ?_
  refine x_istore_n hm rfl rfl ?_
  exact l164 hW ha _ 0 _ (Nat.lt_succ_self _) (Nat.zero_le _) Dy.rf
end RE
end
section
/-! ===== the reference: trials ===== -/
theorem mFit_int {x : Int32} : mFit .int (.int x) = true := by
  unfold mFit
  simp [narrow, fits]
theorem Sf.trial {M M2 : mM} (h : Dy (cp M 67 69 118) M2) : Sf M (cp M2 69 67 118) := by
  have e : ∀ j, j < 118 → cp M2 69 67 118 67 j = M 67 j := by
    intro j hj
    show (if 67 = 67 ∧ j < 118 then M2 69 j else M2 67 j) = _
    rw [if_pos ⟨rfl, hj⟩, h.2]
    show (if 69 = 69 ∧ j < 118 then M 67 j else M 69 j) = _
    rw [if_pos ⟨rfl, hj⟩]
  refine ⟨fun hW => (h.1.1 (hW.ofcp (Or.inl rfl) (Or.inr (Or.inr rfl)))).ofcp (Or.inr (Or.inr rfl)) (Or.inl rfl), e 1 (by decide), e 2 (by decide), fun t ht => e _ (by omega), ?_⟩
  have e8 : cp M2 69 67 118 68 = M2 68 := by
    funext j
    show (if 68 = 67 ∧ j < 118 then M2 69 j else M2 68 j) = _
    rw [if_neg (by omega)]
  rw [e8, h.1.2.2.2.2]
  funext j
  show (if 68 = 69 ∧ j < 118 then M 67 j else M 68 j) = _
  rw [if_neg (by omega)]
theorem Wf.aside {M : mM} (h : Wf M) : Wf (cp M 67 69 118) := h.ofcp (Or.inl rfl) (Or.inr (Or.inr rfl))
theorem dec_int {x : Int32} (h : ¬ x < 0) : (x + (-1)).toInt = x.toInt - 1 := by
  have h0 : (0 : Int) ≤ x.toInt := by
    have := Int32.not_lt.mp h
    simpa using Int32.le_iff_toInt_le.mp this
  have h1 := x.toInt_lt
  have e : (-1 : Int32).toInt = -1 := by decide +kernel
  rw [Int32.toInt_add, e]
  rw [Int.bmod_def]
  omega
theorem shl_k : ∀ k, k ≤ 8 → nI 1 <<< (nI k &&& 31) = nI (2 ^ k) := by decide +kernel
theorem pow_k {k : Nat} (h : k ≤ 8) : 2 ^ k ≤ 256 := by
  have := Nat.pow_le_pow_right (n := 2) (by decide) h
  omega
section RF
variable {X : mSc} {Q : Option Value → mHp → Prop} {M : mM}
theorem t173 {t a : Nat} (hW : Wf M) (ht : t < 8) (ha : a ≤ 1000) : ∃ v M', mT X 173 [.ref 66, .int (nI t), .int (nI a)] (con M) (some (.int v)) (con M') ∧ Sf M M' := by
  refine ti_of (row := _) rfl (Nat.le_of_ble_eq_true rfl) ?_
  have hm : mMet 173 = some _ := rfl
  refine x_aload_n hm rfl rfl ?_
  refine x_getf hm rfl (gR rfl rfl) ?_
  refine x_aload_n hm rfl rfl ?_
  refine x_getf hm rfl (gR rfl rfl) ?_
  refine x_callS hm rfl rfl (t174 rfl rfl (by decide)) ?_
  refine x_aload_n hm rfl rfl ?_
  refine x_iload_n hm rfl rfl ?_
  refine x_cVv hm rfl rfl (t164 hW.aside (by omega)) (fun M1 r1 => ?_)
  refine x_aload_n hm rfl rfl ?_
  refine x_aload_n hm rfl rfl ?_
  refine x_iload_n hm rfl rfl ?_
  refine x_iconst hm rfl (v := nI 2) (by decide) ?_
  refine x_callV hm rfl rfl (t143 (by omega) (by omega)) ?_
  refine x_callV hm rfl rfl (t175) ?_
  refine x_iret hm rfl rfl (by first | rfl | exact bI_nar | decide) ?_
  exact ⟨_, _, rfl, rfl, Sf.trial r1⟩
theorem t180 {a : Nat} (hW : Wf M) (ha : a ≤ 1000) : ∃ v M', mT X 180 [.ref 66, .int (nI a)] (con M) (some (.int v)) (con M') ∧ Sf M M' := by
  refine ti_of (row := _) rfl (Nat.le_of_ble_eq_true rfl) ?_
  have hm : mMet 180 = some _ := rfl
  refine x_aload_n hm rfl rfl ?_
  refine x_cVe hm rfl rfl (t170 hW) (fun v1 r1 => ?_)
  refine x_istore_n hm rfl rfl ?_
  refine x_aload_n hm rfl rfl ?_
  refine x_getf hm rfl (gR rfl rfl) ?_
  refine x_aload_n hm rfl rfl ?_
  refine x_getf hm rfl (gR rfl rfl) ?_
  refine x_callS hm rfl rfl (t174 rfl rfl (by decide)) ?_
  refine x_aload_n hm rfl rfl ?_
  refine x_iload_n hm rfl rfl ?_
  refine x_cVv hm rfl rfl (t164 hW.aside (by omega)) (fun M2 r2 => ?_)
  refine x_aload_n hm rfl rfl ?_
  refine x_iload_n hm rfl rfl ?_
  refine x_aload_n hm rfl rfl ?_
  refine x_cVe hm rfl rfl (t170 (r2.1.1 hW.aside)) (fun v3 r3 => ?_)
  refine x_isub hm rfl ?_
  refine x_callV hm rfl rfl (t175) ?_
  refine x_iret hm rfl rfl (by first | rfl | exact bI_nar | decide) ?_
  exact ⟨_, _, rfl, rfl, Sf.trial r2⟩
theorem t177 {a1 : Int32} : ∃ v M', mT X 177 [.ref 66, .int a1] (con M) (some (.int v)) (con M') ∧ Fnd M M' := by
  refine ti_of (row := _) rfl (Nat.le_of_ble_eq_true rfl) ?_
  have hm : mMet 177 = some _ := rfl
  refine x_iload_n hm rfl rfl ?_
  refine x_if_ge hm rfl (t := 13) rfl (fun h1 => ?_) (fun h1 => ?_)
  · refine x_iload_n hm rfl rfl ?_
    refine x_iret hm rfl rfl (by first | rfl | exact bI_nar | decide) ?_
    exact ⟨_, _, rfl, rfl, by first | exact r2.2 | exact Fnd.rf⟩
  · refine x_aload_n hm rfl rfl ?_
    refine x_ldcI hm rfl (v := (-1000004 : Int32)) (by decide +kernel) ?_
    refine x_cVi hm rfl rfl (t135 (by decide +kernel)) (fun v2 M2 r2 => ?_)
    refine x_goto hm rfl (t := 14) rfl ?_
    refine x_iret hm rfl rfl (by first | rfl | exact bI_nar | decide) ?_
    exact ⟨_, _, rfl, rfl, by first | exact r2.2 | exact Fnd.rf⟩
theorem l183 {pl many a : Nat} (hW : Wf M) (ha : a ≤ 1000) (hmb : many ≤ 1000) (hpl : ∀ (M1 : mM) (v : Int32), (v = M 67 pl ∨ ∃ k, k < many ∧ v = nI k) → Sf M1 (mput M1 67 pl v)) (hpb : pl < 118) : ∀ (n k : Nat) (b l : Int32) (x8 : Option Value) (M1 : mM), many - k < n → k ≤ many → Sf M M1 → mEv X (QI (fun _ M' => Sf M M')) 183 18 [some (.ref 66), some (.int (nI pl)), some (.int (nI many)), some (.int (nI a)), some (.int (M 67 pl)), some (.int b), some (.int l), some (.int (nI k)), x8] [] (con M1) := by
  have hm : mMet 183 = some _ := rfl
  intro n
  induction n with
  | zero =>
    intro k b l x8 M1 hkn hkb hS
    omega
  | succ n ih =>
    intro k b l x8 M1 hkn hkb hS
    refine x_iload hm rfl rfl ?_
    refine x_iload_n hm rfl rfl ?_
    refine x_icmp_ge hm rfl (t := 70) rfl (fun h1 => ?_) (fun h1 => ?_)
    · refine x_aload_n hm rfl rfl ?_
      refine x_getf hm rfl (gR rfl rfl) ?_
      refine x_iload_n hm rfl rfl ?_
      refine x_iload hm rfl rfl ?_
      refine x_iast hm rfl (sI rfl (by omega) (by decide)) ?_
      refine x_iload hm rfl rfl ?_
      refine x_iret hm rfl rfl (by first | rfl | exact bI_nar | decide) ?_
      exact ⟨_, _, rfl, rfl, hS.trans (hpl _ _ (Or.inl rfl))⟩
    · have hk : k < many := Nat.lt_of_not_le fun h => h1 (nI_le h (by omega))
      refine x_aload_n hm rfl rfl ?_
      refine x_getf hm rfl (gR rfl rfl) ?_
      refine x_iload_n hm rfl rfl ?_
      refine x_iload hm rfl rfl ?_
      refine x_iast hm rfl (sI rfl (by omega) (by decide)) ?_
      have hS2 := hS.trans (hpl M1 (nI k) (Or.inr ⟨k, hk, rfl⟩))
      refine x_aload_n hm rfl rfl ?_
      refine x_iload_n hm rfl rfl ?_
      refine x_cVi hm rfl rfl (t180 (hS2.1 hW) ha) (fun v2 M2 r2 => ?_)
      refine x_istore hm rfl rfl ?_
      refine x_iload hm rfl rfl ?_
      refine x_iload hm rfl rfl ?_
      refine x_icmp_ge hm rfl (t := 51) rfl (fun h3 => ?_) (fun h3 => ?_)
      · refine x_iload hm rfl rfl ?_
        refine x_istore hm rfl rfl ?_
        refine x_iload hm rfl rfl ?_
        refine x_iload hm rfl rfl ?_
        refine x_lib hm rfl rfl ?_
        dsimp only
        refine x_istore hm rfl rfl ?_
        refine x_iinc hm rfl rfl (v := nI 1) (by decide) rfl ?_
        rw [jI_add]
        refine x_goto hm rfl (t := 18) rfl ?_
        exact ih _ _ _ _ _ (by omega) (by omega) (hS2.trans r2)
      · refine x_iload hm rfl rfl ?_
        refine x_goto hm rfl (t := 53) rfl ?_
        refine x_istore hm rfl rfl ?_
        refine x_iload hm rfl rfl ?_
        refine x_iload hm rfl rfl ?_
        refine x_lib hm rfl rfl ?_
        dsimp only
        refine x_istore hm rfl rfl ?_
        refine x_iinc hm rfl rfl (v := nI 1) (by decide) rfl ?_
        rw [jI_add]
        refine x_goto hm rfl (t := 18) rfl ?_
        exact ih _ _ _ _ _ (by omega) (by omega) (hS2.trans r2)
theorem t183 {pl many a : Nat} (hW : Wf M) (ha : a ≤ 1000) (hmb : many ≤ 1000) (hpl : ∀ (M1 : mM) (v : Int32), (v = M 67 pl ∨ ∃ k, k < many ∧ v = nI k) → Sf M1 (mput M1 67 pl v)) (hpb : pl < 118) : ∃ v M', mT X 183 [.ref 66, .int (nI pl), .int (nI many), .int (nI a)] (con M) (some (.int v)) (con M') ∧ Sf M M' := by
  refine ti_of (row := _) rfl (Nat.le_of_ble_eq_true rfl) ?_
  have hm : mMet 183 = some _ := rfl
  refine x_aload_n hm rfl rfl ?_
  refine x_getf hm rfl (gR rfl rfl) ?_
  refine x_iload_n hm rfl rfl ?_
  refine x_iald hm rfl (lI rfl (by omega) (by decide)) ?_
  refine x_istore hm rfl rfl ?_
  refine x_iconst hm rfl (v := nI 0) (by decide) ?_
  refine x_istore hm rfl rfl ?_
  refine x_ldcI hm rfl (v := nI 2147483647) (by decide +kernel) ?_
  refine x_istore hm rfl rfl ?_
  refine x_iconst hm rfl (v := nI 0) (by decide) ?_
  refine x_istore hm rfl rfl ?_
  exact l183 hW ha hmb hpl hpb _ 0 _ _ _ _ (Nat.lt_succ_self _) (Nat.zero_le _) Sf.rf
theorem l186 {t pl many a : Nat} (hW : Wf M) (ht : t < 8) (ha : a ≤ 1000) (hmb : many ≤ 1000) (hpl : ∀ (M1 : mM) (v : Int32), (v = M 67 pl ∨ ∃ k, k < many ∧ v = nI k) → Sf M1 (mput M1 67 pl v)) (hpb : pl < 118) : ∀ (n k : Nat) (b l : Int32) (x8 : Option Value) (M1 : mM), many - k < n → k ≤ many → Sf M M1 → mEv X (QI (fun _ M' => Sf M M')) 186 17 [some (.ref 66), some (.int (nI t)), some (.int (nI pl)), some (.int (nI many)), some (.int (nI a)), some (.int (M 67 pl)), some (.int b), some (.int l), some (.int (nI k)), x8] [] (con M1) := by
  have hm : mMet 186 = some _ := rfl
  intro n
  induction n with
  | zero =>
    intro k b l x8 M1 hkn hkb hS
    omega
  | succ n ih =>
    intro k b l x8 M1 hkn hkb hS
    refine x_iload hm rfl rfl ?_
    refine x_iload_n hm rfl rfl ?_
    refine x_icmp_ge hm rfl (t := 71) rfl (fun h1 => ?_) (fun h1 => ?_)
    · refine x_aload_n hm rfl rfl ?_
      refine x_getf hm rfl (gR rfl rfl) ?_
      refine x_iload_n hm rfl rfl ?_
      refine x_iload hm rfl rfl ?_
      refine x_iast hm rfl (sI rfl (by omega) (by decide)) ?_
      refine x_iload hm rfl rfl ?_
      refine x_iret hm rfl rfl (by first | rfl | exact bI_nar | decide) ?_
      exact ⟨_, _, rfl, rfl, hS.trans (hpl _ _ (Or.inl rfl))⟩
    · have hk : k < many := Nat.lt_of_not_le fun h => h1 (nI_le h (by omega))
      refine x_aload_n hm rfl rfl ?_
      refine x_getf hm rfl (gR rfl rfl) ?_
      refine x_iload_n hm rfl rfl ?_
      refine x_iload hm rfl rfl ?_
      refine x_iast hm rfl (sI rfl (by omega) (by decide)) ?_
      have hS2 := hS.trans (hpl M1 (nI k) (Or.inr ⟨k, hk, rfl⟩))
      refine x_aload_n hm rfl rfl ?_
      refine x_iload_n hm rfl rfl ?_
      refine x_iload hm rfl rfl ?_
      refine x_cVi hm rfl rfl (t173 (hS2.1 hW) ht ha) (fun v2 M2 r2 => ?_)
      refine x_istore hm rfl rfl ?_
      refine x_iload hm rfl rfl ?_
      refine x_iload hm rfl rfl ?_
      refine x_icmp_le hm rfl (t := 52) rfl (fun h3 => ?_) (fun h3 => ?_)
      · refine x_iload hm rfl rfl ?_
        refine x_istore hm rfl rfl ?_
        refine x_iload hm rfl rfl ?_
        refine x_iload hm rfl rfl ?_
        refine x_lib hm rfl rfl ?_
        dsimp only
        refine x_istore hm rfl rfl ?_
        refine x_iinc hm rfl rfl (v := nI 1) (by decide) rfl ?_
        rw [jI_add]
        refine x_goto hm rfl (t := 17) rfl ?_
        exact ih _ _ _ _ _ (by omega) (by omega) (hS2.trans r2)
      · refine x_iload hm rfl rfl ?_
        refine x_goto hm rfl (t := 54) rfl ?_
        refine x_istore hm rfl rfl ?_
        refine x_iload hm rfl rfl ?_
        refine x_iload hm rfl rfl ?_
        refine x_lib hm rfl rfl ?_
        dsimp only
        refine x_istore hm rfl rfl ?_
        refine x_iinc hm rfl rfl (v := nI 1) (by decide) rfl ?_
        rw [jI_add]
        refine x_goto hm rfl (t := 17) rfl ?_
        exact ih _ _ _ _ _ (by omega) (by omega) (hS2.trans r2)
theorem t186 {t pl many a : Nat} (hW : Wf M) (ht : t < 8) (ha : a ≤ 1000) (hmb : many ≤ 1000) (hpl : ∀ (M1 : mM) (v : Int32), (v = M 67 pl ∨ ∃ k, k < many ∧ v = nI k) → Sf M1 (mput M1 67 pl v)) (hpb : pl < 118) : ∃ v M', mT X 186 [.ref 66, .int (nI t), .int (nI pl), .int (nI many), .int (nI a)] (con M) (some (.int v)) (con M') ∧ Sf M M' := by
  refine ti_of (row := _) rfl (Nat.le_of_ble_eq_true rfl) ?_
  have hm : mMet 186 = some _ := rfl
  refine x_aload_n hm rfl rfl ?_
  refine x_getf hm rfl (gR rfl rfl) ?_
  refine x_iload_n hm rfl rfl ?_
  refine x_iald hm rfl (lI rfl (by omega) (by decide)) ?_
  refine x_istore hm rfl rfl ?_
  refine x_iconst hm rfl (v := (-1 : Int32)) (by decide) ?_
  refine x_istore hm rfl rfl ?_
  refine x_iconst hm rfl (v := (-1 : Int32)) (by decide) ?_
  refine x_istore hm rfl rfl ?_
  refine x_iconst hm rfl (v := nI 0) (by decide) ?_
  refine x_istore hm rfl rfl ?_
  exact l186 hW ht ha hmb hpl hpb _ 0 _ _ _ _ (Nat.lt_succ_self _) (Nat.zero_le _) Sf.rf
theorem t172 {a1 a2 : Int32} (hI : Inv M) : ∃ v M', mT X 172 [.ref 66, .int a1, .int a2] (con M) (some (.int v)) (con M') ∧ Inv M' := by
  refine ti_of (row := _) rfl (Nat.le_of_ble_eq_true rfl) ?_
  have hm : mMet 172 = some _ := rfl
  obtain ⟨nt, hn8, hnt⟩ := hI.1.nt
  refine x_aload_n hm rfl rfl ?_
  refine x_iload_n hm rfl rfl ?_
  refine x_callV hm rfl rfl (t139) ?_
  refine x_if_eq hm rfl (t := 27) rfl (fun h1 => ?_) (fun h1 => ?_)
  · refine x_aload_n hm rfl rfl ?_
    refine x_ldcI hm rfl (v := (-1000001 : Int32)) (by decide +kernel) ?_
    refine x_cVi hm rfl rfl (t135 (by decide +kernel)) (fun v2 M2 r2 => ?_)
    refine x_iret hm rfl rfl (by first | rfl | exact bI_nar | decide) ?_
    exact ⟨_, _, rfl, rfl, by first | exact hI | exact (r1.2.inv hI) | exact (r2.2.inv hI) | exact (r3.2.inv hI) | exact (r4.2.inv hI) | exact (r5.2.inv hI) | exact (r6.2.inv hI) | exact (r7.2.inv hI) | exact (r8.2.inv hI) | exact (r1.inv hI) | exact (r2.inv hI) | exact (r3.inv hI) | exact (r4.inv hI) | exact (r5.inv hI) | exact (r6.inv hI) | exact (r7.inv hI) | exact (r8.inv hI)⟩
  · obtain ⟨t, ht, rfl⟩ := in_k hnt (by omega) (bI_ne0 h1)
    refine x_iload_n hm rfl rfl ?_
    refine x_iconst hm rfl (v := nI 0) (by decide) ?_
    refine x_bipush hm rfl (v := nI 100) (by decide) ?_
    refine x_callS hm rfl rfl (t133) ?_
    refine x_if_eq hm rfl (t := 27) rfl (fun h3 => ?_) (fun h3 => ?_)
    · refine x_aload_n hm rfl rfl ?_
      refine x_ldcI hm rfl (v := (-1000001 : Int32)) (by decide +kernel) ?_
      refine x_cVi hm rfl rfl (t135 (by decide +kernel)) (fun v4 M4 r4 => ?_)
      refine x_iret hm rfl rfl (by first | rfl | exact bI_nar | decide) ?_
      exact ⟨_, _, rfl, rfl, by first | exact hI | exact (r1.2.inv hI) | exact (r2.2.inv hI) | exact (r3.2.inv hI) | exact (r4.2.inv hI) | exact (r5.2.inv hI) | exact (r6.2.inv hI) | exact (r7.2.inv hI) | exact (r8.2.inv hI) | exact (r1.inv hI) | exact (r2.inv hI) | exact (r3.inv hI) | exact (r4.inv hI) | exact (r5.inv hI) | exact (r6.inv hI) | exact (r7.inv hI) | exact (r8.inv hI)⟩
    · obtain ⟨a, ha, rfl⟩ := le_k (by omega) (bI_ne0 h3)
      refine x_aload_n hm rfl rfl ?_
      refine x_iload_n hm rfl rfl ?_
      refine x_iload_n hm rfl rfl ?_
      refine x_cVi hm rfl rfl (t173 hI.1 (by omega) (by omega)) (fun v5 M5 r5 => ?_)
      refine x_goto hm rfl (t := 33) rfl ?_
      refine x_iret hm rfl rfl (by first | rfl | exact bI_nar | decide) ?_
      exact ⟨_, _, rfl, rfl, by first | exact hI | exact (r1.2.inv hI) | exact (r2.2.inv hI) | exact (r3.2.inv hI) | exact (r4.2.inv hI) | exact (r5.2.inv hI) | exact (r6.2.inv hI) | exact (r7.2.inv hI) | exact (r8.2.inv hI) | exact (r1.inv hI) | exact (r2.inv hI) | exact (r3.inv hI) | exact (r4.inv hI) | exact (r5.inv hI) | exact (r6.inv hI) | exact (r7.inv hI) | exact (r8.inv hI)⟩
theorem t178 {a1 : Int32} (hI : Inv M) : ∃ v M', mT X 178 [.ref 66, .int a1] (con M) (some (.int v)) (con M') ∧ Inv M' := by
  refine ti_of (row := _) rfl (Nat.le_of_ble_eq_true rfl) ?_
  have hm : mMet 178 = some _ := rfl
  refine x_iload_n hm rfl rfl ?_
  refine x_iconst hm rfl (v := nI 0) (by decide) ?_
  refine x_bipush hm rfl (v := nI 100) (by decide) ?_
  refine x_callS hm rfl rfl (t133) ?_
  refine x_if_ne hm rfl (t := 17) rfl (fun h1 => ?_) (fun h1 => ?_)
  · obtain ⟨a, ha, rfl⟩ := le_k (by omega) (bI_ne0 h1)
    refine x_aload_n hm rfl rfl ?_
    refine x_getf hm rfl (gR rfl rfl) ?_
    refine x_aload_n hm rfl rfl ?_
    refine x_getf hm rfl (gR rfl rfl) ?_
    refine x_callS hm rfl rfl (t174 rfl rfl (by decide)) ?_
    refine x_aload_n hm rfl rfl ?_
    refine x_iload_n hm rfl rfl ?_
    refine x_cVv hm rfl rfl (t164 hI.1.aside (by omega)) (fun M2 r2 => ?_)
    refine x_aload_n hm rfl rfl ?_
    refine x_aload_n hm rfl rfl ?_
    refine x_cVe hm rfl rfl (t167 (r2.1.1 hI.1.aside)) (fun v3 r3 => ?_)
    refine x_callV hm rfl rfl (t175) ?_
    refine x_iret hm rfl rfl (by first | rfl | exact bI_nar | decide) ?_
    exact ⟨_, _, rfl, rfl, by first | exact hI | exact (r4.2.inv hI) | exact (r3.2.inv hI) | exact (r5.2.inv hI) | exact ((Sf.trial r2).inv hI)⟩
  · refine x_aload_n hm rfl rfl ?_
    refine x_ldcI hm rfl (v := (-1000001 : Int32)) (by decide +kernel) ?_
    refine x_cVi hm rfl rfl (t135 (by decide +kernel)) (fun v4 M4 r4 => ?_)
    refine x_iret hm rfl rfl (by first | rfl | exact bI_nar | decide) ?_
    exact ⟨_, _, rfl, rfl, by first | exact hI | exact (r4.2.inv hI) | exact (r3.2.inv hI) | exact (r5.2.inv hI) | exact ((Sf.trial r2).inv hI)⟩
theorem t179 {a1 : Int32} (hI : Inv M) : ∃ v M', mT X 179 [.ref 66, .int a1] (con M) (some (.int v)) (con M') ∧ Inv M' := by
  refine ti_of (row := _) rfl (Nat.le_of_ble_eq_true rfl) ?_
  have hm : mMet 179 = some _ := rfl
  refine x_iload_n hm rfl rfl ?_
  refine x_iconst hm rfl (v := nI 0) (by decide) ?_
  refine x_bipush hm rfl (v := nI 100) (by decide) ?_
  refine x_callS hm rfl rfl (t133) ?_
  refine x_if_eq hm rfl (t := 18) rfl (fun h1 => ?_) (fun h1 => ?_)
  · refine x_aload_n hm rfl rfl ?_
    refine x_ldcI hm rfl (v := (-1000001 : Int32)) (by decide +kernel) ?_
    refine x_cVi hm rfl rfl (t135 (by decide +kernel)) (fun v2 M2 r2 => ?_)
    refine x_iret hm rfl rfl (by first | rfl | exact bI_nar | decide) ?_
    exact ⟨_, _, rfl, rfl, by first | exact hI | exact (r1.2.inv hI) | exact (r2.2.inv hI) | exact (r3.2.inv hI) | exact (r4.2.inv hI) | exact (r5.2.inv hI) | exact (r6.2.inv hI) | exact (r7.2.inv hI) | exact (r8.2.inv hI) | exact (r1.inv hI) | exact (r2.inv hI) | exact (r3.inv hI) | exact (r4.inv hI) | exact (r5.inv hI) | exact (r6.inv hI) | exact (r7.inv hI) | exact (r8.inv hI)⟩
  · obtain ⟨a, ha, rfl⟩ := le_k (by omega) (bI_ne0 h1)
    refine x_aload_n hm rfl rfl ?_
    refine x_iload_n hm rfl rfl ?_
    refine x_cVi hm rfl rfl (t180 hI.1 (by omega)) (fun v3 M3 r3 => ?_)
    refine x_goto hm rfl (t := 24) rfl ?_
    refine x_iret hm rfl rfl (by first | rfl | exact bI_nar | decide) ?_
    exact ⟨_, _, rfl, rfl, by first | exact hI | exact (r1.2.inv hI) | exact (r2.2.inv hI) | exact (r3.2.inv hI) | exact (r4.2.inv hI) | exact (r5.2.inv hI) | exact (r6.2.inv hI) | exact (r7.2.inv hI) | exact (r8.2.inv hI) | exact (r1.inv hI) | exact (r2.inv hI) | exact (r3.inv hI) | exact (r4.inv hI) | exact (r5.inv hI) | exact (r6.inv hI) | exact (r7.inv hI) | exact (r8.inv hI)⟩
theorem t182 {a1 a2 : Int32} (hI : Inv M) : ∃ v M', mT X 182 [.ref 66, .int a1, .int a2] (con M) (some (.int v)) (con M') ∧ Inv M' := by
  refine ti_of (row := _) rfl (Nat.le_of_ble_eq_true rfl) ?_
  have hm : mMet 182 = some _ := rfl
  obtain ⟨np, hp8, hnp⟩ := hI.1.np
  refine x_aload_n hm rfl rfl ?_
  refine x_iload_n hm rfl rfl ?_
  refine x_callV hm rfl rfl (t153) ?_
  refine x_if_eq hm rfl (t := 33) rfl (fun h1 => ?_) (fun h1 => ?_)
  · refine x_aload_n hm rfl rfl ?_
    refine x_ldcI hm rfl (v := (-1000001 : Int32)) (by decide +kernel) ?_
    refine x_cVi hm rfl rfl (t135 (by decide +kernel)) (fun v2 M2 r2 => ?_)
    refine x_iret hm rfl rfl (by first | rfl | exact bI_nar | decide) ?_
    exact ⟨_, _, rfl, rfl, by first | exact hI | exact (r1.2.inv hI) | exact (r2.2.inv hI) | exact (r3.2.inv hI) | exact (r4.2.inv hI) | exact (r5.2.inv hI) | exact (r6.2.inv hI) | exact (r7.2.inv hI) | exact (r8.2.inv hI) | exact (r1.inv hI) | exact (r2.inv hI) | exact (r3.inv hI) | exact (r4.inv hI) | exact (r5.inv hI) | exact (r6.inv hI) | exact (r7.inv hI) | exact (r8.inv hI)⟩
  · obtain ⟨p, hp, rfl⟩ := in_k hnp (by omega) (bI_ne0 h1)
    refine x_iload_n hm rfl rfl ?_
    refine x_iconst hm rfl (v := nI 0) (by decide) ?_
    refine x_bipush hm rfl (v := nI 60) (by decide) ?_
    refine x_callS hm rfl rfl (t133) ?_
    refine x_if_eq hm rfl (t := 33) rfl (fun h3 => ?_) (fun h3 => ?_)
    · refine x_aload_n hm rfl rfl ?_
      refine x_ldcI hm rfl (v := (-1000001 : Int32)) (by decide +kernel) ?_
      refine x_cVi hm rfl rfl (t135 (by decide +kernel)) (fun v4 M4 r4 => ?_)
      refine x_iret hm rfl rfl (by first | rfl | exact bI_nar | decide) ?_
      exact ⟨_, _, rfl, rfl, by first | exact hI | exact (r1.2.inv hI) | exact (r2.2.inv hI) | exact (r3.2.inv hI) | exact (r4.2.inv hI) | exact (r5.2.inv hI) | exact (r6.2.inv hI) | exact (r7.2.inv hI) | exact (r8.2.inv hI) | exact (r1.inv hI) | exact (r2.inv hI) | exact (r3.inv hI) | exact (r4.inv hI) | exact (r5.inv hI) | exact (r6.inv hI) | exact (r7.inv hI) | exact (r8.inv hI)⟩
    · obtain ⟨a, ha, rfl⟩ := le_k (by omega) (bI_ne0 h3)
      refine x_aload_n hm rfl rfl ?_
      refine x_iload_n hm rfl rfl ?_
      refine x_iconst hm rfl (v := nI 0) (by decide) ?_
      refine x_callS hm rfl rfl (t142) ?_
      refine x_bipush hm rfl (v := nI 7) (by decide) ?_
      refine x_iload_n hm rfl rfl ?_
      refine x_cVi hm rfl rfl (t183 hI.1 (by omega) (by omega) (fun _ _ _ => Sf.person (by omega) (by decide)) (by omega)) (fun v5 M5 r5 => ?_)
      refine x_goto hm rfl (t := 39) rfl ?_
      refine x_iret hm rfl rfl (by first | rfl | exact bI_nar | decide) ?_
      exact ⟨_, _, rfl, rfl, by first | exact hI | exact (r1.2.inv hI) | exact (r2.2.inv hI) | exact (r3.2.inv hI) | exact (r4.2.inv hI) | exact (r5.2.inv hI) | exact (r6.2.inv hI) | exact (r7.2.inv hI) | exact (r8.2.inv hI) | exact (r1.inv hI) | exact (r2.inv hI) | exact (r3.inv hI) | exact (r4.inv hI) | exact (r5.inv hI) | exact (r6.inv hI) | exact (r7.inv hI) | exact (r8.inv hI)⟩
theorem t184 {a1 a2 : Int32} (hI : Inv M) : ∃ v M', mT X 184 [.ref 66, .int a1, .int a2] (con M) (some (.int v)) (con M') ∧ Inv M' := by
  refine ti_of (row := _) rfl (Nat.le_of_ble_eq_true rfl) ?_
  have hm : mMet 184 = some _ := rfl
  obtain ⟨np, hp8, hnp⟩ := hI.1.np
  refine x_aload_n hm rfl rfl ?_
  refine x_iload_n hm rfl rfl ?_
  refine x_callV hm rfl rfl (t153) ?_
  refine x_if_eq hm rfl (t := 33) rfl (fun h1 => ?_) (fun h1 => ?_)
  · refine x_aload_n hm rfl rfl ?_
    refine x_ldcI hm rfl (v := (-1000001 : Int32)) (by decide +kernel) ?_
    refine x_cVi hm rfl rfl (t135 (by decide +kernel)) (fun v2 M2 r2 => ?_)
    refine x_iret hm rfl rfl (by first | rfl | exact bI_nar | decide) ?_
    exact ⟨_, _, rfl, rfl, by first | exact hI | exact (r1.2.inv hI) | exact (r2.2.inv hI) | exact (r3.2.inv hI) | exact (r4.2.inv hI) | exact (r5.2.inv hI) | exact (r6.2.inv hI) | exact (r7.2.inv hI) | exact (r8.2.inv hI) | exact (r1.inv hI) | exact (r2.inv hI) | exact (r3.inv hI) | exact (r4.inv hI) | exact (r5.inv hI) | exact (r6.inv hI) | exact (r7.inv hI) | exact (r8.inv hI)⟩
  · obtain ⟨p, hp, rfl⟩ := in_k hnp (by omega) (bI_ne0 h1)
    refine x_iload_n hm rfl rfl ?_
    refine x_iconst hm rfl (v := nI 0) (by decide) ?_
    refine x_bipush hm rfl (v := nI 60) (by decide) ?_
    refine x_callS hm rfl rfl (t133) ?_
    refine x_if_eq hm rfl (t := 33) rfl (fun h3 => ?_) (fun h3 => ?_)
    · refine x_aload_n hm rfl rfl ?_
      refine x_ldcI hm rfl (v := (-1000001 : Int32)) (by decide +kernel) ?_
      refine x_cVi hm rfl rfl (t135 (by decide +kernel)) (fun v4 M4 r4 => ?_)
      refine x_iret hm rfl rfl (by first | rfl | exact bI_nar | decide) ?_
      exact ⟨_, _, rfl, rfl, by first | exact hI | exact (r1.2.inv hI) | exact (r2.2.inv hI) | exact (r3.2.inv hI) | exact (r4.2.inv hI) | exact (r5.2.inv hI) | exact (r6.2.inv hI) | exact (r7.2.inv hI) | exact (r8.2.inv hI) | exact (r1.inv hI) | exact (r2.inv hI) | exact (r3.inv hI) | exact (r4.inv hI) | exact (r5.inv hI) | exact (r6.inv hI) | exact (r7.inv hI) | exact (r8.inv hI)⟩
    · obtain ⟨a, ha, rfl⟩ := le_k (by omega) (bI_ne0 h3)
      refine x_aload_n hm rfl rfl ?_
      refine x_iload_n hm rfl rfl ?_
      refine x_iconst hm rfl (v := nI 2) (by decide) ?_
      refine x_callS hm rfl rfl (t142) ?_
      refine x_bipush hm rfl (v := nI 16) (by decide) ?_
      refine x_iload_n hm rfl rfl ?_
      refine x_cVi hm rfl rfl (t183 hI.1 (by omega) (by omega) (fun _ _ _ => Sf.person (by omega) (by decide)) (by omega)) (fun v5 M5 r5 => ?_)
      refine x_goto hm rfl (t := 39) rfl ?_
      refine x_iret hm rfl rfl (by first | rfl | exact bI_nar | decide) ?_
      exact ⟨_, _, rfl, rfl, by first | exact hI | exact (r1.2.inv hI) | exact (r2.2.inv hI) | exact (r3.2.inv hI) | exact (r4.2.inv hI) | exact (r5.2.inv hI) | exact (r6.2.inv hI) | exact (r7.2.inv hI) | exact (r8.2.inv hI) | exact (r1.inv hI) | exact (r2.inv hI) | exact (r3.inv hI) | exact (r4.inv hI) | exact (r5.inv hI) | exact (r6.inv hI) | exact (r7.inv hI) | exact (r8.inv hI)⟩
end RF
end
section
/-! ===== the reference: more trials ===== -/
section RG
variable {X : mSc} {Q : Option Value → mHp → Prop} {M : mM}
theorem ev_inv {m pc : Nat} {L : mLoc} {st : List Value} {D : mHp} (hI : Inv M) (h : mEv X (QI (fun _ M' => Sf M M')) m pc L st D) : mEv X (QI (fun _ M' => Inv M')) m pc L st D := by
  obtain ⟨n, r, D, g1, v, M2, g2, g3, g4⟩ := h
  exact ⟨n, r, D, g1, v, M2, g2, g3, g4.inv hI⟩
theorem t185 {a1 a2 : Int32} (hI : Inv M) : ∃ v M', mT X 185 [.ref 66, .int a1, .int a2] (con M) (some (.int v)) (con M') ∧ Inv M' := by
  refine ti_of (row := _) rfl (Nat.le_of_ble_eq_true rfl) ?_
  have hm : mMet 185 = some _ := rfl
  obtain ⟨nt, hn8, hnt⟩ := hI.1.nt
  refine x_aload_n hm rfl rfl ?_
  refine x_iload_n hm rfl rfl ?_
  refine x_callV hm rfl rfl (t139) ?_
  refine x_if_eq hm rfl (t := 34) rfl (fun h1 => ?_) (fun h1 => ?_)
  · refine x_aload_n hm rfl rfl ?_
    refine x_ldcI hm rfl (v := (-1000001 : Int32)) (by decide +kernel) ?_
    refine x_cVi hm rfl rfl (t135 (by decide +kernel)) (fun v2 M2 r2 => ?_)
    refine x_iret hm rfl rfl (by first | rfl | exact bI_nar | decide) ?_
    exact ⟨_, _, rfl, rfl, by first | exact hI | exact (r1.2.inv hI) | exact (r2.2.inv hI) | exact (r3.2.inv hI) | exact (r4.2.inv hI) | exact (r5.2.inv hI) | exact (r6.2.inv hI) | exact (r7.2.inv hI) | exact (r8.2.inv hI) | exact (r1.inv hI) | exact (r2.inv hI) | exact (r3.inv hI) | exact (r4.inv hI) | exact (r5.inv hI) | exact (r6.inv hI) | exact (r7.inv hI) | exact (r8.inv hI)⟩
  · obtain ⟨t, ht, rfl⟩ := in_k hnt (by omega) (bI_ne0 h1)
    refine x_iload_n hm rfl rfl ?_
    refine x_iconst hm rfl (v := nI 0) (by decide) ?_
    refine x_bipush hm rfl (v := nI 60) (by decide) ?_
    refine x_callS hm rfl rfl (t133) ?_
    refine x_if_eq hm rfl (t := 34) rfl (fun h3 => ?_) (fun h3 => ?_)
    · refine x_aload_n hm rfl rfl ?_
      refine x_ldcI hm rfl (v := (-1000001 : Int32)) (by decide +kernel) ?_
      refine x_cVi hm rfl rfl (t135 (by decide +kernel)) (fun v4 M4 r4 => ?_)
      refine x_iret hm rfl rfl (by first | rfl | exact bI_nar | decide) ?_
      exact ⟨_, _, rfl, rfl, by first | exact hI | exact (r1.2.inv hI) | exact (r2.2.inv hI) | exact (r3.2.inv hI) | exact (r4.2.inv hI) | exact (r5.2.inv hI) | exact (r6.2.inv hI) | exact (r7.2.inv hI) | exact (r8.2.inv hI) | exact (r1.inv hI) | exact (r2.inv hI) | exact (r3.inv hI) | exact (r4.inv hI) | exact (r5.inv hI) | exact (r6.inv hI) | exact (r7.inv hI) | exact (r8.inv hI)⟩
    · obtain ⟨a, ha, rfl⟩ := le_k (by omega) (bI_ne0 h3)
      refine x_aload_n hm rfl rfl ?_
      refine x_iload_n hm rfl rfl ?_
      refine x_iload_n hm rfl rfl ?_
      refine x_iconst hm rfl (v := nI 1) (by decide) ?_
      refine x_callS hm rfl rfl (t137) ?_
      refine x_bipush hm rfl (v := nI 16) (by decide) ?_
      refine x_iload_n hm rfl rfl ?_
      refine x_cVi hm rfl rfl (t186 hI.1 (by omega) (by omega) (by omega) (fun _ _ _ => Sf.thing (by omega) (by decide) (by decide) (by decide)) (by omega)) (fun v5 M5 r5 => ?_)
      refine x_goto hm rfl (t := 40) rfl ?_
      refine x_iret hm rfl rfl (by first | rfl | exact bI_nar | decide) ?_
      exact ⟨_, _, rfl, rfl, by first | exact hI | exact (r1.2.inv hI) | exact (r2.2.inv hI) | exact (r3.2.inv hI) | exact (r4.2.inv hI) | exact (r5.2.inv hI) | exact (r6.2.inv hI) | exact (r7.2.inv hI) | exact (r8.2.inv hI) | exact (r1.inv hI) | exact (r2.inv hI) | exact (r3.inv hI) | exact (r4.inv hI) | exact (r5.inv hI) | exact (r6.inv hI) | exact (r7.inv hI) | exact (r8.inv hI)⟩
theorem t187 {a1 a2 : Int32} (hI : Inv M) : ∃ v M', mT X 187 [.ref 66, .int a1, .int a2] (con M) (some (.int v)) (con M') ∧ Inv M' := by
  refine ti_of (row := _) rfl (Nat.le_of_ble_eq_true rfl) ?_
  have hm : mMet 187 = some _ := rfl
  obtain ⟨nt, hn8, hnt⟩ := hI.1.nt
  obtain ⟨np, hp8, hnp⟩ := hI.1.np
  refine x_aload_n hm rfl rfl ?_
  refine x_iload_n hm rfl rfl ?_
  refine x_callV hm rfl rfl (t139) ?_
  refine x_if_eq hm rfl (t := 42) rfl (fun h1 => ?_) (fun h1 => ?_)
  · refine x_aload_n hm rfl rfl ?_
    refine x_ldcI hm rfl (v := (-1000001 : Int32)) (by decide +kernel) ?_
    refine x_cVi hm rfl rfl (t135 (by decide +kernel)) (fun v2 M2 r2 => ?_)
    refine x_iret hm rfl rfl (by first | rfl | exact bI_nar | decide) ?_
    exact ⟨_, _, rfl, rfl, by first | exact hI | exact (r1.2.inv hI) | exact (r2.2.inv hI) | exact (r3.2.inv hI) | exact (r4.2.inv hI) | exact (r5.2.inv hI) | exact (r6.2.inv hI) | exact (r7.2.inv hI) | exact (r8.2.inv hI) | exact (r1.inv hI) | exact (r2.inv hI) | exact (r3.inv hI) | exact (r4.inv hI) | exact (r5.inv hI) | exact (r6.inv hI) | exact (r7.inv hI) | exact (r8.inv hI) | exact ((r3.trans r4.sf).inv hI) | exact ((r4.trans r5.sf).inv hI) | exact ((r2.trans r3.sf).inv hI) | exact ((r5.trans r6.sf).inv hI)⟩
  · obtain ⟨t, ht, rfl⟩ := in_k hnt (by omega) (bI_ne0 h1)
    refine x_iload_n hm rfl rfl ?_
    refine x_iconst hm rfl (v := nI 0) (by decide) ?_
    refine x_bipush hm rfl (v := nI 60) (by decide) ?_
    refine x_callS hm rfl rfl (t133) ?_
    refine x_if_eq hm rfl (t := 42) rfl (fun h3 => ?_) (fun h3 => ?_)
    · refine x_aload_n hm rfl rfl ?_
      refine x_ldcI hm rfl (v := (-1000001 : Int32)) (by decide +kernel) ?_
      refine x_cVi hm rfl rfl (t135 (by decide +kernel)) (fun v4 M4 r4 => ?_)
      refine x_iret hm rfl rfl (by first | rfl | exact bI_nar | decide) ?_
      exact ⟨_, _, rfl, rfl, by first | exact hI | exact (r1.2.inv hI) | exact (r2.2.inv hI) | exact (r3.2.inv hI) | exact (r4.2.inv hI) | exact (r5.2.inv hI) | exact (r6.2.inv hI) | exact (r7.2.inv hI) | exact (r8.2.inv hI) | exact (r1.inv hI) | exact (r2.inv hI) | exact (r3.inv hI) | exact (r4.inv hI) | exact (r5.inv hI) | exact (r6.inv hI) | exact (r7.inv hI) | exact (r8.inv hI) | exact ((r3.trans r4.sf).inv hI) | exact ((r4.trans r5.sf).inv hI) | exact ((r2.trans r3.sf).inv hI) | exact ((r5.trans r6.sf).inv hI)⟩
    · obtain ⟨a, ha, rfl⟩ := le_k (by omega) (bI_ne0 h3)
      refine x_aload_n hm rfl rfl ?_
      refine x_aload_n hm rfl rfl ?_
      refine x_iload_n hm rfl rfl ?_
      refine x_iload_n hm rfl rfl ?_
      refine x_iconst hm rfl (v := nI 4) (by decide) ?_
      refine x_callS hm rfl rfl (t137) ?_
      refine x_aload_n hm rfl rfl ?_
      refine x_getf hm rfl (gR rfl rfl) ?_
      refine x_iconst hm rfl (v := nI 2) (by decide) ?_
      refine x_iald hm rfl (lI rfl (by omega) (by decide)) ?_
      rw [hnp]
      refine x_iload_n hm rfl rfl ?_
      refine x_cVi hm rfl rfl (t186 hI.1 (by omega) (by omega) (by omega) (fun M1 v hv => Sf.owner (by omega) (by
      rcases hv with rfl | ⟨k, hk, rfl⟩
      · exact hI.1.owner (by omega)
      · exact okI2 (by omega))) (by omega)) (fun v5 M5 r5 => ?_)
      refine x_cVi hm rfl rfl (t177) (fun v6 M6 r6 => ?_)
      refine x_goto hm rfl (t := 48) rfl ?_
      refine x_iret hm rfl rfl (by first | rfl | exact bI_nar | decide) ?_
      exact ⟨_, _, rfl, rfl, by first | exact hI | exact (r1.2.inv hI) | exact (r2.2.inv hI) | exact (r3.2.inv hI) | exact (r4.2.inv hI) | exact (r5.2.inv hI) | exact (r6.2.inv hI) | exact (r7.2.inv hI) | exact (r8.2.inv hI) | exact (r1.inv hI) | exact (r2.inv hI) | exact (r3.inv hI) | exact (r4.inv hI) | exact (r5.inv hI) | exact (r6.inv hI) | exact (r7.inv hI) | exact (r8.inv hI) | exact ((r3.trans r4.sf).inv hI) | exact ((r4.trans r5.sf).inv hI) | exact ((r2.trans r3.sf).inv hI) | exact ((r5.trans r6.sf).inv hI)⟩
theorem l188 {a nb : Nat} (hW : Wf M) (ha : a ≤ 1000) (hnb : M 67 2 = nI nb) (h8 : nb ≤ 8) : ∀ (n k : Nat) (b l : Int32) (x5 : Option Value) (M1 : mM), nb - k < n → k ≤ nb → Sf M M1 → mEv X (QI (fun _ M' => Sf M M')) 188 25 [some (.ref 66), some (.int (nI a)), some (.int b), some (.int l), some (.int (nI k)), x5] [] (con M1) := by
  have hm : mMet 188 = some _ := rfl
  intro n
  induction n with
  | zero =>
    intro k b l x5 M1 hkn hkb hS
    omega
  | succ n ih =>
    intro k b l x5 M1 hkn hkb hS
    have hn1 : M1 67 2 = nI nb := hS.2.2.1.trans hnb
    refine x_iload hm rfl rfl ?_
    refine x_aload_n hm rfl rfl ?_
    refine x_getf hm rfl (gR rfl rfl) ?_
    refine x_iconst hm rfl (v := nI 2) (by decide) ?_
    refine x_iald hm rfl (lI rfl (by omega) (by decide)) ?_
    rw [hn1]
    refine x_icmp_ge hm rfl (t := 75) rfl (fun h1 => ?_) (fun h1 => ?_)
    · refine x_aload_n hm rfl rfl ?_
      refine x_iconst hm rfl (v := (-1 : Int32)) (by decide) ?_
      refine x_putf hm rfl (pI rfl rfl (by decide) (by first | exact mFit_int | rfl | decide) rfl) ?_
      have hS3 := hS.trans (Sf.put0 (M := M1) (v := -1) (kd66 (by decide : (6 : Nat) ≠ 9)) (by decide) (by decide))
      refine x_aload_n hm rfl rfl ?_
      refine x_iload_n hm rfl rfl ?_
      refine x_cVi hm rfl rfl (t177) (fun v2 M2 r2 => ?_)
      refine x_iret hm rfl rfl (by first | rfl | exact bI_nar | decide) ?_
      exact ⟨_, _, rfl, rfl, hS3.trans r2.sf⟩
    · have hk : k < nb := Nat.lt_of_not_le fun h => h1 (nI_le h (by omega))
      refine x_aload_n hm rfl rfl ?_
      refine x_iload hm rfl rfl ?_
      refine x_putf hm rfl (pI rfl rfl (by decide) (by first | exact mFit_int | rfl | decide) rfl) ?_
      have hS2 := hS.trans (Sf.put0 (M := M1) (v := nI k) (kd66 (by decide : (6 : Nat) ≠ 9)) (by decide) (by decide))
      refine x_aload_n hm rfl rfl ?_
      refine x_iload_n hm rfl rfl ?_
      refine x_cVi hm rfl rfl (t180 (hS2.1 hW) ha) (fun v3 M3 r3 => ?_)
      refine x_istore hm rfl rfl ?_
      refine x_iload hm rfl rfl ?_
      refine x_iload_n hm rfl rfl ?_
      refine x_icmp_ge hm rfl (t := 60) rfl (fun h4 => ?_) (fun h4 => ?_)
      · refine x_iload_n hm rfl rfl ?_
        refine x_istore_n hm rfl rfl ?_
        refine x_iload_n hm rfl rfl ?_
        refine x_iload hm rfl rfl ?_
        refine x_lib hm rfl rfl ?_
        dsimp only
        refine x_istore_n hm rfl rfl ?_
        refine x_iinc hm rfl rfl (v := nI 1) (by decide) rfl ?_
        rw [jI_add]
        refine x_goto hm rfl (t := 25) rfl ?_
        exact ih _ _ _ _ _ (by omega) (by omega) (hS2.trans r3)
      · refine x_iload hm rfl rfl ?_
        refine x_goto hm rfl (t := 61) rfl ?_
        refine x_istore_n hm rfl rfl ?_
        refine x_iload_n hm rfl rfl ?_
        refine x_iload hm rfl rfl ?_
        refine x_lib hm rfl rfl ?_
        dsimp only
        refine x_istore_n hm rfl rfl ?_
        refine x_iinc hm rfl rfl (v := nI 1) (by decide) rfl ?_
        rw [jI_add]
        refine x_goto hm rfl (t := 25) rfl ?_
        exact ih _ _ _ _ _ (by omega) (by omega) (hS2.trans r3)
theorem t188 {a1 : Int32} (hI : Inv M) : ∃ v M', mT X 188 [.ref 66, .int a1] (con M) (some (.int v)) (con M') ∧ Inv M' := by
  refine ti_of (row := _) rfl (Nat.le_of_ble_eq_true rfl) ?_
  have hm : mMet 188 = some _ := rfl
  obtain ⟨np, hp8, hnp⟩ := hI.1.np
  refine x_iload_n hm rfl rfl ?_
  refine x_iconst hm rfl (v := nI 0) (by decide) ?_
  refine x_bipush hm rfl (v := nI 60) (by decide) ?_
  refine x_callS hm rfl rfl (t133) ?_
  refine x_if_ne hm rfl (t := 17) rfl (fun h1 => ?_) (fun h1 => ?_)
  · obtain ⟨a, ha, rfl⟩ := le_k (by omega) (bI_ne0 h1)
    refine x_iconst hm rfl (v := (-1 : Int32)) (by decide) ?_
    refine x_istore_n hm rfl rfl ?_
    refine x_ldcI hm rfl (v := nI 2147483647) (by decide +kernel) ?_
    refine x_istore_n hm rfl rfl ?_
    refine x_iconst hm rfl (v := nI 0) (by decide) ?_
    refine x_istore hm rfl rfl ?_
    exact ev_inv hI (l188 hI.1 (by omega) hnp hp8 _ 0 _ _ _ _ (Nat.lt_succ_self _) (Nat.zero_le _) Sf.rf)
  · refine x_aload_n hm rfl rfl ?_
    refine x_ldcI hm rfl (v := (-1000001 : Int32)) (by decide +kernel) ?_
    refine x_cVi hm rfl rfl (t135 (by decide +kernel)) (fun v2 M2 r2 => ?_)
    refine x_iret hm rfl rfl (by first | rfl | exact bI_nar | decide) ?_
    exact ⟨_, _, rfl, rfl, by first | exact hI | exact (r1.2.inv hI) | exact (r2.2.inv hI) | exact (r3.2.inv hI) | exact (r1.inv hI) | exact (r2.inv hI) | exact (r3.inv hI)⟩
theorem t191 {a1 a2 : Int32} : ∃ v, mT X 191 [.int a1, .int a2] (con M) (some (.int v)) (con M) ∧ (v = nI 0 ∨ v = nI 1) := by
  refine te_of (row := _) rfl (Nat.le_of_ble_eq_true rfl) ?_
  have hm : mMet 191 = some _ := rfl
  refine x_iload_n hm rfl rfl ?_
  refine x_iload_n hm rfl rfl ?_
  refine x_ishr hm rfl ?_
  refine x_iconst hm rfl (v := nI 1) (by decide) ?_
  refine x_iand hm rfl ?_
  refine x_iconst hm rfl (v := nI 1) (by decide) ?_
  refine x_icmp_ne hm rfl (t := 13) rfl (fun h1 => ?_) (fun h1 => ?_)
  · refine x_iconst hm rfl (v := nI 0) (by decide) ?_
    refine x_iret hm rfl rfl (by first | rfl | exact bI_nar | decide) ?_
    exact ⟨_, rfl, rfl, by first | exact Or.inl rfl | exact Or.inr rfl⟩
  · refine x_iconst hm rfl (v := nI 1) (by decide) ?_
    refine x_goto hm rfl (t := 14) rfl ?_
    refine x_iret hm rfl rfl (by first | rfl | exact bI_nar | decide) ?_
    exact ⟨_, rfl, rfl, by first | exact Or.inl rfl | exact Or.inr rfl⟩
theorem l190b {nb : Nat} (hW : Wf M) (hnb : M 67 1 = nI nb) (h8 : nb ≤ 8) {s : Int32} {a lo : Int32} : ∀ (n k : Nat) (M1 : mM), nb - k < n → k ≤ nb → Sf M M1 → mEv X (QI (fun _ M' => Sf M M')) 190 68 [some (.ref 66), some (.int s), some (.int a), some (.int lo), some (.int (nI k))] [] (con M1) := by
  have hm : mMet 190 = some _ := rfl
  intro n
  induction n with
  | zero =>
    intro k M1 hkn hkb hS
    omega
  | succ n ih =>
    intro k M1 hkn hkb hS
    have hn1 : M1 67 1 = nI nb := hS.2.1.trans hnb
    refine x_iload hm rfl rfl ?_
    refine x_aload_n hm rfl rfl ?_
    refine x_getf hm rfl (gR rfl rfl) ?_
    refine x_iconst hm rfl (v := nI 1) (by decide) ?_
    refine x_iald hm rfl (lI rfl (by omega) (by decide)) ?_
    rw [hn1]
    refine x_icmp_ge hm rfl (t := 103) rfl (fun h1 => ?_) (fun h1 => ?_)
    · refine x_iload_n hm rfl rfl ?_
      refine x_iret hm rfl rfl (by first | rfl | exact bI_nar | decide) ?_
      exact ⟨_, _, rfl, rfl, hS⟩
    · have hk : k < nb := Nat.lt_of_not_le fun h => h1 (nI_le h (by omega))
      refine x_aload_n hm rfl rfl ?_
      refine x_getf hm rfl (gR rfl rfl) ?_
      refine x_iload hm rfl rfl ?_
      refine x_iconst hm rfl (v := nI 3) (by decide) ?_
      refine x_callS hm rfl rfl (t137) ?_
      refine x_aload_n hm rfl rfl ?_
      refine x_getf hm rfl (gR rfl rfl) ?_
      refine x_iload hm rfl rfl ?_
      refine x_iald hm rfl (lI rfl (by omega) (by decide)) ?_
      refine x_iast hm rfl (sI rfl (by omega) (by decide)) ?_
      refine x_iinc hm rfl rfl (v := nI 1) (by decide) rfl ?_
      rw [jI_add]
      refine x_goto hm rfl (t := 68) rfl ?_
      exact ih _ _ (by omega) (by omega) (hS.trans (Sf.thing (by omega) (by decide) (by decide) (by decide)))
theorem l190a {nb : Nat} (hW : Wf M) (hnb : M 67 1 = nI nb) (h8 : nb ≤ 8) {s : Int32} {a : Nat} (ha : a ≤ 1000) : ∀ (n k : Nat) (M1 : mM), nb - k < n → k ≤ nb → Sf M M1 → mEv X (QI (fun _ M' => Sf M M')) 190 2 [some (.ref 66), some (.int s), some (.int (nI a)), some (.int (nI k)), none] [] (con M1) := by
  have hm : mMet 190 = some _ := rfl
  intro n
  induction n with
  | zero =>
    intro k M1 hkn hkb hS
    omega
  | succ n ih =>
    intro k M1 hkn hkb hS
    have hn1 : M1 67 1 = nI nb := hS.2.1.trans hnb
    refine x_iload_n hm rfl rfl ?_
    refine x_aload_n hm rfl rfl ?_
    refine x_getf hm rfl (gR rfl rfl) ?_
    refine x_iconst hm rfl (v := nI 1) (by decide) ?_
    refine x_iald hm rfl (lI rfl (by omega) (by decide)) ?_
    rw [hn1]
    refine x_icmp_ge hm rfl (t := 59) rfl (fun h1 => ?_) (fun h1 => ?_)
    · refine x_aload_n hm rfl rfl ?_
      refine x_iload_n hm rfl rfl ?_
      refine x_cVi hm rfl rfl (t180 (hS.1 hW) ha) (fun v2 M2 r2 => ?_)
      refine x_istore_n hm rfl rfl ?_
      refine x_iconst hm rfl (v := nI 0) (by decide) ?_
      refine x_istore hm rfl rfl ?_
      exact l190b hW hnb h8 _ 0 _ (Nat.lt_succ_self _) (Nat.zero_le _) (hS.trans r2)
    · have hk : k < nb := Nat.lt_of_not_le fun h => h1 (nI_le h (by omega))
      refine x_aload_n hm rfl rfl ?_
      refine x_getf hm rfl (gR rfl rfl) ?_
      refine x_iload_n hm rfl rfl ?_
      refine x_aload_n hm rfl rfl ?_
      refine x_iload_n hm rfl rfl ?_
      refine x_iconst hm rfl (v := nI 3) (by decide) ?_
      refine x_callV hm rfl rfl (t143 (by omega) (by omega)) ?_
      refine x_iast hm rfl (sI rfl (by omega) (by decide)) ?_
      refine x_aload_n hm rfl rfl ?_
      refine x_getf hm rfl (gR rfl rfl) ?_
      refine x_iload_n hm rfl rfl ?_
      refine x_iconst hm rfl (v := nI 3) (by decide) ?_
      refine x_callS hm rfl rfl (t137) ?_
      refine x_iload_n hm rfl rfl ?_
      refine x_iload_n hm rfl rfl ?_
      refine x_cSe hm rfl rfl (t191) (fun v3 r3 => ?_)
      refine x_if_eq hm rfl (t := 46) rfl (fun h4 => ?_) (fun h4 => ?_)
      · refine x_aload_n hm rfl rfl ?_
        refine x_getf hm rfl (gR rfl rfl) ?_
        refine x_iload_n hm rfl rfl ?_
        refine x_iald hm rfl (lI rfl (by omega) (by decide)) ?_
        refine x_iast hm rfl (sI rfl (by omega) (by decide)) ?_
        refine x_iinc hm rfl rfl (v := nI 1) (by decide) rfl ?_
        rw [jI_add]
        refine x_goto hm rfl (t := 2) rfl ?_
        exact ih _ _ (by omega) (by omega) ((hS.trans (Sf.put0 (kd72 _) (by decide) (by decide))).trans (Sf.thing (by omega) (by decide) (by decide) (by decide)))
      · refine x_bipush hm rfl (v := nI 9) (by decide) ?_
        refine x_goto hm rfl (t := 52) rfl ?_
        refine x_iast hm rfl (sI rfl (by omega) (by decide)) ?_
        refine x_iinc hm rfl rfl (v := nI 1) (by decide) rfl ?_
        rw [jI_add]
        refine x_goto hm rfl (t := 2) rfl ?_
        exact ih _ _ (by omega) (by omega) ((hS.trans (Sf.put0 (kd72 _) (by decide) (by decide))).trans (Sf.thing (by omega) (by decide) (by decide) (by decide)))
theorem t190 {s : Int32} {a : Nat} (hW : Wf M) (ha : a ≤ 1000) : ∃ v M', mT X 190 [.ref 66, .int s, .int (nI a)] (con M) (some (.int v)) (con M') ∧ Sf M M' := by
  refine ti_of (row := _) rfl (Nat.le_of_ble_eq_true rfl) ?_
  have hm : mMet 190 = some _ := rfl
  obtain ⟨nb, h8, hnb⟩ := hW.nt
  refine x_iconst hm rfl (v := nI 0) (by decide) ?_
  refine x_istore_n hm rfl rfl ?_
  exact l190a hW hnb h8 ha _ 0 _ (Nat.lt_succ_self _) (Nat.zero_le _) Sf.rf
theorem l189 {a nb : Nat} {c m : Int32} (hW : Wf M) (ha : a ≤ 1000) (hnb : M 67 1 = nI nb) (h8 : nb ≤ 8) : ∀ (n k : Nat) (b l : Int32) (x7 : Option Value) (M1 : mM), 2 ^ nb - k < n → k ≤ 2 ^ nb → Sf M M1 → mEv X (QI (fun _ M' => Sf M M')) 189 48 [some (.ref 66), some (.int c), some (.int (nI a)), some (.int m), some (.int b), some (.int l), some (.int (nI k)), x7] [] (con M1) := by
  have hm : mMet 189 = some _ := rfl
  intro n
  induction n with
  | zero =>
    intro k b l x7 M1 hkn hkb hS
    omega
  | succ n ih =>
    intro k b l x7 M1 hkn hkb hS
    have hn1 : M1 67 1 = nI nb := hS.2.1.trans hnb
    have hpw := pow_k h8
    refine x_iload hm rfl rfl ?_
    refine x_iconst hm rfl (v := nI 1) (by decide) ?_
    refine x_aload_n hm rfl rfl ?_
    refine x_getf hm rfl (gR rfl rfl) ?_
    refine x_iconst hm rfl (v := nI 1) (by decide) ?_
    refine x_iald hm rfl (lI rfl (by omega) (by decide)) ?_
    rw [hn1]
    refine x_ishl hm rfl ?_
    rw [shl_k nb h8]
    refine x_icmp_ge hm rfl (t := 115) rfl (fun h1 => ?_) (fun h1 => ?_)
    · refine x_iload hm rfl rfl ?_
      refine x_iret hm rfl rfl (by first | rfl | exact bI_nar | decide) ?_
      exact ⟨_, _, rfl, rfl, hS⟩
    · have hk : k < 2 ^ nb := Nat.lt_of_not_le fun h => h1 (nI_le h (by omega))
      refine x_iload hm rfl rfl ?_
      refine x_cSe hm rfl rfl (t168) (fun v2 r2 => ?_)
      refine x_iload_n hm rfl rfl ?_
      refine x_icmp_ne hm rfl (t := 80) rfl (fun h3 => ?_) (fun h3 => ?_)
      · refine x_ldcI hm rfl (v := nI 2147483647) (by decide +kernel) ?_
        refine x_istore hm rfl rfl ?_
        refine x_iload hm rfl rfl ?_
        refine x_iload hm rfl rfl ?_
        refine x_icmp_ge hm rfl (t := 96) rfl (fun h4 => ?_) (fun h4 => ?_)
        · refine x_iload hm rfl rfl ?_
          refine x_istore hm rfl rfl ?_
          refine x_iload hm rfl rfl ?_
          refine x_iload hm rfl rfl ?_
          refine x_lib hm rfl rfl ?_
          dsimp only
          refine x_istore hm rfl rfl ?_
          refine x_iinc hm rfl rfl (v := nI 1) (by decide) rfl ?_
          rw [jI_add]
          refine x_goto hm rfl (t := 48) rfl ?_
          first
            | exact ih _ _ _ _ _ (by omega) (by omega) hS
            | exact ih _ _ _ _ _ (by omega) (by omega) (hS.trans r4)
            | exact ih _ _ _ _ _ (by omega) (by omega) (hS.trans r5)
            | exact ih _ _ _ _ _ (by omega) (by omega) (hS.trans r6)
        · refine x_iload hm rfl rfl ?_
          refine x_goto hm rfl (t := 98) rfl ?_
          refine x_istore hm rfl rfl ?_
          refine x_iload hm rfl rfl ?_
          refine x_iload hm rfl rfl ?_
          refine x_lib hm rfl rfl ?_
          dsimp only
          refine x_istore hm rfl rfl ?_
          refine x_iinc hm rfl rfl (v := nI 1) (by decide) rfl ?_
          rw [jI_add]
          refine x_goto hm rfl (t := 48) rfl ?_
          first
            | exact ih _ _ _ _ _ (by omega) (by omega) hS
            | exact ih _ _ _ _ _ (by omega) (by omega) (hS.trans r4)
            | exact ih _ _ _ _ _ (by omega) (by omega) (hS.trans r5)
            | exact ih _ _ _ _ _ (by omega) (by omega) (hS.trans r6)
      · refine x_aload_n hm rfl rfl ?_
        refine x_iload hm rfl rfl ?_
        refine x_iload_n hm rfl rfl ?_
        refine x_cVi hm rfl rfl (t190 (hS.1 hW) (by omega)) (fun v5 M5 r5 => ?_)
        refine x_goto hm rfl (t := 82) rfl ?_
        refine x_istore hm rfl rfl ?_
        refine x_iload hm rfl rfl ?_
        refine x_iload hm rfl rfl ?_
        refine x_icmp_ge hm rfl (t := 96) rfl (fun h6 => ?_) (fun h6 => ?_)
        · refine x_iload hm rfl rfl ?_
          refine x_istore hm rfl rfl ?_
          refine x_iload hm rfl rfl ?_
          refine x_iload hm rfl rfl ?_
          refine x_lib hm rfl rfl ?_
          dsimp only
          refine x_istore hm rfl rfl ?_
          refine x_iinc hm rfl rfl (v := nI 1) (by decide) rfl ?_
          rw [jI_add]
          refine x_goto hm rfl (t := 48) rfl ?_
          first
            | exact ih _ _ _ _ _ (by omega) (by omega) (hS.trans r5)
            | exact ih _ _ _ _ _ (by omega) (by omega) hS
            | exact ih _ _ _ _ _ (by omega) (by omega) (hS.trans r4)
            | exact ih _ _ _ _ _ (by omega) (by omega) (hS.trans r6)
        · refine x_iload hm rfl rfl ?_
          refine x_goto hm rfl (t := 98) rfl ?_
          refine x_istore hm rfl rfl ?_
          refine x_iload hm rfl rfl ?_
          refine x_iload hm rfl rfl ?_
          refine x_lib hm rfl rfl ?_
          dsimp only
          refine x_istore hm rfl rfl ?_
          refine x_iinc hm rfl rfl (v := nI 1) (by decide) rfl ?_
          rw [jI_add]
          refine x_goto hm rfl (t := 48) rfl ?_
          first
            | exact ih _ _ _ _ _ (by omega) (by omega) (hS.trans r5)
            | exact ih _ _ _ _ _ (by omega) (by omega) hS
            | exact ih _ _ _ _ _ (by omega) (by omega) (hS.trans r4)
            | exact ih _ _ _ _ _ (by omega) (by omega) (hS.trans r6)
theorem t189 {a1 a2 : Int32} (hI : Inv M) : ∃ v M', mT X 189 [.ref 66, .int a1, .int a2] (con M) (some (.int v)) (con M') ∧ Inv M' := by
  refine ti_of (row := _) rfl (Nat.le_of_ble_eq_true rfl) ?_
  have hm : mMet 189 = some _ := rfl
  obtain ⟨nt, hn8, hnt⟩ := hI.1.nt
  refine x_iload_n hm rfl rfl ?_
  refine x_iconst hm rfl (v := nI 0) (by decide) ?_
  refine x_bipush hm rfl (v := nI 8) (by decide) ?_
  refine x_callS hm rfl rfl (t133) ?_
  refine x_if_eq hm rfl (t := 20) rfl (fun h1 => ?_) (fun h1 => ?_)
  · refine x_aload_n hm rfl rfl ?_
    refine x_ldcI hm rfl (v := (-1000001 : Int32)) (by decide +kernel) ?_
    refine x_cVi hm rfl rfl (t135 (by decide +kernel)) (fun v2 M2 r2 => ?_)
    refine x_iret hm rfl rfl (by first | rfl | exact bI_nar | decide) ?_
    exact ⟨_, _, rfl, rfl, by first | exact hI | exact (r1.2.inv hI) | exact (r2.2.inv hI) | exact (r3.2.inv hI) | exact (r4.2.inv hI) | exact (r5.2.inv hI) | exact (r1.inv hI) | exact (r2.inv hI) | exact (r3.inv hI) | exact (r4.inv hI) | exact (r5.inv hI)⟩
  · 
    refine x_iload_n hm rfl rfl ?_
    refine x_iconst hm rfl (v := nI 0) (by decide) ?_
    refine x_bipush hm rfl (v := nI 60) (by decide) ?_
    refine x_callS hm rfl rfl (t133) ?_
    refine x_if_ne hm rfl (t := 27) rfl (fun h3 => ?_) (fun h3 => ?_)
    · obtain ⟨a, ha, rfl⟩ := le_k (by omega) (bI_ne0 h3)
      refine x_iload_n hm rfl rfl ?_
      refine x_aload_n hm rfl rfl ?_
      refine x_getf hm rfl (gR rfl rfl) ?_
      refine x_iconst hm rfl (v := nI 1) (by decide) ?_
      refine x_iald hm rfl (lI rfl (by omega) (by decide)) ?_
      refine x_lib hm rfl rfl ?_
      dsimp only
      refine x_istore_n hm rfl rfl ?_
      refine x_iconst hm rfl (v := nI 0) (by decide) ?_
      refine x_istore hm rfl rfl ?_
      refine x_ldcI hm rfl (v := nI 2147483647) (by decide +kernel) ?_
      refine x_istore hm rfl rfl ?_
      refine x_iconst hm rfl (v := nI 0) (by decide) ?_
      refine x_istore hm rfl rfl ?_
      exact ev_inv hI (l189 hI.1 (by omega) hnt hn8 _ 0 _ _ _ _ (Nat.lt_succ_self _) (Nat.zero_le _) Sf.rf)
    · refine x_aload_n hm rfl rfl ?_
      refine x_ldcI hm rfl (v := (-1000001 : Int32)) (by decide +kernel) ?_
      refine x_cVi hm rfl rfl (t135 (by decide +kernel)) (fun v4 M4 r4 => ?_)
      refine x_iret hm rfl rfl (by first | rfl | exact bI_nar | decide) ?_
      exact ⟨_, _, rfl, rfl, by first | exact hI | exact (r1.2.inv hI) | exact (r2.2.inv hI) | exact (r3.2.inv hI) | exact (r4.2.inv hI) | exact (r5.2.inv hI) | exact (r1.inv hI) | exact (r2.inv hI) | exact (r3.inv hI) | exact (r4.inv hI) | exact (r5.inv hI)⟩
theorem l192 {t a : Nat} {c : Int32} (hW : Wf M) (ht : t < 8) (ha : a ≤ 1000) : ∀ (n : Nat) (x b : Int32) (M1 : mM), (x.toInt + 1).toNat < n → Sf M M1 → mEv X (QI (fun _ M' => Sf M M')) 192 39 [some (.ref 66), some (.int (nI t)), some (.int (nI a)), some (.int c), some (.int b), some (.int x)] [] (con M1) := by
  have hm : mMet 192 = some _ := rfl
  intro n
  induction n with
  | zero =>
    intro x b M1 hx hS
    omega
  | succ n ih =>
    intro x b M1 hx hS
    refine x_iload hm rfl rfl ?_
    refine x_if_lt hm rfl (t := 80) rfl (fun h1 => ?_) (fun h1 => ?_)
    · refine x_aload_n hm rfl rfl ?_
      refine x_getf hm rfl (gR rfl rfl) ?_
      refine x_iload_n hm rfl rfl ?_
      refine x_iconst hm rfl (v := nI 3) (by decide) ?_
      refine x_callS hm rfl rfl (t137) ?_
      refine x_iload_n hm rfl rfl ?_
      refine x_iast hm rfl (sI rfl (by omega) (by decide)) ?_
      have hS3 := hS.trans (Sf.thing (M := M1) (v := c) ht (by decide : 3 < 5) (by decide) (by decide))
      refine x_aload_n hm rfl rfl ?_
      refine x_iload hm rfl rfl ?_
      refine x_cVi hm rfl rfl (t177) (fun v2 M2 r2 => ?_)
      refine x_iret hm rfl rfl (by first | rfl | exact bI_nar | decide) ?_
      exact ⟨_, _, rfl, rfl, by first | exact hS3.trans r2.sf | exact hS3.trans r3.sf⟩
    · have hx0 : ¬ x < 0 := h1
      have hd := dec_int hx0
      have hx1 : 0 ≤ x.toInt := by
        have := Int32.not_lt.mp hx0
        simpa using Int32.le_iff_toInt_le.mp this
      refine x_aload_n hm rfl rfl ?_
      refine x_getf hm rfl (gR rfl rfl) ?_
      refine x_iload_n hm rfl rfl ?_
      refine x_iconst hm rfl (v := nI 3) (by decide) ?_
      refine x_callS hm rfl rfl (t137) ?_
      refine x_iload hm rfl rfl ?_
      refine x_iast hm rfl (sI rfl (by omega) (by decide)) ?_
      have hS2 := hS.trans (Sf.thing (M := M1) (v := x) ht (by decide : 3 < 5) (by decide) (by decide))
      refine x_aload_n hm rfl rfl ?_
      refine x_iload_n hm rfl rfl ?_
      refine x_iload_n hm rfl rfl ?_
      refine x_cVi hm rfl rfl (t173 (hS2.1 hW) ht ha) (fun v3 M3 r3 => ?_)
      refine x_if_le hm rfl (t := 70) rfl (fun h4 => ?_) (fun h4 => ?_)
      · refine x_iload hm rfl rfl ?_
        refine x_istore hm rfl rfl ?_
        refine x_iinc hm rfl rfl (v := (-1 : Int32)) (by decide) rfl ?_
        refine x_goto hm rfl (t := 39) rfl ?_
        first
          | exact ih _ _ _ (by omega) (hS2.trans r3)
          | exact ih _ _ _ (by omega) (hS2.trans r2)
          | exact ih _ _ _ (by omega) (hS2.trans r4)
      · refine x_iload hm rfl rfl ?_
        refine x_goto hm rfl (t := 72) rfl ?_
        refine x_istore hm rfl rfl ?_
        refine x_iinc hm rfl rfl (v := (-1 : Int32)) (by decide) rfl ?_
        refine x_goto hm rfl (t := 39) rfl ?_
        first
          | exact ih _ _ _ (by omega) (hS2.trans r3)
          | exact ih _ _ _ (by omega) (hS2.trans r2)
          | exact ih _ _ _ (by omega) (hS2.trans r4)
theorem t192 {a1 a2 : Int32} (hI : Inv M) : ∃ v M', mT X 192 [.ref 66, .int a1, .int a2] (con M) (some (.int v)) (con M') ∧ Inv M' := by
  refine ti_of (row := _) rfl (Nat.le_of_ble_eq_true rfl) ?_
  have hm : mMet 192 = some _ := rfl
  obtain ⟨nt, hn8, hnt⟩ := hI.1.nt
  refine x_aload_n hm rfl rfl ?_
  refine x_iload_n hm rfl rfl ?_
  refine x_callV hm rfl rfl (t139) ?_
  refine x_if_eq hm rfl (t := 18) rfl (fun h1 => ?_) (fun h1 => ?_)
  · refine x_aload_n hm rfl rfl ?_
    refine x_ldcI hm rfl (v := (-1000001 : Int32)) (by decide +kernel) ?_
    refine x_cVi hm rfl rfl (t135 (by decide +kernel)) (fun v2 M2 r2 => ?_)
    refine x_iret hm rfl rfl (by first | rfl | exact bI_nar | decide) ?_
    exact ⟨_, _, rfl, rfl, by first | exact hI | exact (r1.2.inv hI) | exact (r2.2.inv hI) | exact (r3.2.inv hI) | exact (r4.2.inv hI) | exact (r5.2.inv hI) | exact (r1.inv hI) | exact (r2.inv hI) | exact (r3.inv hI) | exact (r4.inv hI) | exact (r5.inv hI)⟩
  · obtain ⟨t, ht, rfl⟩ := in_k hnt (by omega) (bI_ne0 h1)
    refine x_iload_n hm rfl rfl ?_
    refine x_iconst hm rfl (v := nI 0) (by decide) ?_
    refine x_bipush hm rfl (v := nI 60) (by decide) ?_
    refine x_callS hm rfl rfl (t133) ?_
    refine x_if_ne hm rfl (t := 25) rfl (fun h3 => ?_) (fun h3 => ?_)
    · obtain ⟨a, ha, rfl⟩ := le_k (by omega) (bI_ne0 h3)
      refine x_aload_n hm rfl rfl ?_
      refine x_iload_n hm rfl rfl ?_
      refine x_iconst hm rfl (v := nI 3) (by decide) ?_
      refine x_callV hm rfl rfl (t143 (by omega) (by omega)) ?_
      refine x_istore_n hm rfl rfl ?_
      refine x_iconst hm rfl (v := (-1 : Int32)) (by decide) ?_
      refine x_istore hm rfl rfl ?_
      refine x_bipush hm rfl (v := nI 9) (by decide) ?_
      refine x_istore hm rfl rfl ?_
      exact ev_inv hI (l192 hI.1 (by omega) (by omega) _ _ _ _ (Nat.lt_succ_self _) Sf.rf)
    · refine x_aload_n hm rfl rfl ?_
      refine x_ldcI hm rfl (v := (-1000001 : Int32)) (by decide +kernel) ?_
      refine x_cVi hm rfl rfl (t135 (by decide +kernel)) (fun v4 M4 r4 => ?_)
      refine x_iret hm rfl rfl (by first | rfl | exact bI_nar | decide) ?_
      exact ⟨_, _, rfl, rfl, by first | exact hI | exact (r1.2.inv hI) | exact (r2.2.inv hI) | exact (r3.2.inv hI) | exact (r4.2.inv hI) | exact (r5.2.inv hI) | exact (r1.inv hI) | exact (r2.inv hI) | exact (r3.inv hI) | exact (r4.inv hI) | exact (r5.inv hI)⟩
theorem l176 {t : Nat} (hW : Wf M) (ht : t < 8) : ∀ (n k : Nat) (M1 : mM), 100 - k < n → k ≤ 100 → Dy (cp M 67 69 118) M1 → mEv X (QI (fun _ M' => Sf M M')) 176 28 [some (.ref 66), some (.int (nI t)), some (.int (nI k))] [] (con M1) := by
  have hm : mMet 176 = some _ := rfl
  intro n
  induction n with
  | zero =>
    intro k M1 hkn hkb hD
    omega
  | succ n ih =>
    intro k M1 hkn hkb hD
    refine x_iload_n hm rfl rfl ?_
    refine x_bipush hm rfl (v := nI 100) (by decide) ?_
    refine x_icmp_ge hm rfl (t := 52) rfl (fun h1 => ?_) (fun h1 => ?_)
    · refine x_aload_n hm rfl rfl ?_
      refine x_aload_n hm rfl rfl ?_
      refine x_aload_n hm rfl rfl ?_
      refine x_iload_n hm rfl rfl ?_
      refine x_callV hm rfl rfl (t146 (by omega)) ?_
      refine x_if_eq hm rfl (t := 66) rfl (fun h2 => ?_) (fun h2 => ?_)
      · refine x_iconst hm rfl (v := (-1 : Int32)) (by decide) ?_
        refine x_callV hm rfl rfl (t175) ?_
        refine x_cVi hm rfl rfl (t177) (fun v3 M3 r3 => ?_)
        refine x_iret hm rfl rfl (by first | rfl | exact bI_nar | decide) ?_
        exact ⟨_, _, rfl, rfl, by first | exact (Sf.trial hD).trans r3.sf | exact (Sf.trial hD).trans r4.sf | exact (Sf.trial hD).trans r5.sf | exact (Sf.trial hD).trans r6.sf | exact (Sf.trial hD).trans r7.sf | exact (Sf.trial hD).trans r8.sf⟩
      · refine x_iload_n hm rfl rfl ?_
        refine x_goto hm rfl (t := 67) rfl ?_
        refine x_callV hm rfl rfl (t175) ?_
        refine x_cVi hm rfl rfl (t177) (fun v4 M4 r4 => ?_)
        refine x_iret hm rfl rfl (by first | rfl | exact bI_nar | decide) ?_
        exact ⟨_, _, rfl, rfl, by first | exact (Sf.trial hD).trans r3.sf | exact (Sf.trial hD).trans r4.sf | exact (Sf.trial hD).trans r5.sf | exact (Sf.trial hD).trans r6.sf | exact (Sf.trial hD).trans r7.sf | exact (Sf.trial hD).trans r8.sf⟩
    · have hk : k < 100 := Nat.lt_of_not_le fun h => h1 (nI_le h (by omega))
      refine x_aload_n hm rfl rfl ?_
      refine x_iload_n hm rfl rfl ?_
      refine x_callV hm rfl rfl (t146 (by omega)) ?_
      refine x_if_ne hm rfl (t := 52) rfl (fun h5 => ?_) (fun h5 => ?_)
      · refine x_aload_n hm rfl rfl ?_
        refine x_aload_n hm rfl rfl ?_
        refine x_aload_n hm rfl rfl ?_
        refine x_iload_n hm rfl rfl ?_
        refine x_callV hm rfl rfl (t146 (by omega)) ?_
        refine x_if_eq hm rfl (t := 66) rfl (fun h6 => ?_) (fun h6 => ?_)
        · refine x_iconst hm rfl (v := (-1 : Int32)) (by decide) ?_
          refine x_callV hm rfl rfl (t175) ?_
          refine x_cVi hm rfl rfl (t177) (fun v7 M7 r7 => ?_)
          refine x_iret hm rfl rfl (by first | rfl | exact bI_nar | decide) ?_
          exact ⟨_, _, rfl, rfl, by first | exact (Sf.trial hD).trans r3.sf | exact (Sf.trial hD).trans r4.sf | exact (Sf.trial hD).trans r5.sf | exact (Sf.trial hD).trans r6.sf | exact (Sf.trial hD).trans r7.sf | exact (Sf.trial hD).trans r8.sf⟩
        · refine x_iload_n hm rfl rfl ?_
          refine x_goto hm rfl (t := 67) rfl ?_
          refine x_callV hm rfl rfl (t175) ?_
          refine x_cVi hm rfl rfl (t177) (fun v8 M8 r8 => ?_)
          refine x_iret hm rfl rfl (by first | rfl | exact bI_nar | decide) ?_
          exact ⟨_, _, rfl, rfl, by first | exact (Sf.trial hD).trans r3.sf | exact (Sf.trial hD).trans r4.sf | exact (Sf.trial hD).trans r5.sf | exact (Sf.trial hD).trans r6.sf | exact (Sf.trial hD).trans r7.sf | exact (Sf.trial hD).trans r8.sf⟩
      · refine x_aload_n hm rfl rfl ?_
        refine x_cVv hm rfl rfl (t165 (hD.1.1 hW.aside)) (fun M9 r9 => ?_)
        refine x_iinc hm rfl rfl (v := nI 1) (by decide) rfl ?_
        rw [jI_add]
        refine x_goto hm rfl (t := 28) rfl ?_
        first
          | exact ih _ _ (by omega) (by omega) (hD.trans r9)
          | exact ih _ _ (by omega) (by omega) (hD.trans r3)
          | exact ih _ _ (by omega) (by omega) (hD.trans r4)
          | exact ih _ _ (by omega) (by omega) (hD.trans r5)
          | exact ih _ _ (by omega) (by omega) (hD.trans r6)
          | exact ih _ _ (by omega) (by omega) (hD.trans r7)
          | exact ih _ _ (by omega) (by omega) (hD.trans r8)
          | exact ih _ _ (by omega) (by omega) (hD.trans r10)
          | exact ih _ _ (by omega) (by omega) (hD.trans r11)
          | exact ih _ _ (by omega) (by omega) (hD.trans r2)
theorem t176 {a1 : Int32} (hI : Inv M) : ∃ v M', mT X 176 [.ref 66, .int a1] (con M) (some (.int v)) (con M') ∧ Inv M' := by
  refine ti_of (row := _) rfl (Nat.le_of_ble_eq_true rfl) ?_
  have hm : mMet 176 = some _ := rfl
  obtain ⟨nt, hn8, hnt⟩ := hI.1.nt
  refine x_aload_n hm rfl rfl ?_
  refine x_iload_n hm rfl rfl ?_
  refine x_callV hm rfl rfl (t139) ?_
  refine x_if_ne hm rfl (t := 15) rfl (fun h1 => ?_) (fun h1 => ?_)
  · obtain ⟨t, ht, rfl⟩ := in_k hnt (by omega) (bI_ne0 h1)
    refine x_aload_n hm rfl rfl ?_
    refine x_getf hm rfl (gR rfl rfl) ?_
    refine x_aload_n hm rfl rfl ?_
    refine x_getf hm rfl (gR rfl rfl) ?_
    refine x_callS hm rfl rfl (t174 rfl rfl (by decide)) ?_
    refine x_iconst hm rfl (v := nI 0) (by decide) ?_
    refine x_istore_n hm rfl rfl ?_
    exact ev_inv hI (l176 hI.1 (by omega) _ 0 _ (Nat.lt_succ_self _) (Nat.zero_le _) Dy.rf)
  · refine x_aload_n hm rfl rfl ?_
    refine x_ldcI hm rfl (v := (-1000001 : Int32)) (by decide +kernel) ?_
    refine x_cVi hm rfl rfl (t135 (by decide +kernel)) (fun v2 M2 r2 => ?_)
    refine x_iret hm rfl rfl (by first | rfl | exact bI_nar | decide) ?_
    exact ⟨_, _, rfl, rfl, by first | exact hI | exact (r1.2.inv hI) | exact (r2.2.inv hI) | exact (r3.2.inv hI) | exact (r4.2.inv hI) | exact (r5.2.inv hI) | exact (r1.inv hI) | exact (r2.inv hI) | exact (r3.inv hI) | exact (r4.inv hI) | exact (r5.inv hI)⟩
theorem l181 {p t : Nat} (hI : Inv M) (hp : p < 8) (ht : t < 8) : ∀ (n k : Nat) (x : Int32), 16 - k < n → k ≤ 16 → mEv X (QI (fun _ M' => Inv M')) 181 33 [some (.ref 66), some (.int (nI p)), some (.int (nI t)), some (.int x), some (.int (nI k))] [] (con M) := by
  have hm : mMet 181 = some _ := rfl
  intro n
  induction n with
  | zero =>
    intro k x hkn hkb
    omega
  | succ n ih =>
    intro k x hkn hkb
    refine x_iload hm rfl rfl ?_
    refine x_bipush hm rfl (v := nI 16) (by decide) ?_
    refine x_icmp_ge hm rfl (t := 68) rfl (fun h1 => ?_) (fun h1 => ?_)
    · refine x_iload hm rfl rfl ?_
      refine x_bipush hm rfl (v := nI 16) (by decide) ?_
      refine x_icmp_ge hm rfl (t := 80) rfl (fun h2 => ?_) (fun h2 => ?_)
      · refine x_aload_n hm rfl rfl ?_
        refine x_ldcI hm rfl (v := (-1000004 : Int32)) (by decide +kernel) ?_
        refine x_cVi hm rfl rfl (t135 (by decide +kernel)) (fun v3 M3 r3 => ?_)
        refine x_iret hm rfl rfl (by first | rfl | exact bI_nar | decide) ?_
        exact ⟨_, _, rfl, rfl, by first | exact hI | exact (r1.2.inv hI) | exact (r2.2.inv hI) | exact (r3.2.inv hI) | exact (r4.2.inv hI) | exact (r5.2.inv hI) | exact (r6.2.inv hI) | exact (r7.2.inv hI) | exact (r1.inv hI) | exact (r2.inv hI) | exact (r3.inv hI) | exact (r4.inv hI) | exact (r5.inv hI) | exact (r6.inv hI) | exact (r7.inv hI)⟩
      · refine x_iload hm rfl rfl ?_
        refine x_goto hm rfl (t := 86) rfl ?_
        refine x_iret hm rfl rfl (by first | rfl | exact bI_nar | decide) ?_
        exact ⟨_, _, rfl, rfl, by first | exact hI | exact (r1.2.inv hI) | exact (r2.2.inv hI) | exact (r3.2.inv hI) | exact (r4.2.inv hI) | exact (r5.2.inv hI) | exact (r6.2.inv hI) | exact (r7.2.inv hI) | exact (r1.inv hI) | exact (r2.inv hI) | exact (r3.inv hI) | exact (r4.inv hI) | exact (r5.inv hI) | exact (r6.inv hI) | exact (r7.inv hI)⟩
    · have hk : k < 16 := Nat.lt_of_not_le fun h => h1 (nI_le h (by omega))
      refine x_iload_n hm rfl rfl ?_
      refine x_aload_n hm rfl rfl ?_
      refine x_iload_n hm rfl rfl ?_
      refine x_iconst hm rfl (v := nI 1) (by decide) ?_
      refine x_callV hm rfl rfl (t143 (by omega) (by omega)) ?_
      refine x_icmp_eq hm rfl (t := 68) rfl (fun h4 => ?_) (fun h4 => ?_)
      · refine x_iload hm rfl rfl ?_
        refine x_bipush hm rfl (v := nI 16) (by decide) ?_
        refine x_icmp_ge hm rfl (t := 80) rfl (fun h5 => ?_) (fun h5 => ?_)
        · refine x_aload_n hm rfl rfl ?_
          refine x_ldcI hm rfl (v := (-1000004 : Int32)) (by decide +kernel) ?_
          refine x_cVi hm rfl rfl (t135 (by decide +kernel)) (fun v6 M6 r6 => ?_)
          refine x_iret hm rfl rfl (by first | rfl | exact bI_nar | decide) ?_
          exact ⟨_, _, rfl, rfl, by first | exact hI | exact (r1.2.inv hI) | exact (r2.2.inv hI) | exact (r3.2.inv hI) | exact (r4.2.inv hI) | exact (r5.2.inv hI) | exact (r6.2.inv hI) | exact (r7.2.inv hI) | exact (r1.inv hI) | exact (r2.inv hI) | exact (r3.inv hI) | exact (r4.inv hI) | exact (r5.inv hI) | exact (r6.inv hI) | exact (r7.inv hI)⟩
        · refine x_iload hm rfl rfl ?_
          refine x_goto hm rfl (t := 86) rfl ?_
          refine x_iret hm rfl rfl (by first | rfl | exact bI_nar | decide) ?_
          exact ⟨_, _, rfl, rfl, by first | exact hI | exact (r1.2.inv hI) | exact (r2.2.inv hI) | exact (r3.2.inv hI) | exact (r4.2.inv hI) | exact (r5.2.inv hI) | exact (r6.2.inv hI) | exact (r7.2.inv hI) | exact (r1.inv hI) | exact (r2.inv hI) | exact (r3.inv hI) | exact (r4.inv hI) | exact (r5.inv hI) | exact (r6.inv hI) | exact (r7.inv hI)⟩
      · refine x_iload_n hm rfl rfl ?_
        refine x_aload_n hm rfl rfl ?_
        refine x_iload_n hm rfl rfl ?_
        refine x_iconst hm rfl (v := nI 2) (by decide) ?_
        refine x_callV hm rfl rfl (t141 (by omega) (by omega)) ?_
        refine x_iadd hm rfl ?_
        refine x_bipush hm rfl (v := nI 16) (by decide) ?_
        refine x_irem hm rfl (by decide) ?_
        refine x_istore_n hm rfl rfl ?_
        refine x_iinc hm rfl rfl (v := nI 1) (by decide) rfl ?_
        rw [jI_add]
        refine x_goto hm rfl (t := 33) rfl ?_
        exact ih _ _ (by omega) (by omega)
theorem t181 {a1 a2 : Int32} (hI : Inv M) : ∃ v M', mT X 181 [.ref 66, .int a1, .int a2] (con M) (some (.int v)) (con M') ∧ Inv M' := by
  refine ti_of (row := _) rfl (Nat.le_of_ble_eq_true rfl) ?_
  have hm : mMet 181 = some _ := rfl
  obtain ⟨nt, hn8, hnt⟩ := hI.1.nt
  obtain ⟨np, hp8, hnp⟩ := hI.1.np
  refine x_aload_n hm rfl rfl ?_
  refine x_iload_n hm rfl rfl ?_
  refine x_callV hm rfl rfl (t153) ?_
  refine x_if_eq hm rfl (t := 16) rfl (fun h1 => ?_) (fun h1 => ?_)
  · refine x_aload_n hm rfl rfl ?_
    refine x_ldcI hm rfl (v := (-1000001 : Int32)) (by decide +kernel) ?_
    refine x_cVi hm rfl rfl (t135 (by decide +kernel)) (fun v2 M2 r2 => ?_)
    refine x_iret hm rfl rfl (by first | rfl | exact bI_nar | decide) ?_
    exact ⟨_, _, rfl, rfl, by first | exact hI | exact (r1.2.inv hI) | exact (r2.2.inv hI) | exact (r3.2.inv hI) | exact (r4.2.inv hI) | exact (r5.2.inv hI) | exact (r1.inv hI) | exact (r2.inv hI) | exact (r3.inv hI) | exact (r4.inv hI) | exact (r5.inv hI)⟩
  · obtain ⟨p, hp, rfl⟩ := in_k hnp (by omega) (bI_ne0 h1)
    refine x_aload_n hm rfl rfl ?_
    refine x_iload_n hm rfl rfl ?_
    refine x_callV hm rfl rfl (t139) ?_
    refine x_if_ne hm rfl (t := 23) rfl (fun h3 => ?_) (fun h3 => ?_)
    · obtain ⟨t, ht, rfl⟩ := in_k hnt (by omega) (bI_ne0 h3)
      refine x_aload_n hm rfl rfl ?_
      refine x_iload_n hm rfl rfl ?_
      refine x_iconst hm rfl (v := nI 1) (by decide) ?_
      refine x_callV hm rfl rfl (t141 (by omega) (by omega)) ?_
      refine x_istore_n hm rfl rfl ?_
      refine x_iconst hm rfl (v := nI 0) (by decide) ?_
      refine x_istore hm rfl rfl ?_
      exact l181 hI (by omega) (by omega) _ 0 _ (Nat.lt_succ_self _) (Nat.zero_le _)
    · refine x_aload_n hm rfl rfl ?_
      refine x_ldcI hm rfl (v := (-1000001 : Int32)) (by decide +kernel) ?_
      refine x_cVi hm rfl rfl (t135 (by decide +kernel)) (fun v4 M4 r4 => ?_)
      refine x_iret hm rfl rfl (by first | rfl | exact bI_nar | decide) ?_
      exact ⟨_, _, rfl, rfl, by first | exact hI | exact (r1.2.inv hI) | exact (r2.2.inv hI) | exact (r3.2.inv hI) | exact (r4.2.inv hI) | exact (r5.2.inv hI) | exact (r1.inv hI) | exact (r2.inv hI) | exact (r3.inv hI) | exact (r4.inv hI) | exact (r5.inv hI)⟩
end RG
end
section
/-! ===== the reference: what hangs, deals ===== -/
section RH
variable {X : mSc} {Q : Option Value → mHp → Prop} {M : mM}
theorem ev_iqe {m pc : Nat} {L : mLoc} {st : List Value} {D : mHp} (hI : Inv M) (h : mEv X (QI (fun _ M' => M' = M)) m pc L st D) : mEv X (QI (fun _ M' => Iq M M')) m pc L st D := by
  obtain ⟨n, r, D', g1, v, M2, g2, g3, g4⟩ := h
  exact ⟨n, r, D', g1, v, M2, g2, g3, by rw [g4]; exact Iq.rf hI⟩
def Rch (r : Nat → Int32) (o u : Nat) : Prop := ∃ f, hr r o f u
theorem ev_mono {Q' : Option Value → mHp → Prop} {m pc : Nat} {L : mLoc} {st : List Value} {D : mHp} (h : mEv X Q m pc L st D) (hq : ∀ r D', Q r D' → Q' r D') : mEv X Q' m pc L st D := by
  obtain ⟨n, r, D', g1, g2⟩ := h
  exact ⟨n, r, D', g1, hq r D' g2⟩
theorem hang_next {nt : Nat} {rk : Nat → Nat} (hW : Wf M) (h8 : nt ≤ 8) (hrk : ∀ t u, t < nt → u ≤ 7 → M 67 (14 + 6 * t + 5) = nI u → u < nt ∧ rk u < rk t) {k n : Nat} (hk : k < nt) (hm : rk k + 1 < n + 1) : M 67 (14 + 6 * k + 5) < 0 ∨ ∃ w, w < nt ∧ M 67 (14 + 6 * k + 5) = nI w ∧ rk w + 1 < n := by
  rcases ok2 (hW.on (t := k) (by omega)) with e | ⟨w, hw, e⟩
  · exact Or.inl (by rw [e]; decide)
  · obtain ⟨g1, g2⟩ := hrk k w hk hw e
    exact Or.inr ⟨w, g1, e, by omega⟩
theorem nneg {k : Nat} (hk : k < 1000) {P : Prop} (h : nI k < 0) : P := absurd h (jI_nn (by omega))
theorem l154 {t0 o : Nat} (ho : o < 8) {nt : Nat} {rk : Nat → Nat} (hW : Wf M) (h8 : nt ≤ 8) (hrk : ∀ t u, t < nt → u ≤ 7 → M 67 (14 + 6 * t + 5) = nI u → u < nt ∧ rk u < rk t) : ∀ (n : Nat) (x : Int32), (x < 0 ∨ ∃ k, k < nt ∧ x = nI k ∧ rk k + 1 < n) → 0 < n → mEv X (QE M (fun v => (v = nI 0 ∨ v = nI 1) ∧ (v = nI 0 → ∀ k, k < nt → x = nI k → ¬ Rch (M 67) o k))) 154 2 [some (.ref 66), some (.int (nI t0)), some (.int (nI o)), some (.int x)] [] (con M) := by
  have hm : mMet 154 = some _ := rfl
  intro n
  induction n with
  | zero =>
    intro x hx hn
    exact absurd hn (by omega)
  | succ n ih =>
    intro x hx hn
    refine x_iload_n hm rfl rfl ?_
    refine x_if_lt hm rfl (t := 21) rfl (fun h1 => ?_) (fun h1 => ?_)
    · refine x_iload_n hm rfl rfl ?_
      refine x_if_lt hm rfl (t := 29) rfl (fun h2 => ?_) (fun h2 => ?_)
      · refine x_iconst hm rfl (v := nI 0) (by decide) ?_
        refine x_iret hm rfl rfl (by first | rfl | exact bI_nar | decide) ?_
        exact ⟨_, rfl, rfl, by first | exact Or.inl rfl | exact Or.inr rfl, fun e k hk he => by first | exact absurd e (by decide) | (subst he; exact absurd (by assumption : nI k < 0) (jI_nn (by omega)))⟩
      · refine x_iconst hm rfl (v := nI 1) (by decide) ?_
        refine x_goto hm rfl (t := 30) rfl ?_
        refine x_iret hm rfl rfl (by first | rfl | exact bI_nar | decide) ?_
        exact ⟨_, rfl, rfl, by first | exact Or.inl rfl | exact Or.inr rfl, fun e k hk he => by first | exact absurd e (by decide) | (subst he; exact absurd (by assumption : nI k < 0) (jI_nn (by omega)))⟩
    · refine x_iload_n hm rfl rfl ?_
      refine x_iload_n hm rfl rfl ?_
      refine x_icmp_eq hm rfl (t := 21) rfl (fun h3 => ?_) (fun h3 => ?_)
      · refine x_iload_n hm rfl rfl ?_
        refine x_if_lt hm rfl (t := 29) rfl (fun h4 => ?_) (fun h4 => ?_)
        · refine x_iconst hm rfl (v := nI 0) (by decide) ?_
          refine x_iret hm rfl rfl (by first | rfl | exact bI_nar | decide) ?_
          exact ⟨_, rfl, rfl, by first | exact Or.inl rfl | exact Or.inr rfl, fun e k hk he => by first | exact absurd e (by decide) | (subst he; exact absurd (by assumption : nI k < 0) (jI_nn (by omega)))⟩
        · refine x_iconst hm rfl (v := nI 1) (by decide) ?_
          refine x_goto hm rfl (t := 30) rfl ?_
          refine x_iret hm rfl rfl (by first | rfl | exact bI_nar | decide) ?_
          exact ⟨_, rfl, rfl, by first | exact Or.inl rfl | exact Or.inr rfl, fun e k hk he => by first | exact absurd e (by decide) | (subst he; exact absurd (by assumption : nI k < 0) (jI_nn (by omega)))⟩
      · obtain ⟨k, hk, rfl, hm2⟩ := hx.resolve_left h1
        have hno := h3
        refine x_aload_n hm rfl rfl ?_
        refine x_iload_n hm rfl rfl ?_
        refine x_iconst hm rfl (v := nI 5) (by decide) ?_
        refine x_callV hm rfl rfl (t143 (by omega) (by omega)) ?_
        refine x_istore_n hm rfl rfl ?_
        refine x_goto hm rfl (t := 2) rfl ?_
        refine ev_mono (ih _ (hang_next hW h8 hrk hk hm2) (by omega)) ?_
        rintro r D ⟨v, e1, e2, h01, hnr⟩
        refine ⟨v, e1, e2, h01, fun e j hj he hR => ?_⟩
        obtain rfl := jI_inj (by omega) (by omega) he
        obtain ⟨f, hf⟩ := hR
        cases f with
        | zero => exact hf
        | succ f =>
          rcases hf with e3 | ⟨w, hw, e3, hf⟩
          · exact hno (by rw [e3])
          · exact hnr e w (hrk _ w hk hw e3).1 e3 ⟨f, hf⟩
theorem t154 {t o nt : Nat} (hI : Inv M) (hnt : M 67 1 = nI nt) (h8 : nt ≤ 8) (ht : t < nt) (ho : o < 8) : ∃ v, mT X 154 [.ref 66, .int (nI t), .int (nI o)] (con M) (some (.int v)) (con M) ∧ ((v = nI 0 ∨ v = nI 1) ∧ (v = nI 0 → ¬ Rch (M 67) o t)) := by
  refine te_of (row := _) rfl (Nat.le_of_ble_eq_true rfl) ?_
  have hm : mMet 154 = some _ := rfl
  obtain ⟨rk, hrk⟩ := hI.2.1 nt h8 hnt
  refine x_iload_n hm rfl rfl ?_
  refine x_istore_n hm rfl rfl ?_
  refine ev_mono (l154 ho hI.1 h8 hrk (rk t + 2) _ (Or.inr ⟨t, ht, rfl, by omega⟩) (by omega)) ?_
  rintro r D ⟨v, e1, e2, h01, hnr⟩
  exact ⟨v, e1, e2, h01, fun e => hnr e t ht rfl⟩
theorem l195 {t0 : Int32} {nt : Nat} {rk : Nat → Nat} (hW : Wf M) (h8 : nt ≤ 8) (hrk : ∀ t u, t < nt → u ≤ 7 → M 67 (14 + 6 * t + 5) = nI u → u < nt ∧ rk u < rk t) : ∀ (n : Nat) (x s : Int32), (x < 0 ∨ ∃ k, k < nt ∧ x = nI k ∧ rk k + 1 < n) → 0 < n → mEv X (QI (fun _ M' => M' = M)) 195 24 [some (.ref 66), some (.int t0), some (.int s), some (.int x)] [] (con M) := by
  have hm : mMet 195 = some _ := rfl
  intro n
  induction n with
  | zero =>
    intro x s hx hn
    exact absurd hn (by omega)
  | succ n ih =>
    intro x s hx hn
    refine x_iload_n hm rfl rfl ?_
    refine x_if_lt hm rfl (t := 41) rfl (fun h1 => ?_) (fun h1 => ?_)
    · refine x_iload_n hm rfl rfl ?_
      refine x_iret hm rfl rfl (by first | rfl | exact bI_nar | decide) ?_
      exact ⟨_, _, rfl, rfl, rfl⟩
    · obtain ⟨k, hk, rfl, hm2⟩ := hx.resolve_left h1
      refine x_iinc hm rfl rfl (v := nI 1) (by decide) rfl ?_
      refine x_aload_n hm rfl rfl ?_
      refine x_iload_n hm rfl rfl ?_
      refine x_iconst hm rfl (v := nI 5) (by decide) ?_
      refine x_callV hm rfl rfl (t143 (by omega) (by omega)) ?_
      refine x_istore_n hm rfl rfl ?_
      refine x_goto hm rfl (t := 24) rfl ?_
      exact ih _ _ (hang_next hW h8 hrk hk hm2) (by omega)
theorem t195 {a1 : Int32} (hI : Inv M) : ∃ v M', mT X 195 [.ref 66, .int a1] (con M) (some (.int v)) (con M') ∧ Iq M M' := by
  refine ti_of (row := _) rfl (Nat.le_of_ble_eq_true rfl) ?_
  have hm : mMet 195 = some _ := rfl
  obtain ⟨nt, hn8, hnt⟩ := hI.1.nt
  obtain ⟨rk, hrk⟩ := hI.2.1 nt hn8 hnt
  refine x_aload_n hm rfl rfl ?_
  refine x_iload_n hm rfl rfl ?_
  refine x_callV hm rfl rfl (t139) ?_
  refine x_if_ne hm rfl (t := 15) rfl (fun h1 => ?_) (fun h1 => ?_)
  · obtain ⟨t, ht, rfl⟩ := in_k hnt (by omega) (bI_ne0 h1)
    refine x_iconst hm rfl (v := nI 0) (by decide) ?_
    refine x_istore_n hm rfl rfl ?_
    refine x_aload_n hm rfl rfl ?_
    refine x_iload_n hm rfl rfl ?_
    refine x_iconst hm rfl (v := nI 5) (by decide) ?_
    refine x_callV hm rfl rfl (t143 (by omega) (by omega)) ?_
    refine x_istore_n hm rfl rfl ?_
    exact ev_iqe hI (l195 hI.1 hn8 hrk (rk t + 2) _ _ (hang_next hI.1 hn8 hrk ht (by omega)) (by omega))
  · refine x_aload_n hm rfl rfl ?_
    refine x_ldcI hm rfl (v := (-1000001 : Int32)) (by decide +kernel) ?_
    refine x_cVi hm rfl rfl (t135 (by decide +kernel)) (fun v2 M2 r2 => ?_)
    refine x_iret hm rfl rfl (by first | rfl | exact bI_nar | decide) ?_
    exact ⟨_, _, rfl, rfl, by first | exact Iq.rf hI | exact (r1.2.iq hI) | exact (r2.2.iq hI) | exact (r3.2.iq hI) | exact (r4.2.iq hI) | exact (r1.iq hI) | exact (r2.iq hI) | exact (r3.iq hI) | exact (r4.iq hI)⟩
theorem l194 {t : Nat} (hI : Inv M) (ht : t < 8) {nb : Nat} (hnb : M 67 1 = nI nb) (h8 : nb ≤ 8) : ∀ (n k : Nat) (s : Int32), nb - k < n → k ≤ nb → mEv X (QE M (fun _ => True)) 194 4 [some (.ref 66), some (.int (nI t)), some (.int s), some (.int (nI k))] [] (con M) := by
  have hm : mMet 194 = some _ := rfl
  intro n
  induction n with
  | zero =>
    intro k s hkn hkb
    omega
  | succ n ih =>
    intro k s hkn hkb
    refine x_iload_n hm rfl rfl ?_
    refine x_aload_n hm rfl rfl ?_
    refine x_getf hm rfl (gR rfl rfl) ?_
    refine x_iconst hm rfl (v := nI 1) (by decide) ?_
    refine x_iald hm rfl (lI rfl (by omega) (by decide)) ?_
    rw [hnb]
    refine x_icmp_ge hm rfl (t := 39) rfl (fun h1 => ?_) (fun h1 => ?_)
    · refine x_iload_n hm rfl rfl ?_
      refine x_iret hm rfl rfl (by first | rfl | exact bI_nar | decide) ?_
      exact ⟨_, rfl, rfl, trivial⟩
    · have hk : k < nb := Nat.lt_of_not_le fun h => h1 (nI_le h (by omega))
      refine x_iload_n hm rfl rfl ?_
      refine x_aload_n hm rfl rfl ?_
      refine x_iload_n hm rfl rfl ?_
      refine x_iload_n hm rfl rfl ?_
      refine x_cVe hm rfl rfl (t154 hI hnb h8 hk (by omega)) (fun v2 r2 => ?_)
      refine x_if_eq hm rfl (t := 30) rfl (fun h3 => ?_) (fun h3 => ?_)
      · refine x_iconst hm rfl (v := nI 0) (by decide) ?_
        refine x_ior hm rfl ?_
        refine x_istore_n hm rfl rfl ?_
        refine x_iinc hm rfl rfl (v := nI 1) (by decide) rfl ?_
        rw [jI_add]
        refine x_goto hm rfl (t := 4) rfl ?_
        exact ih _ _ (by omega) (by omega)
      · refine x_iconst hm rfl (v := nI 1) (by decide) ?_
        refine x_iload_n hm rfl rfl ?_
        refine x_ishl hm rfl ?_
        refine x_goto hm rfl (t := 31) rfl ?_
        refine x_ior hm rfl ?_
        refine x_istore_n hm rfl rfl ?_
        refine x_iinc hm rfl rfl (v := nI 1) (by decide) rfl ?_
        rw [jI_add]
        refine x_goto hm rfl (t := 4) rfl ?_
        exact ih _ _ (by omega) (by omega)
theorem t194 {t : Nat} (hI : Inv M) (ht : t < 8) : ∃ v, mT X 194 [.ref 66, .int (nI t)] (con M) (some (.int v)) (con M) ∧ True := by
  refine te_of (row := _) rfl (Nat.le_of_ble_eq_true rfl) ?_
  have hm : mMet 194 = some _ := rfl
  obtain ⟨nb, h8, hnb⟩ := hI.1.nt
  refine x_iconst hm rfl (v := nI 0) (by decide) ?_
  refine x_istore_n hm rfl rfl ?_
  refine x_iconst hm rfl (v := nI 0) (by decide) ?_
  refine x_istore_n hm rfl rfl ?_
  exact l194 hI ht hnb h8 _ 0 _ (Nat.lt_succ_self _) (Nat.zero_le _)
theorem t193 {a1 : Int32} (hI : Inv M) : ∃ v M', mT X 193 [.ref 66, .int a1] (con M) (some (.int v)) (con M') ∧ Iq M M' := by
  refine ti_of (row := _) rfl (Nat.le_of_ble_eq_true rfl) ?_
  have hm : mMet 193 = some _ := rfl
  obtain ⟨nt, hn8, hnt⟩ := hI.1.nt
  refine x_aload_n hm rfl rfl ?_
  refine x_iload_n hm rfl rfl ?_
  refine x_callV hm rfl rfl (t139) ?_
  refine x_if_eq hm rfl (t := 16) rfl (fun h1 => ?_) (fun h1 => ?_)
  · refine x_aload_n hm rfl rfl ?_
    refine x_ldcI hm rfl (v := (-1000001 : Int32)) (by decide +kernel) ?_
    refine x_cVi hm rfl rfl (t135 (by decide +kernel)) (fun v2 M2 r2 => ?_)
    refine x_iret hm rfl rfl (by first | rfl | exact bI_nar | decide) ?_
    exact ⟨_, _, rfl, rfl, by first | exact Iq.rf hI | exact (r1.2.iq hI) | exact (r2.2.iq hI) | exact (r3.2.iq hI) | exact (r4.2.iq hI) | exact (r1.iq hI) | exact (r2.iq hI) | exact (r3.iq hI) | exact (r4.iq hI)⟩
  · obtain ⟨t, ht, rfl⟩ := in_k hnt (by omega) (bI_ne0 h1)
    refine x_aload_n hm rfl rfl ?_
    refine x_iload_n hm rfl rfl ?_
    refine x_cVe hm rfl rfl (t194 hI (by omega)) (fun v3 r3 => ?_)
    refine x_goto hm rfl (t := 22) rfl ?_
    refine x_iret hm rfl rfl (by first | rfl | exact bI_nar | decide) ?_
    exact ⟨_, _, rfl, rfl, by first | exact Iq.rf hI | exact (r1.2.iq hI) | exact (r2.2.iq hI) | exact (r3.2.iq hI) | exact (r4.2.iq hI) | exact (r1.iq hI) | exact (r2.iq hI) | exact (r3.iq hI) | exact (r4.iq hI)⟩
theorem l196 (hI : Inv M) {nb : Nat} (hnb : M 67 1 = nI nb) (h8 : nb ≤ 8) : ∀ (n k : Nat) (b s : Int32) (x4 : Option Value), nb - k < n → k ≤ nb → mEv X (QI (fun _ M' => Iq M M')) 196 6 [some (.ref 66), some (.int b), some (.int s), some (.int (nI k)), x4] [] (con M) := by
  have hm : mMet 196 = some _ := rfl
  intro n
  induction n with
  | zero =>
    intro k b s x4 hkn hkb
    omega
  | succ n ih =>
    intro k b s x4 hkn hkb
    refine x_iload_n hm rfl rfl ?_
    refine x_aload_n hm rfl rfl ?_
    refine x_getf hm rfl (gR rfl rfl) ?_
    refine x_iconst hm rfl (v := nI 1) (by decide) ?_
    refine x_iald hm rfl (lI rfl (by omega) (by decide)) ?_
    rw [hnb]
    refine x_icmp_ge hm rfl (t := 51) rfl (fun h1 => ?_) (fun h1 => ?_)
    · refine x_aload_n hm rfl rfl ?_
      refine x_iload_n hm rfl rfl ?_
      refine x_cVi hm rfl rfl (t177) (fun v2 M2 r2 => ?_)
      refine x_iret hm rfl rfl (by first | rfl | exact bI_nar | decide) ?_
      exact ⟨_, _, rfl, rfl, by first | exact Iq.rf hI | exact (r1.2.iq hI) | exact (r2.2.iq hI) | exact (r3.2.iq hI) | exact (r4.2.iq hI) | exact (r1.iq hI) | exact (r2.iq hI) | exact (r3.iq hI) | exact (r4.iq hI)⟩
    · have hk : k < nb := Nat.lt_of_not_le fun h => h1 (nI_le h (by omega))
      refine x_aload_n hm rfl rfl ?_
      refine x_iload_n hm rfl rfl ?_
      refine x_cVe hm rfl rfl (t194 hI (by omega)) (fun v3 r3 => ?_)
      refine x_cSe hm rfl rfl (t168) (fun v4 r4 => ?_)
      refine x_istore hm rfl rfl ?_
      refine x_iload hm rfl rfl ?_
      refine x_iload_n hm rfl rfl ?_
      refine x_icmp_le hm rfl (t := 36) rfl (fun h5 => ?_) (fun h5 => ?_)
      · refine x_iload_n hm rfl rfl ?_
        refine x_istore_n hm rfl rfl ?_
        refine x_iload_n hm rfl rfl ?_
        refine x_iload hm rfl rfl ?_
        refine x_lib hm rfl rfl ?_
        dsimp only
        refine x_istore_n hm rfl rfl ?_
        refine x_iinc hm rfl rfl (v := nI 1) (by decide) rfl ?_
        rw [jI_add]
        refine x_goto hm rfl (t := 6) rfl ?_
        exact ih _ _ _ _ (by omega) (by omega)
      · refine x_iload_n hm rfl rfl ?_
        refine x_goto hm rfl (t := 37) rfl ?_
        refine x_istore_n hm rfl rfl ?_
        refine x_iload_n hm rfl rfl ?_
        refine x_iload hm rfl rfl ?_
        refine x_lib hm rfl rfl ?_
        dsimp only
        refine x_istore_n hm rfl rfl ?_
        refine x_iinc hm rfl rfl (v := nI 1) (by decide) rfl ?_
        rw [jI_add]
        refine x_goto hm rfl (t := 6) rfl ?_
        exact ih _ _ _ _ (by omega) (by omega)
theorem t196  (hI : Inv M) : ∃ v M', mT X 196 [.ref 66] (con M) (some (.int v)) (con M') ∧ Iq M M' := by
  refine ti_of (row := _) rfl (Nat.le_of_ble_eq_true rfl) ?_
  have hm : mMet 196 = some _ := rfl
  obtain ⟨nb, h8, hnb⟩ := hI.1.nt
  refine x_iconst hm rfl (v := (-1 : Int32)) (by decide) ?_
  refine x_istore_n hm rfl rfl ?_
  refine x_iconst hm rfl (v := nI 0) (by decide) ?_
  refine x_istore_n hm rfl rfl ?_
  refine x_iconst hm rfl (v := nI 0) (by decide) ?_
  refine x_istore_n hm rfl rfl ?_
  exact l196 hI hnb h8 _ 0 _ _ _ (Nat.lt_succ_self _) (Nat.zero_le _)
theorem l197 (hW : Wf M) {nb : Nat} (hnb : M 67 1 = nI nb) (h8 : nb ≤ 8) : ∀ (n k : Nat) (s : Int32), nb - k < n → k ≤ nb → mEv X (QE M (fun _ => True)) 197 4 [some (.ref 66), some (.int s), some (.int (nI k))] [] (con M) := by
  have hm : mMet 197 = some _ := rfl
  intro n
  induction n with
  | zero =>
    intro k s hkn hkb
    omega
  | succ n ih =>
    intro k s hkn hkb
    refine x_iload_n hm rfl rfl ?_
    refine x_aload_n hm rfl rfl ?_
    refine x_getf hm rfl (gR rfl rfl) ?_
    refine x_iconst hm rfl (v := nI 1) (by decide) ?_
    refine x_iald hm rfl (lI rfl (by omega) (by decide)) ?_
    rw [hnb]
    refine x_icmp_ge hm rfl (t := 39) rfl (fun h1 => ?_) (fun h1 => ?_)
    · refine x_iload_n hm rfl rfl ?_
      refine x_iret hm rfl rfl (by first | rfl | exact bI_nar | decide) ?_
      exact ⟨_, rfl, rfl, trivial⟩
    · have hk : k < nb := Nat.lt_of_not_le fun h => h1 (nI_le h (by omega))
      refine x_iload_n hm rfl rfl ?_
      refine x_aload_n hm rfl rfl ?_
      refine x_iload_n hm rfl rfl ?_
      refine x_iconst hm rfl (v := nI 5) (by decide) ?_
      refine x_callV hm rfl rfl (t143 (by omega) (by omega)) ?_
      refine x_if_ge hm rfl (t := 30) rfl (fun h2 => ?_) (fun h2 => ?_)
      · refine x_iconst hm rfl (v := nI 0) (by decide) ?_
        refine x_ior hm rfl ?_
        refine x_istore_n hm rfl rfl ?_
        refine x_iinc hm rfl rfl (v := nI 1) (by decide) rfl ?_
        rw [jI_add]
        refine x_goto hm rfl (t := 4) rfl ?_
        exact ih _ _ (by omega) (by omega)
      · refine x_iconst hm rfl (v := nI 1) (by decide) ?_
        refine x_iload_n hm rfl rfl ?_
        refine x_ishl hm rfl ?_
        refine x_goto hm rfl (t := 31) rfl ?_
        refine x_ior hm rfl ?_
        refine x_istore_n hm rfl rfl ?_
        refine x_iinc hm rfl rfl (v := nI 1) (by decide) rfl ?_
        rw [jI_add]
        refine x_goto hm rfl (t := 4) rfl ?_
        exact ih _ _ (by omega) (by omega)
theorem t197 (hW : Wf M) : ∃ v, mT X 197 [.ref 66] (con M) (some (.int v)) (con M) ∧ True := by
  refine te_of (row := _) rfl (Nat.le_of_ble_eq_true rfl) ?_
  have hm : mMet 197 = some _ := rfl
  obtain ⟨nb, h8, hnb⟩ := hW.nt
  refine x_iconst hm rfl (v := nI 0) (by decide) ?_
  refine x_istore_n hm rfl rfl ?_
  refine x_iconst hm rfl (v := nI 0) (by decide) ?_
  refine x_istore_n hm rfl rfl ?_
  exact l197 hW hnb h8 _ 0 _ (Nat.lt_succ_self _) (Nat.zero_le _)
theorem l200 {p : Nat} {a2 : Int32} (hW : Wf M) (hp : p < 8) {nb : Nat} (hnb : M 67 1 = nI nb) (h8 : nb ≤ 8) : ∀ (n k : Nat) (s : Int32), nb - k < n → k ≤ nb → mEv X (QE M (fun _ => True)) 200 5 [some (.ref 66), some (.int (nI p)), some (.int a2), some (.int s), some (.int (nI k))] [] (con M) := by
  have hm : mMet 200 = some _ := rfl
  intro n
  induction n with
  | zero =>
    intro k s hkn hkb
    omega
  | succ n ih =>
    intro k s hkn hkb
    refine x_iload hm rfl rfl ?_
    refine x_aload_n hm rfl rfl ?_
    refine x_getf hm rfl (gR rfl rfl) ?_
    refine x_iconst hm rfl (v := nI 1) (by decide) ?_
    refine x_iald hm rfl (lI rfl (by omega) (by decide)) ?_
    rw [hnb]
    refine x_icmp_ge hm rfl (t := 46) rfl (fun h1 => ?_) (fun h1 => ?_)
    · refine x_iload_n hm rfl rfl ?_
      refine x_iret hm rfl rfl (by first | rfl | exact bI_nar | decide) ?_
      exact ⟨_, rfl, rfl, trivial⟩
    · have hk : k < nb := Nat.lt_of_not_le fun h => h1 (nI_le h (by omega))
      refine x_iload_n hm rfl rfl ?_
      refine x_iload_n hm rfl rfl ?_
      refine x_iload hm rfl rfl ?_
      refine x_cSe hm rfl rfl (t191) (fun v2 r2 => ?_)
      refine x_if_eq hm rfl (t := 37) rfl (fun h3 => ?_) (fun h3 => ?_)
      · refine x_iconst hm rfl (v := nI 0) (by decide) ?_
        refine x_iadd hm rfl ?_
        refine x_istore_n hm rfl rfl ?_
        refine x_iinc hm rfl rfl (v := nI 1) (by decide) rfl ?_
        rw [jI_add]
        refine x_goto hm rfl (t := 5) rfl ?_
        exact ih _ _ (by omega) (by omega)
      · refine x_aload_n hm rfl rfl ?_
        refine x_iload_n hm rfl rfl ?_
        refine x_iload hm rfl rfl ?_
        refine x_iconst hm rfl (v := (-1 : Int32)) (by decide) ?_
        refine x_cVe hm rfl rfl (t145 hW (by omega) (by omega) okM1) (fun v4 r4 => ?_)
        refine x_goto hm rfl (t := 38) rfl ?_
        refine x_iadd hm rfl ?_
        refine x_istore_n hm rfl rfl ?_
        refine x_iinc hm rfl rfl (v := nI 1) (by decide) rfl ?_
        rw [jI_add]
        refine x_goto hm rfl (t := 5) rfl ?_
        exact ih _ _ (by omega) (by omega)
theorem t200 {p : Nat} {a2 : Int32} (hW : Wf M) (hp : p < 8) : ∃ v, mT X 200 [.ref 66, .int (nI p), .int a2] (con M) (some (.int v)) (con M) ∧ True := by
  refine te_of (row := _) rfl (Nat.le_of_ble_eq_true rfl) ?_
  have hm : mMet 200 = some _ := rfl
  obtain ⟨nb, h8, hnb⟩ := hW.nt
  refine x_iconst hm rfl (v := nI 0) (by decide) ?_
  refine x_istore_n hm rfl rfl ?_
  refine x_iconst hm rfl (v := nI 0) (by decide) ?_
  refine x_istore hm rfl rfl ?_
  exact l200 hW hp hnb h8 _ 0 _ (Nat.lt_succ_self _) (Nat.zero_le _)
theorem t199 {v : Int32} {nt : Nat} (hnt : M 67 1 = nI nt) (h8 : nt ≤ 8) : mT X 199 [.ref 66, .int v] (con M) (some (.int (bI (nI 0 ≤ v ∧ v ≤ nI (2 ^ nt) - nI 1)))) (con M) := by
  refine mT.of (row := _) rfl (Nat.le_of_ble_eq_true rfl) ?_
  have hm : mMet 199 = some _ := rfl
  refine x_iload_n hm rfl rfl ?_
  refine x_iconst hm rfl (v := nI 0) (by decide) ?_
  refine x_iconst hm rfl (v := nI 1) (by decide) ?_
  refine x_aload_n hm rfl rfl ?_
  refine x_getf hm rfl (gR rfl rfl) ?_
  refine x_iconst hm rfl (v := nI 1) (by decide) ?_
  refine x_iald hm rfl (lI rfl (by omega) (by decide)) ?_
  rw [hnt]
  refine x_ishl hm rfl ?_
  rw [shl_k nt h8]
  refine x_iconst hm rfl (v := nI 1) (by decide) ?_
  refine x_isub hm rfl ?_
  refine x_callS hm rfl rfl (t133) ?_
  refine x_iret hm rfl rfl (by first | rfl | exact bI_nar | decide) ?_
  exact qt rfl
theorem t198 {a1 a2 : Int32} (hI : Inv M) : ∃ v M', mT X 198 [.ref 66, .int a1, .int a2] (con M) (some (.int v)) (con M') ∧ Iq M M' := by
  refine ti_of (row := _) rfl (Nat.le_of_ble_eq_true rfl) ?_
  have hm : mMet 198 = some _ := rfl
  obtain ⟨np, hp8, hnp⟩ := hI.1.np
  obtain ⟨nt, hn8, hnt⟩ := hI.1.nt
  have hpw := pow_k hn8
  refine x_aload_n hm rfl rfl ?_
  refine x_iload_n hm rfl rfl ?_
  refine x_callV hm rfl rfl (t153) ?_
  refine x_if_eq hm rfl (t := 25) rfl (fun h1 => ?_) (fun h1 => ?_)
  · refine x_aload_n hm rfl rfl ?_
    refine x_ldcI hm rfl (v := (-1000001 : Int32)) (by decide +kernel) ?_
    refine x_cVi hm rfl rfl (t135 (by decide +kernel)) (fun v2 M2 r2 => ?_)
    refine x_iret hm rfl rfl (by first | rfl | exact bI_nar | decide) ?_
    exact ⟨_, _, rfl, rfl, by first | exact Iq.rf hI | exact (r1.2.iq hI) | exact (r2.2.iq hI) | exact (r3.2.iq hI) | exact (r4.2.iq hI) | exact (r1.iq hI) | exact (r2.iq hI) | exact (r3.iq hI) | exact (r4.iq hI)⟩
  · obtain ⟨p, hp, rfl⟩ := in_k hnp (by omega) (bI_ne0 h1)
    refine x_aload_n hm rfl rfl ?_
    refine x_iload_n hm rfl rfl ?_
    refine x_callV hm rfl rfl (t199 hnt hn8) ?_
    refine x_if_eq hm rfl (t := 25) rfl (fun h3 => ?_) (fun h3 => ?_)
    · refine x_aload_n hm rfl rfl ?_
      refine x_ldcI hm rfl (v := (-1000001 : Int32)) (by decide +kernel) ?_
      refine x_cVi hm rfl rfl (t135 (by decide +kernel)) (fun v4 M4 r4 => ?_)
      refine x_iret hm rfl rfl (by first | rfl | exact bI_nar | decide) ?_
      exact ⟨_, _, rfl, rfl, by first | exact Iq.rf hI | exact (r1.2.iq hI) | exact (r2.2.iq hI) | exact (r3.2.iq hI) | exact (r4.2.iq hI) | exact (r1.iq hI) | exact (r2.iq hI) | exact (r3.iq hI) | exact (r4.iq hI)⟩
    · obtain ⟨s, hs, rfl⟩ := in_k rfl (by omega) (bI_ne0 h3)
      refine x_aload_n hm rfl rfl ?_
      refine x_iload_n hm rfl rfl ?_
      refine x_iload_n hm rfl rfl ?_
      refine x_cVe hm rfl rfl (t200 hI.1 (by omega)) (fun v5 r5 => ?_)
      refine x_goto hm rfl (t := 31) rfl ?_
      refine x_iret hm rfl rfl (by first | rfl | exact bI_nar | decide) ?_
      exact ⟨_, _, rfl, rfl, by first | exact Iq.rf hI | exact (r1.2.iq hI) | exact (r2.2.iq hI) | exact (r3.2.iq hI) | exact (r4.2.iq hI) | exact (r1.iq hI) | exact (r2.iq hI) | exact (r3.iq hI) | exact (r4.iq hI)⟩
theorem t202 {a1 a2 a3 : Int32} (hI : Inv M) : ∃ v, mT X 202 [.ref 66, .int a1, .int a2, .int a3] (con M) (some (.int v)) (con M) ∧ (v = nI 0 ∨ (v = nI 1 ∧ ∃ p q s, p < 8 ∧ q < 8 ∧ s < 256 ∧ a1 = nI p ∧ a2 = nI q ∧ a3 = nI s)) := by
  refine te_of (row := _) rfl (Nat.le_of_ble_eq_true rfl) ?_
  have hm : mMet 202 = some _ := rfl
  obtain ⟨np, hp8, hnp⟩ := hI.1.np
  obtain ⟨nt, hn8, hnt⟩ := hI.1.nt
  have hpw := pow_k hn8
  refine x_aload_n hm rfl rfl ?_
  refine x_iload_n hm rfl rfl ?_
  refine x_callV hm rfl rfl (t153) ?_
  refine x_if_eq hm rfl (t := 33) rfl (fun h1 => ?_) (fun h1 => ?_)
  · refine x_iconst hm rfl (v := nI 0) (by decide) ?_
    refine x_iret hm rfl rfl (by first | rfl | exact bI_nar | decide) ?_
    exact ⟨_, rfl, rfl, by first | exact Or.inl rfl | exact Or.inr ⟨rfl, p, q, s, by omega, by omega, by omega, rfl, rfl, rfl⟩⟩
  · obtain ⟨p, hp, rfl⟩ := in_k hnp (by omega) (bI_ne0 h1)
    refine x_aload_n hm rfl rfl ?_
    refine x_iload_n hm rfl rfl ?_
    refine x_callV hm rfl rfl (t153) ?_
    refine x_if_eq hm rfl (t := 33) rfl (fun h2 => ?_) (fun h2 => ?_)
    · refine x_iconst hm rfl (v := nI 0) (by decide) ?_
      refine x_iret hm rfl rfl (by first | rfl | exact bI_nar | decide) ?_
      exact ⟨_, rfl, rfl, by first | exact Or.inl rfl | exact Or.inr ⟨rfl, p, q, s, by omega, by omega, by omega, rfl, rfl, rfl⟩⟩
    · obtain ⟨q, hq, rfl⟩ := in_k hnp (by omega) (bI_ne0 h2)
      refine x_iload_n hm rfl rfl ?_
      refine x_iload_n hm rfl rfl ?_
      refine x_icmp_eq hm rfl (t := 33) rfl (fun h3 => ?_) (fun h3 => ?_)
      · refine x_iconst hm rfl (v := nI 0) (by decide) ?_
        refine x_iret hm rfl rfl (by first | rfl | exact bI_nar | decide) ?_
        exact ⟨_, rfl, rfl, by first | exact Or.inl rfl | exact Or.inr ⟨rfl, p, q, s, by omega, by omega, by omega, rfl, rfl, rfl⟩⟩
      · refine x_aload_n hm rfl rfl ?_
        refine x_iload_n hm rfl rfl ?_
        refine x_callV hm rfl rfl (t199 hnt hn8) ?_
        refine x_if_eq hm rfl (t := 33) rfl (fun h4 => ?_) (fun h4 => ?_)
        · refine x_iconst hm rfl (v := nI 0) (by decide) ?_
          refine x_iret hm rfl rfl (by first | rfl | exact bI_nar | decide) ?_
          exact ⟨_, rfl, rfl, by first | exact Or.inl rfl | exact Or.inr ⟨rfl, p, q, s, by omega, by omega, by omega, rfl, rfl, rfl⟩⟩
        · obtain ⟨s, hs, rfl⟩ := in_k rfl (by omega) (bI_ne0 h4)
          refine x_iconst hm rfl (v := nI 1) (by decide) ?_
          refine x_goto hm rfl (t := 34) rfl ?_
          refine x_iret hm rfl rfl (by first | rfl | exact bI_nar | decide) ?_
          exact ⟨_, rfl, rfl, by first | exact Or.inl rfl | exact Or.inr ⟨rfl, p, q, s, by omega, by omega, by omega, rfl, rfl, rfl⟩⟩
theorem t203 {p q : Nat} {a3 a4 : Int32} (hI : Inv M) (hp : p < 8) (hq : q < 8) : ∃ v, mT X 203 [.ref 66, .int (nI p), .int (nI q), .int a3, .int a4] (con M) (some (.int v)) (con M) ∧ (v = nI 0 ∨ v = nI 1) := by
  refine te_of (row := _) rfl (Nat.le_of_ble_eq_true rfl) ?_
  have hm : mMet 203 = some _ := rfl
  refine x_aload_n hm rfl rfl ?_
  refine x_iload_n hm rfl rfl ?_
  refine x_iload hm rfl rfl ?_
  refine x_cVe hm rfl rfl (t200 hI.1 (by omega)) (fun v1 r1 => ?_)
  refine x_aload_n hm rfl rfl ?_
  refine x_iload_n hm rfl rfl ?_
  refine x_iload_n hm rfl rfl ?_
  refine x_cVe hm rfl rfl (t200 hI.1 (by omega)) (fun v2 r2 => ?_)
  refine x_icmp_gt hm rfl (t := 36) rfl (fun h3 => ?_) (fun h3 => ?_)
  · refine x_iconst hm rfl (v := nI 0) (by decide) ?_
    refine x_iret hm rfl rfl (by first | rfl | exact bI_nar | decide) ?_
    exact ⟨_, rfl, rfl, by first | exact Or.inl rfl | exact Or.inr rfl⟩
  · refine x_aload_n hm rfl rfl ?_
    refine x_iload_n hm rfl rfl ?_
    refine x_iload_n hm rfl rfl ?_
    refine x_cVe hm rfl rfl (t200 hI.1 (by omega)) (fun v4 r4 => ?_)
    refine x_aload_n hm rfl rfl ?_
    refine x_iload_n hm rfl rfl ?_
    refine x_iload hm rfl rfl ?_
    refine x_cVe hm rfl rfl (t200 hI.1 (by omega)) (fun v5 r5 => ?_)
    refine x_icmp_gt hm rfl (t := 36) rfl (fun h6 => ?_) (fun h6 => ?_)
    · refine x_iconst hm rfl (v := nI 0) (by decide) ?_
      refine x_iret hm rfl rfl (by first | rfl | exact bI_nar | decide) ?_
      exact ⟨_, rfl, rfl, by first | exact Or.inl rfl | exact Or.inr rfl⟩
    · refine x_iconst hm rfl (v := nI 1) (by decide) ?_
      refine x_goto hm rfl (t := 37) rfl ?_
      refine x_iret hm rfl rfl (by first | rfl | exact bI_nar | decide) ?_
      exact ⟨_, rfl, rfl, by first | exact Or.inl rfl | exact Or.inr rfl⟩
theorem l201 {p q s : Nat} (hI : Inv M) (hp : p < 8) (hq : q < 8) : ∀ (n : Nat) (x b : Int32), (x.toInt + 1).toNat < n → mEv X (QI (fun _ M' => Iq M M')) 201 23 [some (.ref 66), some (.int (nI p)), some (.int (nI q)), some (.int (nI s)), some (.int b), some (.int x)] [] (con M) := by
  have hm : mMet 201 = some _ := rfl
  intro n
  induction n with
  | zero =>
    intro x b hx
    omega
  | succ n ih =>
    intro x b hx
    refine x_iload hm rfl rfl ?_
    refine x_if_lt hm rfl (t := 69) rfl (fun h1 => ?_) (fun h1 => ?_)
    · refine x_aload_n hm rfl rfl ?_
      refine x_iload hm rfl rfl ?_
      refine x_cVi hm rfl rfl (t177) (fun v2 M2 r2 => ?_)
      refine x_iret hm rfl rfl (by first | rfl | exact bI_nar | decide) ?_
      exact ⟨_, _, rfl, rfl, by first | exact Iq.rf hI | exact (r1.2.iq hI) | exact (r2.2.iq hI) | exact (r3.2.iq hI) | exact (r4.2.iq hI) | exact (r5.2.iq hI) | exact (r6.2.iq hI) | exact (r7.2.iq hI) | exact (r8.2.iq hI) | exact (r1.iq hI) | exact (r2.iq hI) | exact (r3.iq hI) | exact (r4.iq hI) | exact (r5.iq hI) | exact (r6.iq hI) | exact (r7.iq hI) | exact (r8.iq hI)⟩
    · have hx0 : ¬ x < 0 := h1
      have hd := dec_int hx0
      have hx1 : 0 ≤ x.toInt := by
        have := Int32.not_lt.mp hx0
        simpa using Int32.le_iff_toInt_le.mp this
      refine x_iload hm rfl rfl ?_
      refine x_iload_n hm rfl rfl ?_
      refine x_iconst hm rfl (v := (-1 : Int32)) (by decide) ?_
      refine x_ixor hm rfl ?_
      refine x_iand hm rfl ?_
      refine x_if_ne hm rfl (t := 59) rfl (fun h3 => ?_) (fun h3 => ?_)
      · refine x_iload hm rfl rfl ?_
        refine x_istore hm rfl rfl ?_
        refine x_iinc hm rfl rfl (v := (-1 : Int32)) (by decide) rfl ?_
        refine x_goto hm rfl (t := 23) rfl ?_
        exact ih _ _ (by omega)
      · refine x_aload_n hm rfl rfl ?_
        refine x_iload_n hm rfl rfl ?_
        refine x_iload_n hm rfl rfl ?_
        refine x_iload hm rfl rfl ?_
        refine x_iload_n hm rfl rfl ?_
        refine x_iload hm rfl rfl ?_
        refine x_iconst hm rfl (v := (-1 : Int32)) (by decide) ?_
        refine x_ixor hm rfl ?_
        refine x_iand hm rfl ?_
        refine x_cVe hm rfl rfl (t203 hI (by omega) (by omega)) (fun v4 r4 => ?_)
        refine x_if_eq hm rfl (t := 59) rfl (fun h5 => ?_) (fun h5 => ?_)
        · refine x_iload hm rfl rfl ?_
          refine x_istore hm rfl rfl ?_
          refine x_iinc hm rfl rfl (v := (-1 : Int32)) (by decide) rfl ?_
          refine x_goto hm rfl (t := 23) rfl ?_
          exact ih _ _ (by omega)
        · refine x_iload hm rfl rfl ?_
          refine x_goto hm rfl (t := 61) rfl ?_
          refine x_istore hm rfl rfl ?_
          refine x_iinc hm rfl rfl (v := (-1 : Int32)) (by decide) rfl ?_
          refine x_goto hm rfl (t := 23) rfl ?_
          exact ih _ _ (by omega)
theorem t201 {a1 a2 a3 : Int32} (hI : Inv M) : ∃ v M', mT X 201 [.ref 66, .int a1, .int a2, .int a3] (con M) (some (.int v)) (con M') ∧ Iq M M' := by
  refine ti_of (row := _) rfl (Nat.le_of_ble_eq_true rfl) ?_
  have hm : mMet 201 = some _ := rfl
  refine x_aload_n hm rfl rfl ?_
  refine x_iload_n hm rfl rfl ?_
  refine x_iload_n hm rfl rfl ?_
  refine x_iload_n hm rfl rfl ?_
  refine x_cVe hm rfl rfl (t202 hI) (fun v1 r1 => ?_)
  refine x_if_ne hm rfl (t := 17) rfl (fun h2 => ?_) (fun h2 => ?_)
  · obtain ⟨-, p, q, s, hp, hq, hs, rfl, rfl, rfl⟩ := r1.resolve_left (fun e => by subst e; exact h2 rfl)
    refine x_iconst hm rfl (v := (-1 : Int32)) (by decide) ?_
    refine x_istore hm rfl rfl ?_
    refine x_iload_n hm rfl rfl ?_
    refine x_istore hm rfl rfl ?_
    exact l201 hI hp hq _ _ _ (Nat.lt_succ_self _)
  · refine x_aload_n hm rfl rfl ?_
    refine x_ldcI hm rfl (v := (-1000001 : Int32)) (by decide +kernel) ?_
    refine x_cVi hm rfl rfl (t135 (by decide +kernel)) (fun v3 M3 r3 => ?_)
    refine x_iret hm rfl rfl (by first | rfl | exact bI_nar | decide) ?_
    exact ⟨_, _, rfl, rfl, by first | exact Iq.rf hI | exact (r1.2.iq hI) | exact (r2.2.iq hI) | exact (r3.2.iq hI) | exact (r4.2.iq hI) | exact (r5.2.iq hI) | exact (r1.iq hI) | exact (r2.iq hI) | exact (r3.iq hI) | exact (r4.iq hI) | exact (r5.iq hI)⟩
theorem l205 {p q s : Nat} (hI : Inv M) (hp : p < 8) (hq : q < 8) (hs : s < 256) : ∀ (n k : Nat) (b : Int32), s + 1 - k < n → k ≤ s + 1 → mEv X (QI (fun _ M' => Iq M M')) 205 6 [some (.ref 66), some (.int (nI p)), some (.int (nI q)), some (.int (nI s)), some (.int b), some (.int (nI k))] [] (con M) := by
  have hm : mMet 205 = some _ := rfl
  intro n
  induction n with
  | zero =>
    intro k b hkn hkb
    omega
  | succ n ih =>
    intro k b hkn hkb
    refine x_iload hm rfl rfl ?_
    refine x_iload_n hm rfl rfl ?_
    refine x_icmp_gt hm rfl (t := 54) rfl (fun h1 => ?_) (fun h1 => ?_)
    · refine x_iload hm rfl rfl ?_
      refine x_iret hm rfl rfl (by first | rfl | exact bI_nar | decide) ?_
      exact ⟨_, _, rfl, rfl, by first | exact Iq.rf hI | exact (r1.2.iq hI) | exact (r2.2.iq hI) | exact (r3.2.iq hI) | exact (r4.2.iq hI) | exact (r5.2.iq hI) | exact (r6.2.iq hI) | exact (r7.2.iq hI) | exact (r8.2.iq hI) | exact (r1.iq hI) | exact (r2.iq hI) | exact (r3.iq hI) | exact (r4.iq hI) | exact (r5.iq hI) | exact (r6.iq hI) | exact (r7.iq hI) | exact (r8.iq hI)⟩
    · have hk : k ≤ s := Nat.le_of_not_lt fun h => h1 (nI_lt h (by omega))
      refine x_iload hm rfl rfl ?_
      refine x_iload hm rfl rfl ?_
      refine x_iload_n hm rfl rfl ?_
      refine x_iconst hm rfl (v := (-1 : Int32)) (by decide) ?_
      refine x_ixor hm rfl ?_
      refine x_iand hm rfl ?_
      refine x_if_ne hm rfl (t := 44) rfl (fun h2 => ?_) (fun h2 => ?_)
      · refine x_iconst hm rfl (v := nI 0) (by decide) ?_
        refine x_iadd hm rfl ?_
        refine x_istore hm rfl rfl ?_
        refine x_iinc hm rfl rfl (v := nI 1) (by decide) rfl ?_
        rw [jI_add]
        refine x_goto hm rfl (t := 6) rfl ?_
        exact ih _ _ (by omega) (by omega)
      · refine x_aload_n hm rfl rfl ?_
        refine x_iload_n hm rfl rfl ?_
        refine x_iload_n hm rfl rfl ?_
        refine x_iload hm rfl rfl ?_
        refine x_iload_n hm rfl rfl ?_
        refine x_iload hm rfl rfl ?_
        refine x_iconst hm rfl (v := (-1 : Int32)) (by decide) ?_
        refine x_ixor hm rfl ?_
        refine x_iand hm rfl ?_
        refine x_cVe hm rfl rfl (t203 hI (by omega) (by omega)) (fun v3 r3 => ?_)
        refine x_if_eq hm rfl (t := 44) rfl (fun h4 => ?_) (fun h4 => ?_)
        · refine x_iconst hm rfl (v := nI 0) (by decide) ?_
          refine x_iadd hm rfl ?_
          refine x_istore hm rfl rfl ?_
          refine x_iinc hm rfl rfl (v := nI 1) (by decide) rfl ?_
          rw [jI_add]
          refine x_goto hm rfl (t := 6) rfl ?_
          exact ih _ _ (by omega) (by omega)
        · refine x_iconst hm rfl (v := nI 1) (by decide) ?_
          refine x_goto hm rfl (t := 45) rfl ?_
          refine x_iadd hm rfl ?_
          refine x_istore hm rfl rfl ?_
          refine x_iinc hm rfl rfl (v := nI 1) (by decide) rfl ?_
          rw [jI_add]
          refine x_goto hm rfl (t := 6) rfl ?_
          exact ih _ _ (by omega) (by omega)
theorem t205 {p q s : Nat} (hp : p < 8) (hq : q < 8) (hs : s < 256) (hI : Inv M) : ∃ v M', mT X 205 [.ref 66, .int (nI p), .int (nI q), .int (nI s)] (con M) (some (.int v)) (con M') ∧ Iq M M' := by
  refine ti_of (row := _) rfl (Nat.le_of_ble_eq_true rfl) ?_
  have hm : mMet 205 = some _ := rfl
  refine x_iconst hm rfl (v := nI 0) (by decide) ?_
  refine x_istore hm rfl rfl ?_
  refine x_iconst hm rfl (v := nI 0) (by decide) ?_
  refine x_istore hm rfl rfl ?_
  exact l205 hI hp hq hs _ 0 _ (Nat.lt_succ_self _) (Nat.zero_le _)
theorem t204 {a1 a2 a3 : Int32} (hI : Inv M) : ∃ v M', mT X 204 [.ref 66, .int a1, .int a2, .int a3] (con M) (some (.int v)) (con M') ∧ Iq M M' := by
  refine ti_of (row := _) rfl (Nat.le_of_ble_eq_true rfl) ?_
  have hm : mMet 204 = some _ := rfl
  refine x_aload_n hm rfl rfl ?_
  refine x_iload_n hm rfl rfl ?_
  refine x_iload_n hm rfl rfl ?_
  refine x_iload_n hm rfl rfl ?_
  refine x_cVe hm rfl rfl (t202 hI) (fun v1 r1 => ?_)
  refine x_if_eq hm rfl (t := 20) rfl (fun h2 => ?_) (fun h2 => ?_)
  · refine x_aload_n hm rfl rfl ?_
    refine x_ldcI hm rfl (v := (-1000001 : Int32)) (by decide +kernel) ?_
    refine x_cVi hm rfl rfl (t135 (by decide +kernel)) (fun v3 M3 r3 => ?_)
    refine x_iret hm rfl rfl (by first | rfl | exact bI_nar | decide) ?_
    exact ⟨_, _, rfl, rfl, by first | exact r3 | exact r4 | exact (r3.2.iq hI) | exact (r4.2.iq hI) | exact (r5.2.iq hI)⟩
  · obtain ⟨-, p, q, s, hp, hq, hs, rfl, rfl, rfl⟩ := r1.resolve_left (fun e => by subst e; exact h2 rfl)
    refine x_aload_n hm rfl rfl ?_
    refine x_iload_n hm rfl rfl ?_
    refine x_iload_n hm rfl rfl ?_
    refine x_iload_n hm rfl rfl ?_
    refine x_cVi hm rfl rfl (t205 (by omega) (by omega) (by omega) hI) (fun v4 M4 r4 => ?_)
    refine x_goto hm rfl (t := 26) rfl ?_
    refine x_iret hm rfl rfl (by first | rfl | exact bI_nar | decide) ?_
    exact ⟨_, _, rfl, rfl, by first | exact r3 | exact r4 | exact (r3.2.iq hI) | exact (r4.2.iq hI) | exact (r5.2.iq hI)⟩
theorem l206 {p q s : Nat} (hI : Inv M) (hp : p < 8) (hq : q < 8) (hs : s < 256) : ∀ (n k : Nat) (b c : Int32) (x7 : Option Value), s + 1 - k < n → k ≤ s + 1 → mEv X (QI (fun _ M' => Iq M M')) 206 26 [some (.ref 66), some (.int (nI p)), some (.int (nI q)), some (.int (nI s)), some (.int b), some (.int c), some (.int (nI k)), x7] [] (con M) := by
  have hm : mMet 206 = some _ := rfl
  intro n
  induction n with
  | zero =>
    intro k b c x7 hkn hkb
    omega
  | succ n ih =>
    intro k b c x7 hkn hkb
    refine x_iload hm rfl rfl ?_
    refine x_iload_n hm rfl rfl ?_
    refine x_icmp_gt hm rfl (t := 99) rfl (fun h1 => ?_) (fun h1 => ?_)
    · refine x_iload hm rfl rfl ?_
      refine x_iret hm rfl rfl (by first | rfl | exact bI_nar | decide) ?_
      exact ⟨_, _, rfl, rfl, by first | exact Iq.rf hI | exact (r1.2.iq hI) | exact (r2.2.iq hI) | exact (r3.2.iq hI) | exact (r4.2.iq hI) | exact (r5.2.iq hI) | exact (r6.2.iq hI) | exact (r7.2.iq hI) | exact (r8.2.iq hI) | exact (r1.iq hI) | exact (r2.iq hI) | exact (r3.iq hI) | exact (r4.iq hI) | exact (r5.iq hI) | exact (r6.iq hI) | exact (r7.iq hI) | exact (r8.iq hI)⟩
    · have hk : k ≤ s := Nat.le_of_not_lt fun h => h1 (nI_lt h (by omega))
      refine x_iload hm rfl rfl ?_
      refine x_iload_n hm rfl rfl ?_
      refine x_iconst hm rfl (v := (-1 : Int32)) (by decide) ?_
      refine x_ixor hm rfl ?_
      refine x_iand hm rfl ?_
      refine x_if_ne hm rfl (t := 65) rfl (fun h2 => ?_) (fun h2 => ?_)
      · refine x_iconst hm rfl (v := (-1 : Int32)) (by decide) ?_
        refine x_istore hm rfl rfl ?_
        refine x_iload hm rfl rfl ?_
        refine x_iload hm rfl rfl ?_
        refine x_icmp_le hm rfl (t := 80) rfl (fun h3 => ?_) (fun h3 => ?_)
        · refine x_iload hm rfl rfl ?_
          refine x_istore hm rfl rfl ?_
          refine x_iload hm rfl rfl ?_
          refine x_iload hm rfl rfl ?_
          refine x_lib hm rfl rfl ?_
          dsimp only
          refine x_istore hm rfl rfl ?_
          refine x_iinc hm rfl rfl (v := nI 1) (by decide) rfl ?_
          rw [jI_add]
          refine x_goto hm rfl (t := 26) rfl ?_
          exact ih _ _ _ _ (by omega) (by omega)
        · refine x_iload hm rfl rfl ?_
          refine x_goto hm rfl (t := 82) rfl ?_
          refine x_istore hm rfl rfl ?_
          refine x_iload hm rfl rfl ?_
          refine x_iload hm rfl rfl ?_
          refine x_lib hm rfl rfl ?_
          dsimp only
          refine x_istore hm rfl rfl ?_
          refine x_iinc hm rfl rfl (v := nI 1) (by decide) rfl ?_
          rw [jI_add]
          refine x_goto hm rfl (t := 26) rfl ?_
          exact ih _ _ _ _ (by omega) (by omega)
      · refine x_aload_n hm rfl rfl ?_
        refine x_iload_n hm rfl rfl ?_
        refine x_iload hm rfl rfl ?_
        refine x_cVe hm rfl rfl (t200 hI.1 (by omega)) (fun v4 r4 => ?_)
        refine x_aload_n hm rfl rfl ?_
        refine x_iload_n hm rfl rfl ?_
        refine x_iload_n hm rfl rfl ?_
        refine x_iload hm rfl rfl ?_
        refine x_iconst hm rfl (v := (-1 : Int32)) (by decide) ?_
        refine x_ixor hm rfl ?_
        refine x_iand hm rfl ?_
        refine x_cVe hm rfl rfl (t200 hI.1 (by omega)) (fun v5 r5 => ?_)
        refine x_lib hm rfl rfl ?_
        dsimp only
        refine x_goto hm rfl (t := 66) rfl ?_
        refine x_istore hm rfl rfl ?_
        refine x_iload hm rfl rfl ?_
        refine x_iload hm rfl rfl ?_
        refine x_icmp_le hm rfl (t := 80) rfl (fun h6 => ?_) (fun h6 => ?_)
        · refine x_iload hm rfl rfl ?_
          refine x_istore hm rfl rfl ?_
          refine x_iload hm rfl rfl ?_
          refine x_iload hm rfl rfl ?_
          refine x_lib hm rfl rfl ?_
          dsimp only
          refine x_istore hm rfl rfl ?_
          refine x_iinc hm rfl rfl (v := nI 1) (by decide) rfl ?_
          rw [jI_add]
          refine x_goto hm rfl (t := 26) rfl ?_
          exact ih _ _ _ _ (by omega) (by omega)
        · refine x_iload hm rfl rfl ?_
          refine x_goto hm rfl (t := 82) rfl ?_
          refine x_istore hm rfl rfl ?_
          refine x_iload hm rfl rfl ?_
          refine x_iload hm rfl rfl ?_
          refine x_lib hm rfl rfl ?_
          dsimp only
          refine x_istore hm rfl rfl ?_
          refine x_iinc hm rfl rfl (v := nI 1) (by decide) rfl ?_
          rw [jI_add]
          refine x_goto hm rfl (t := 26) rfl ?_
          exact ih _ _ _ _ (by omega) (by omega)
theorem t206 {a1 a2 a3 : Int32} (hI : Inv M) : ∃ v M', mT X 206 [.ref 66, .int a1, .int a2, .int a3] (con M) (some (.int v)) (con M') ∧ Iq M M' := by
  refine ti_of (row := _) rfl (Nat.le_of_ble_eq_true rfl) ?_
  have hm : mMet 206 = some _ := rfl
  refine x_aload_n hm rfl rfl ?_
  refine x_iload_n hm rfl rfl ?_
  refine x_iload_n hm rfl rfl ?_
  refine x_iload_n hm rfl rfl ?_
  refine x_cVe hm rfl rfl (t202 hI) (fun v1 r1 => ?_)
  refine x_if_ne hm rfl (t := 17) rfl (fun h2 => ?_) (fun h2 => ?_)
  · obtain ⟨-, p, q, s, hp, hq, hs, rfl, rfl, rfl⟩ := r1.resolve_left (fun e => by subst e; exact h2 rfl)
    refine x_iconst hm rfl (v := nI 0) (by decide) ?_
    refine x_istore hm rfl rfl ?_
    refine x_iconst hm rfl (v := (-1 : Int32)) (by decide) ?_
    refine x_istore hm rfl rfl ?_
    refine x_iconst hm rfl (v := nI 0) (by decide) ?_
    refine x_istore hm rfl rfl ?_
    exact l206 hI hp hq hs _ 0 _ _ _ (Nat.lt_succ_self _) (Nat.zero_le _)
  · refine x_aload_n hm rfl rfl ?_
    refine x_ldcI hm rfl (v := (-1000001 : Int32)) (by decide +kernel) ?_
    refine x_cVi hm rfl rfl (t135 (by decide +kernel)) (fun v3 M3 r3 => ?_)
    refine x_iret hm rfl rfl (by first | rfl | exact bI_nar | decide) ?_
    exact ⟨_, _, rfl, rfl, by first | exact Iq.rf hI | exact (r1.2.iq hI) | exact (r2.2.iq hI) | exact (r3.2.iq hI) | exact (r4.2.iq hI) | exact (r5.2.iq hI) | exact (r1.iq hI) | exact (r2.iq hI) | exact (r3.iq hI) | exact (r4.iq hI) | exact (r5.iq hI)⟩
theorem l207b {a nb : Nat} (hI : Inv M) (hnb : M 67 2 = nI nb) (h8 : nb ≤ 8) (ha : a < nb) (hout : ∀ (s : Int32) (x : Option Value), mEv X (QI (fun _ M' => Iq M M')) 207 4 [some (.ref 66), some (.int s), some (.int (nI (a + 1))), x] [] (con M)) : ∀ (n k : Nat) (s : Int32), nb - k < n → k ≤ nb → mEv X (QI (fun _ M' => Iq M M')) 207 16 [some (.ref 66), some (.int s), some (.int (nI a)), some (.int (nI k))] [] (con M) := by
  have hm : mMet 207 = some _ := rfl
  intro n
  induction n with
  | zero =>
    intro k s hkn hkb
    omega
  | succ n ih =>
    intro k s hkn hkb
    refine x_iload_n hm rfl rfl ?_
    refine x_aload_n hm rfl rfl ?_
    refine x_getf hm rfl (gR rfl rfl) ?_
    refine x_iconst hm rfl (v := nI 2) (by decide) ?_
    refine x_iald hm rfl (lI rfl (by omega) (by decide)) ?_
    rw [hnb]
    refine x_icmp_ge hm rfl (t := 68) rfl (fun h1 => ?_) (fun h1 => ?_)
    · refine x_iinc hm rfl rfl (v := nI 1) (by decide) rfl ?_
      rw [jI_add]
      refine x_goto hm rfl (t := 4) rfl ?_
      exact hout _ _
    · have hk : k < nb := Nat.lt_of_not_le fun h => h1 (nI_le h (by omega))
      refine x_iload_n hm rfl rfl ?_
      refine x_iload_n hm rfl rfl ?_
      refine x_iload_n hm rfl rfl ?_
      refine x_icmp_eq hm rfl (t := 59) rfl (fun h2 => ?_) (fun h2 => ?_)
      · refine x_iconst hm rfl (v := nI 0) (by decide) ?_
        refine x_iadd hm rfl ?_
        refine x_istore_n hm rfl rfl ?_
        refine x_iinc hm rfl rfl (v := nI 1) (by decide) rfl ?_
        rw [jI_add]
        refine x_goto hm rfl (t := 16) rfl ?_
        exact ih _ _ (by omega) (by omega)
      · refine x_aload_n hm rfl rfl ?_
        refine x_iload_n hm rfl rfl ?_
        refine x_aload_n hm rfl rfl ?_
        refine x_iload_n hm rfl rfl ?_
        refine x_cVe hm rfl rfl (t160 hI.1) (fun v3 r3 => ?_)
        refine x_cVe hm rfl rfl (t200 hI.1 (by omega)) (fun v4 r4 => ?_)
        refine x_aload_n hm rfl rfl ?_
        refine x_iload_n hm rfl rfl ?_
        refine x_aload_n hm rfl rfl ?_
        refine x_iload_n hm rfl rfl ?_
        refine x_cVe hm rfl rfl (t160 hI.1) (fun v5 r5 => ?_)
        refine x_cVe hm rfl rfl (t200 hI.1 (by omega)) (fun v6 r6 => ?_)
        refine x_icmp_le hm rfl (t := 59) rfl (fun h7 => ?_) (fun h7 => ?_)
        · refine x_iconst hm rfl (v := nI 0) (by decide) ?_
          refine x_iadd hm rfl ?_
          refine x_istore_n hm rfl rfl ?_
          refine x_iinc hm rfl rfl (v := nI 1) (by decide) rfl ?_
          rw [jI_add]
          refine x_goto hm rfl (t := 16) rfl ?_
          exact ih _ _ (by omega) (by omega)
        · refine x_iconst hm rfl (v := nI 1) (by decide) ?_
          refine x_goto hm rfl (t := 60) rfl ?_
          refine x_iadd hm rfl ?_
          refine x_istore_n hm rfl rfl ?_
          refine x_iinc hm rfl rfl (v := nI 1) (by decide) rfl ?_
          rw [jI_add]
          refine x_goto hm rfl (t := 16) rfl ?_
          exact ih _ _ (by omega) (by omega)
theorem l207a {nb : Nat} (hI : Inv M) (hnb : M 67 2 = nI nb) (h8 : nb ≤ 8) : ∀ (n k : Nat) (s : Int32) (x : Option Value), nb - k < n → k ≤ nb → mEv X (QI (fun _ M' => Iq M M')) 207 4 [some (.ref 66), some (.int s), some (.int (nI k)), x] [] (con M) := by
  have hm : mMet 207 = some _ := rfl
  intro n
  induction n with
  | zero =>
    intro k s x hkn hkb
    omega
  | succ n ih =>
    intro k s x hkn hkb
    refine x_iload_n hm rfl rfl ?_
    refine x_aload_n hm rfl rfl ?_
    refine x_getf hm rfl (gR rfl rfl) ?_
    refine x_iconst hm rfl (v := nI 2) (by decide) ?_
    refine x_iald hm rfl (lI rfl (by omega) (by decide)) ?_
    rw [hnb]
    refine x_icmp_ge hm rfl (t := 74) rfl (fun h1 => ?_) (fun h1 => ?_)
    · refine x_iload_n hm rfl rfl ?_
      refine x_iret hm rfl rfl (by first | rfl | exact bI_nar | decide) ?_
      exact ⟨_, _, rfl, rfl, by first | exact Iq.rf hI⟩
    · have hk : k < nb := Nat.lt_of_not_le fun h => h1 (nI_le h (by omega))
      refine x_iconst hm rfl (v := nI 0) (by decide) ?_
      refine x_istore_n hm rfl rfl ?_
      exact l207b hI hnb h8 hk (fun s x => ih _ _ _ (by omega) (by omega)) _ 0 _ (Nat.lt_succ_self _) (Nat.zero_le _)
theorem t207  (hI : Inv M) : ∃ v M', mT X 207 [.ref 66] (con M) (some (.int v)) (con M') ∧ Iq M M' := by
  refine ti_of (row := _) rfl (Nat.le_of_ble_eq_true rfl) ?_
  have hm : mMet 207 = some _ := rfl
  obtain ⟨nb, h8, hnb⟩ := hI.1.np
  refine x_iconst hm rfl (v := nI 0) (by decide) ?_
  refine x_istore_n hm rfl rfl ?_
  refine x_iconst hm rfl (v := nI 0) (by decide) ?_
  refine x_istore_n hm rfl rfl ?_
  exact l207a hI hnb h8 _ 0 _ _ (Nat.lt_succ_self _) (Nat.zero_le _)
end RH
end
