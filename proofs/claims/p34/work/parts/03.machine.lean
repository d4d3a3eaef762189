/-! ===== a small machine over worlds: a cell is a place in a list, a reference is such a place ===== -/
abbrev mLoc : Type := List (Option Value)
abbrev mHp : Type := List va_E
abbrev mSc : Type := Nat × (Nat → Int32)
abbrev mRes : Type := (Nat × mLoc × List Value × mHp) ⊕ (Option Value ⊕ (Nat × List Value × List Value))
noncomputable def mSz (c : va_E) : Nat := match c with
  | .inl a => a.2.1
  | .inr o => o.2.length
noncomputable def mSl (D : mHp) : Nat := (D.map mSz).sum
noncomputable def mOk (ls : mLoc) (i : Nat) : Bool := match i with
  | 0 => true
  | j + 1 => match ls[j]? with
    | some (some w) => Nat.beq w.category 1
    | _ => true
noncomputable def mS1 (ls : mLoc) (i : Nat) (v : Value) : Option mLoc := cond (Nat.blt i ls.length && mOk ls i) (some (ls.set i (some v))) none
noncomputable def mS2 (ls : mLoc) (i : Nat) (v : Value) : Option mLoc := cond (Nat.blt (i + 1) ls.length && mOk ls i) (some ((ls.set i (some v)).set (i + 1) none)) none
noncomputable def mTo (pc : Nat) (off : Int) : Option Nat := if (0 : Int) ≤ (pc : Int) + off then some ((pc : Int) + off).toNat else none
noncomputable def mGo (pc : Nat) (off : Int) (ls : mLoc) (st : List Value) (D : mHp) : Option mRes := (mTo pc off).map fun t => .inl (t, ls, st, D)
noncomputable def mBr (b : Bool) (pc : Nat) (off : Int) (ls : mLoc) (st : List Value) (D : mHp) : Option mRes := (mTo pc off).map fun t => .inl (cond b t (pc + 3), ls, st, D)
noncomputable def mNx (pc : Nat) (ls : mLoc) (st : List Value) (D : mHp) : Option mRes := some (.inl (pc, ls, st, D))
noncomputable def mKA : Nat → Int32 := fun j => ([-1, 0, 0, 2, 3, 0, 1] : List Int32).getD j 0
noncomputable def mRo (X : mSc) (i : Nat) : Option (Nat × (Nat → Int32)) := cond (Nat.beq i 1000100) (some (7, mKA)) (cond (Nat.beq i 1000200) (some X) none)
noncomputable def mOut (j : Int32) (n : Nat) : Bool := decide (j < 0 ∨ n ≤ j.toNatClampNeg)
/-- an element of an array of whole numbers, of type code t -/
noncomputable def mLd (X : mSc) (t : Nat) (D : mHp) (i : Nat) (j : Int32) : Option Value := match D[i]? with
  | some (.inl (t', n, .inl f)) => cond (Nat.beq t' t && !mOut j n) (some (.int (f j.toNatClampNeg))) none
  | some _ => none
  | none => cond (Nat.beq t 0) (match mRo X i with
    | some (n, f) => cond (!mOut j n) (some (.int (f j.toNatClampNeg))) none
    | none => none) none
noncomputable def mLdq (D : mHp) (i : Nat) (j : Int32) : Option Value := match D[i]? with
  | some (.inl (t, n, .inr (.inr (.inr (.inr f))))) => cond (Nat.ble 2 t && Nat.ble t 4 && !mOut j n) (some (va_rf (f j.toNatClampNeg))) none
  | _ => none
noncomputable def mNar (t : Nat) (x : Int32) : Int32 := match t with
  | 0 => x
  | _ => x.toInt8.toInt32
noncomputable def mStI (t : Nat) (D : mHp) (i : Nat) (j x : Int32) : Option mHp := match D[i]? with
  | some (.inl (t', n, .inl f)) => cond (Nat.beq t' t && !mOut j n) (some (D.set i (.inl (t', n, .inl (upd f j.toNatClampNeg (mNar t x)))))) none
  | _ => none
/-- a reference's class suits the array's type code: 2 sheets, 4 texts -/
noncomputable def mAk (D : mHp) (t v : Nat) : Bool := match t with
  | 2 => match D[v]? with
    | some (.inr (c, _)) => Nat.beq c 0
    | _ => false
  | 4 => Nat.ble 1000000 v && Nat.blt v 1000015
  | _ => false
noncomputable def mStQ (D : mHp) (i : Nat) (j : Int32) (v : Nat) : Option mHp := match D[i]? with
  | some (.inl (t, n, .inr (.inr (.inr (.inr f))))) => cond (mAk D t v && !mOut j n) (some (D.set i (.inl (t, n, .inr (.inr (.inr (.inr (va_up f j.toNatClampNeg (some v))))))))) none
  | _ => none
noncomputable def mLen (X : mSc) (D : mHp) (i : Nat) : Option Int32 := match D[i]? with
  | some (.inl (t, a)) => cond (Nat.ble t 4) (some (Int32.ofNat a.1)) none
  | some _ => none
  | none => (mRo X i).map fun q => Int32.ofNat q.1
noncomputable def mGet (D : mHp) (i a b : Nat) : Option Value := match D[i]? with
  | some (.inr (c, fs)) => cond (Nat.beq c a) (fs[b]?) none
  | _ => none
noncomputable def mFit (ty : FieldType) (v : Value) : Bool := match v with
  | .int x => decide (narrow ty (.int x) = .int x) && fits ty (.int x)
  | .ref _ => match ty with
    | .object _ => true
    | .array _ => true
    | _ => false
  | _ => false
noncomputable def mPut (row : mRow) (kd : Nat) (D : mHp) (i a b : Nat) (v : Value) : Option mHp := match D[i]? with
  | some (.inr (c, fs)) => cond (Nat.beq c a && Nat.blt b (mFN a) && Nat.blt b fs.length && mFit (mFy a b) v && (!(mFT a b).2.2.2 || Nat.beq kd 0 && decide (row.2.1.name = "<init>" ∧ (mFT a b).1 = mNm row.1))) (some (D.set i (.inr (c, fs.set b v)))) none
  | _ => none
noncomputable def mWt (r : List Value) : Nat := (r.map fun v => v.category).sum
noncomputable def mC1 (as : List Value) : Bool := as.all fun v => Nat.beq v.category 1
/-- the receiver's class is the method's -/
noncomputable def mRcv (D : mHp) (as : List Value) (mid : Nat) : Bool := match as with
  | .ref i :: _ => match D[i]?, mMet mid with
    | some (.inr (c, _)), some r => Nat.beq c r.1
    | _, _ => false
  | _ => false
noncomputable def mChr (i : Nat) : Option (List Nat) := cond (Nat.ble 1000000 i) (mTx[i - 1000000]?) none
noncomputable def mCall (e : mEnt) (v : Bool) (pc : Nat) (ls : mLoc) (st : List Value) (D : mHp) : Option mRes := match e.2.2.2.1 with
  | 20 => match st with
    | .ref _ :: r => cond (Nat.ble (mWt r) 8) (mNx (pc + 3) ls r D) none
    | _ => none
  | 21 => match st with
    | .int n :: .int dp :: .ref i1 :: .int sp :: .ref i0 :: r => match D[i0]?, D[i1]? with
      | some (.inl (t0, n0, .inl f)), some (.inl (t1, n1, .inl g)) => cond (Nat.beq t0 0 && Nat.beq t1 0 && !decide (sp < 0) && !decide (dp < 0) && !decide (n < 0) && Nat.ble (sp.toNatClampNeg + n.toNatClampNeg) n0 && Nat.ble (dp.toNatClampNeg + n.toNatClampNeg) n1 && Nat.ble (mWt r) 8)
          (mNx (pc + 3) ls r (D.set i1 (.inl (t1, n1, .inl (va_cpy f g sp.toNatClampNeg dp.toNatClampNeg n.toNatClampNeg))))) none
      | _, _ => none
    | _ => none
  | 22 => match st with
    | .ref i :: r => match mChr i with
      | some tx => cond (Nat.ble (mWt r) 8) (mNx (pc + 3) ls (.int (nI tx.length) :: r) D) none
      | none => none
    | _ => none
  | 23 => match st with
    | .int k :: .ref i :: r => match mChr i with
      | some tx => cond (Nat.ble (mWt r) 8 && !mOut k tx.length) (mNx (pc + 3) ls (.int (nI (tx.getD k.toNatClampNeg 0)) :: r) D) none
      | none => none
    | _ => none
  | 24 => match st with
    | .int y :: .int x :: r => cond (Nat.ble (mWt r) 8) (mNx (pc + 3) ls (.int (if x < y then y else x) :: r) D) none
    | _ => none
  | 25 => match st with
    | .int y :: .int x :: r => cond (Nat.ble (mWt r) 8) (mNx (pc + 3) ls (.int (if y < x then y else x) :: r) D) none
    | _ => none
  | _ => cond (Nat.ble e.2.2.2.2.2.1 st.length && mC1 (st.take e.2.2.2.2.2.1) && Nat.ble (mWt (st.drop e.2.2.2.2.2.1)) 8 && (!v || mRcv D (st.take e.2.2.2.2.2.1).reverse e.2.2.2.2.1)) (some (.inr (.inr (e.2.2.2.2.1, (st.take e.2.2.2.2.2.1).reverse, st.drop e.2.2.2.2.2.1)))) none
noncomputable def mStep (X : mSc) (row : mRow) (e : mEnt) (pc : Nat) (ls : mLoc) (st : List Value) (D : mHp) : Option mRes := match e.1 with
  | .iconst n => mNx (pc + 1) ls (.int (Int32.ofInt n) :: st) D
  | .bipush n => mNx (pc + 2) ls (.int (Int8.ofInt n).toInt32 :: st) D
  | .sipush n => mNx (pc + 3) ls (.int (Int16.ofInt n).toInt32 :: st) D
  | .lconst n => mNx (pc + 1) ls (.long (Int64.ofNat n.val) :: st) D
  | .ldc _ => match e.2.2.2.1 with
    | 2 => mNx (pc + 2) ls (.int (Int32.ofInt e.2.2.2.2.2.2) :: st) D
    | 3 => mNx (pc + 2) ls (.ref (1000000 + e.2.2.2.2.2.1) :: st) D
    | _ => none
  | .ldc_w _ => match e.2.2.2.1 with
    | 2 => mNx (pc + 3) ls (.int (Int32.ofInt e.2.2.2.2.2.2) :: st) D
    | 3 => mNx (pc + 3) ls (.ref (1000000 + e.2.2.2.2.2.1) :: st) D
    | _ => none
  | .iload_n k => match ls[k.val]? with
    | some (some (.int x)) => mNx (pc + 1) ls (.int x :: st) D
    | _ => none
  | .iload i => match ls[i]? with
    | some (some (.int x)) => mNx (pc + 2) ls (.int x :: st) D
    | _ => none
  | .lload_n k => match ls[k.val]? with
    | some (some (.long x)) => mNx (pc + 1) ls (.long x :: st) D
    | _ => none
  | .lload i => match ls[i]? with
    | some (some (.long x)) => mNx (pc + 2) ls (.long x :: st) D
    | _ => none
  | .aload_n k => match ls[k.val]? with
    | some (some (.ref x)) => mNx (pc + 1) ls (.ref x :: st) D
    | _ => none
  | .aload i => match ls[i]? with
    | some (some (.ref x)) => mNx (pc + 2) ls (.ref x :: st) D
    | _ => none
  | .istore_n k => match st with
    | .int x :: r => (mS1 ls k.val (.int x)).bind fun l => mNx (pc + 1) l r D
    | _ => none
  | .istore i => match st with
    | .int x :: r => (mS1 ls i (.int x)).bind fun l => mNx (pc + 2) l r D
    | _ => none
  | .lstore_n k => match st with
    | .long x :: r => (mS2 ls k.val (.long x)).bind fun l => mNx (pc + 1) l r D
    | _ => none
  | .lstore i => match st with
    | .long x :: r => (mS2 ls i (.long x)).bind fun l => mNx (pc + 2) l r D
    | _ => none
  | .astore_n k => match st with
    | .ref x :: r => (mS1 ls k.val (.ref x)).bind fun l => mNx (pc + 1) l r D
    | _ => none
  | .astore i => match st with
    | .ref x :: r => (mS1 ls i (.ref x)).bind fun l => mNx (pc + 2) l r D
    | _ => none
  | .iinc i n => match ls[i]? with
    | some (some (.int x)) => (mS1 ls i (.int (x + Int32.ofInt n))).bind fun l => mNx (pc + 3) l st D
    | _ => none
  | .iadd => match st with
    | .int y :: .int x :: r => mNx (pc + 1) ls (.int (x + y) :: r) D
    | _ => none
  | .isub => match st with
    | .int y :: .int x :: r => mNx (pc + 1) ls (.int (x - y) :: r) D
    | _ => none
  | .imul => match st with
    | .int y :: .int x :: r => mNx (pc + 1) ls (.int (x * y) :: r) D
    | _ => none
  | .iand => match st with
    | .int y :: .int x :: r => mNx (pc + 1) ls (.int (x &&& y) :: r) D
    | _ => none
  | .ior => match st with
    | .int y :: .int x :: r => mNx (pc + 1) ls (.int (x ||| y) :: r) D
    | _ => none
  | .ixor => match st with
    | .int y :: .int x :: r => mNx (pc + 1) ls (.int (x ^^^ y) :: r) D
    | _ => none
  | .idiv => match st with
    | .int y :: .int x :: r => if y = 0 then none else mNx (pc + 1) ls (.int (x / y) :: r) D
    | _ => none
  | .irem => match st with
    | .int y :: .int x :: r => if y = 0 then none else mNx (pc + 1) ls (.int (x - x / y * y) :: r) D
    | _ => none
  | .ishl => match st with
    | .int y :: .int x :: r => mNx (pc + 1) ls (.int (x <<< (y &&& 31)) :: r) D
    | _ => none
  | .ishr => match st with
    | .int y :: .int x :: r => mNx (pc + 1) ls (.int (x >>> (y &&& 31)) :: r) D
    | _ => none
  | .iushr => match st with
    | .int y :: .int x :: r => mNx (pc + 1) ls (.int (x.toUInt32 >>> (y.toUInt32 &&& Int32.toUInt32 31)).toInt32 :: r) D
    | _ => none
  | .i2l => match st with
    | .int x :: r => mNx (pc + 1) ls (.long x.toInt64 :: r) D
    | _ => none
  | .i2b => match st with
    | .int x :: r => mNx (pc + 1) ls (.int x.toInt8.toInt32 :: r) D
    | _ => none
  | .i2s => match st with
    | .int x :: r => mNx (pc + 1) ls (.int x.toInt16.toInt32 :: r) D
    | _ => none
  | .ladd => match st with
    | .long y :: .long x :: r => mNx (pc + 1) ls (.long (x + y) :: r) D
    | _ => none
  | .lmul => match st with
    | .long y :: .long x :: r => mNx (pc + 1) ls (.long (x * y) :: r) D
    | _ => none
  | .lcmp => match st with
    | .long y :: .long x :: r => mNx (pc + 1) ls (.int (lg_cmp x y) :: r) D
    | _ => none
  | .dup => match st with
    | v :: r => cond (Nat.beq v.category 1) (mNx (pc + 1) ls (v :: v :: r) D) none
    | _ => none
  | .pop => match st with
    | v :: r => cond (Nat.beq v.category 1) (mNx (pc + 1) ls r D) none
    | _ => none
  | .dup2 => match st with
    | v :: w :: r => cond (Nat.beq v.category 1 && Nat.beq w.category 1) (mNx (pc + 1) ls (v :: w :: v :: w :: r) D) none
    | _ => none
  | .pop2 => match st with
    | .long _ :: r => mNx (pc + 1) ls r D
    | _ => none
  | .ifCond .eq off => match st with
    | .int x :: r => mBr (decide (x = 0)) pc off ls r D
    | _ => none
  | .ifCond .ne off => match st with
    | .int x :: r => mBr (!decide (x = 0)) pc off ls r D
    | _ => none
  | .ifCond .lt off => match st with
    | .int x :: r => mBr (decide (x < 0)) pc off ls r D
    | _ => none
  | .ifCond .ge off => match st with
    | .int x :: r => mBr (decide (0 ≤ x)) pc off ls r D
    | _ => none
  | .ifCond .gt off => match st with
    | .int x :: r => mBr (decide (0 < x)) pc off ls r D
    | _ => none
  | .ifCond .le off => match st with
    | .int x :: r => mBr (decide (x ≤ 0)) pc off ls r D
    | _ => none
  | .if_icmp .eq off => match st with
    | .int y :: .int x :: r => mBr (decide (x = y)) pc off ls r D
    | _ => none
  | .if_icmp .ne off => match st with
    | .int y :: .int x :: r => mBr (!decide (x = y)) pc off ls r D
    | _ => none
  | .if_icmp .lt off => match st with
    | .int y :: .int x :: r => mBr (decide (x < y)) pc off ls r D
    | _ => none
  | .if_icmp .ge off => match st with
    | .int y :: .int x :: r => mBr (decide (y ≤ x)) pc off ls r D
    | _ => none
  | .if_icmp .gt off => match st with
    | .int y :: .int x :: r => mBr (decide (y < x)) pc off ls r D
    | _ => none
  | .if_icmp .le off => match st with
    | .int y :: .int x :: r => mBr (decide (x ≤ y)) pc off ls r D
    | _ => none
  | .goto off => mGo pc off ls st D
  | .tableswitch dflt lo hi offs => match st with
    | .int x :: r => if x.toInt < lo ∨ hi < x.toInt then mGo pc dflt ls r D else match offs[(x.toInt - lo).toNat]? with
      | some off => mGo pc off ls r D
      | none => none
    | _ => none
  | .getfield _ => match st with
    | .ref i :: r => (mGet D i e.2.2.2.2.1 e.2.2.2.2.2.1).bind fun v => mNx (pc + 3) ls (v :: r) D
    | _ => none
  | .putfield _ => match st with
    | v :: .ref i :: r => (mPut row e.2.2.2.1 D i e.2.2.2.2.1 e.2.2.2.2.2.1 v).bind fun D1 => mNx (pc + 3) ls r D1
    | _ => none
  | .getstatic _ => mNx (pc + 3) ls (.ref 1000100 :: st) D
  | .iaload => match st with
    | .int j :: .ref i :: r => (mLd X 0 D i j).bind fun v => mNx (pc + 1) ls (v :: r) D
    | _ => none
  | .baload => match st with
    | .int j :: .ref i :: r => (mLd X 1 D i j).bind fun v => mNx (pc + 1) ls (v :: r) D
    | _ => none
  | .aaload => match st with
    | .int j :: .ref i :: r => (mLdq D i j).bind fun v => mNx (pc + 1) ls (v :: r) D
    | _ => none
  | .iastore => match st with
    | .int x :: .int j :: .ref i :: r => (mStI 0 D i j x).bind fun D1 => mNx (pc + 1) ls r D1
    | _ => none
  | .bastore => match st with
    | .int x :: .int j :: .ref i :: r => (mStI 1 D i j x).bind fun D1 => mNx (pc + 1) ls r D1
    | _ => none
  | .aastore => match st with
    | .ref v :: .int j :: .ref i :: r => (mStQ D i j v).bind fun D1 => mNx (pc + 1) ls r D1
    | _ => none
  | .arraylength => match st with
    | .ref i :: r => (mLen X D i).bind fun n => mNx (pc + 1) ls (.int n :: r) D
    | _ => none
  | .newarray .int => match st with
    | .int n :: r => if n < 0 ∨ 1000 < n.toNatClampNeg then none else mNx (pc + 2) ls (.ref D.length :: r) (D ++ [.inl (0, n.toNatClampNeg, .inl (fun _ => 0))])
    | _ => none
  | .newarray .byte => match st with
    | .int n :: r => if n < 0 ∨ 1000 < n.toNatClampNeg then none else mNx (pc + 2) ls (.ref D.length :: r) (D ++ [.inl (1, n.toNatClampNeg, .inl (fun _ => 0))])
    | _ => none
  | .anewarray _ => match st with
    | .int n :: r => if n < 0 ∨ 1000 < n.toNatClampNeg then none else mNx (pc + 3) ls (.ref D.length :: r) (D ++ [.inl (e.2.2.2.2.1, n.toNatClampNeg, .inr (.inr (.inr (.inr (fun _ => none)))))])
    | _ => none
  | .multianewarray _ 2 => match st with
    | .int k :: .int n :: r => if n < 0 ∨ k < 0 ∨ 1000 < n.toNatClampNeg ∨ 1000 < k.toNatClampNeg then none else mNx (pc + 4) ls (.ref D.length :: r)
        (D ++ (.inl (3, n.toNatClampNeg, .inr (.inr (.inr (.inr (fun i => if i < n.toNatClampNeg then some (D.length + 1 + i) else none))))) :: List.replicate n.toNatClampNeg (.inl (0, k.toNatClampNeg, .inl (fun _ => 0)))))
    | _ => none
  | .new _ => mNx (pc + 3) ls (.ref D.length :: st) (D ++ [.inr (e.2.2.2.2.1, mDf e.2.2.2.2.1)])
  | .ireturn => match st with
    | [.int v] => match row.2.2.2.2.1 with
      | some ty => cond (decide (narrow ty (.int v) = .int v)) (some (.inr (.inl (some (.int v))))) none
      | none => none
    | _ => none
  | .lreturn => match st with
    | [.long v] => cond (decide (row.2.2.2.2.1 = some .long)) (some (.inr (.inl (some (.long v))))) none
    | _ => none
  | .areturn => match st with
    | [.ref v] => match row.2.2.2.2.1 with
      | some (.object _) => some (.inr (.inl (some (.ref v))))
      | _ => none
    | _ => none
  | .return_ => match st with
    | [] => cond (decide (row.2.2.2.2.1 = none)) (some (.inr (.inl none))) none
    | _ => none
  | .invokestatic _ => mCall e false pc ls st D
  | .invokespecial _ => mCall e true pc ls st D
  | .invokevirtual _ => mCall e true pc ls st D
  | _ => none
noncomputable def mEnv (maxL : Nat) (as : List Value) : mLoc := as.map some ++ List.replicate (maxL - as.length) none
noncomputable def mRun (X : mSc) : Nat → Nat → Nat → mLoc → List Value → mHp → Option (Option Value × mHp)
  | 0, _, _, _, _, _ => none
  | n + 1, mid, pc, ls, st, D => match mMet mid, mFetch mid pc with
    | some row, some e => match mStep X row e pc ls st D with
      | some (.inl q) => mRun X n mid q.1 q.2.1 q.2.2.1 q.2.2.2
      | some (.inr (.inl v)) => some (v, D)
      | some (.inr (.inr q)) => match mMet q.1 with
        | some r => cond (Nat.ble q.2.1.length r.2.2.2.1) (match mRun X n q.1 0 (mEnv r.2.2.2.1 q.2.1) [] D with
          | some z => mRun X n mid (pc + 3) ls (z.1.toList ++ q.2.2) z.2
          | none => none) none
        | none => none
      | none => none
    | _, _ => none
