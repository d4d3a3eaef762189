section
/-! ===== a small machine over worlds: a cell is a place in a list, a reference is such a place ===== -/
abbrev mLoc : Type := List (Option Value)
abbrev mHp : Type := List va_E
abbrev mSc : Type := Nat × (Nat → Int32)
abbrev mRes : Type := (Nat × mLoc × List Value × mHp) ⊕ (Option Value ⊕ (Nat × List Value × List Value))
noncomputable def mSz (c : va_E) : Nat := match c with
  | .inl a => a.2.1
  | .inr o => o.2.length
noncomputable def mSl (D : mHp) : Nat := (D.map mSz).sum
noncomputable def mOk (ls : mLoc) (i : Nat) : Bool := match i with
  | 0 => true
  | j + 1 => match ls[j]? with
    | some (some w) => Nat.beq w.category 1
    | _ => true
noncomputable def mS1 (ls : mLoc) (i : Nat) (v : Value) : Option mLoc := cond (Nat.blt i ls.length && mOk ls i) (some (ls.set i (some v))) none
noncomputable def mS2 (ls : mLoc) (i : Nat) (v : Value) : Option mLoc := cond (Nat.blt (i + 1) ls.length && mOk ls i) (some ((ls.set i (some v)).set (i + 1) none)) none
noncomputable def mTo (pc : Nat) (off : Int) : Option Nat := if (0 : Int) ≤ (pc : Int) + off then some ((pc : Int) + off).toNat else none
noncomputable def mGo (pc : Nat) (off : Int) (ls : mLoc) (st : List Value) (D : mHp) : Option mRes := (mTo pc off).map fun t => .inl (t, ls, st, D)
noncomputable def mBr (b : Bool) (pc : Nat) (off : Int) (ls : mLoc) (st : List Value) (D : mHp) : Option mRes := (mTo pc off).map fun t => .inl (cond b t (pc + 3), ls, st, D)
noncomputable def mNx (pc : Nat) (ls : mLoc) (st : List Value) (D : mHp) : Option mRes := some (.inl (pc, ls, st, D))
noncomputable def mKA : Nat → Int32 := fun j => ([-1, 0, 0, 2, 3, 0, 1] : List Int32).getD j 0
noncomputable def mRo (X : mSc) (i : Nat) : Option (Nat × (Nat → Int32)) := cond (Nat.beq i 1000100) (some (7, mKA)) (cond (Nat.beq i 1000200) (some X) none)
noncomputable def mOut (j : Int32) (n : Nat) : Bool := decide (j < 0 ∨ n ≤ j.toNatClampNeg)
/-- an element of an array of whole numbers, of type code t -/
noncomputable def mLd (X : mSc) (t : Nat) (D : mHp) (i : Nat) (j : Int32) : Option Value := match D[i]? with
  | some (.inl (t', n, .inl f)) => cond (Nat.beq t' t && !mOut j n) (some (.int (f j.toNatClampNeg))) none
  | some _ => none
  | none => cond (Nat.beq t 0) (match mRo X i with
    | some (n, f) => cond (!mOut j n) (some (.int (f j.toNatClampNeg))) none
    | none => none) none
noncomputable def mLdq (D : mHp) (i : Nat) (j : Int32) : Option Value := match D[i]? with
  | some (.inl (t, n, .inr (.inr (.inr (.inr f))))) => cond (Nat.ble 2 t && Nat.ble t 4 && !mOut j n) (some (va_rf (f j.toNatClampNeg))) none
  | _ => none
noncomputable def mNar (t : Nat) (x : Int32) : Int32 := match t with
  | 0 => x
  | _ => x.toInt8.toInt32
noncomputable def mStI (t : Nat) (D : mHp) (i : Nat) (j x : Int32) : Option mHp := match D[i]? with
  | some (.inl (t', n, .inl f)) => cond (Nat.beq t' t && !mOut j n) (some (D.set i (.inl (t', n, .inl (upd f j.toNatClampNeg (mNar t x)))))) none
  | _ => none
/-- a reference's class suits the array's type code: 2 sheets, 4 texts -/
noncomputable def mAk (D : mHp) (t v : Nat) : Bool := match t with
  | 2 => match D[v]? with
    | some (.inr (c, _)) => Nat.beq c 0
    | _ => false
  | 4 => Nat.ble 1000000 v && Nat.blt v 1000015
  | _ => false
noncomputable def mStQ (D : mHp) (i : Nat) (j : Int32) (v : Nat) : Option mHp := match D[i]? with
  | some (.inl (t, n, .inr (.inr (.inr (.inr f))))) => cond (mAk D t v && !mOut j n) (some (D.set i (.inl (t, n, .inr (.inr (.inr (.inr (va_up f j.toNatClampNeg (some v))))))))) none
  | _ => none
noncomputable def mLen (X : mSc) (D : mHp) (i : Nat) : Option Int32 := match D[i]? with
  | some (.inl (t, a)) => cond (Nat.ble t 4) (some (Int32.ofNat a.1)) none
  | some _ => none
  | none => (mRo X i).map fun q => Int32.ofNat q.1
noncomputable def mGet (D : mHp) (i a b : Nat) : Option Value := match D[i]? with
  | some (.inr (c, fs)) => cond (Nat.beq c a) (fs[b]?) none
  | _ => none
noncomputable def mFit (ty : FieldType) (v : Value) : Bool := match v with
  | .int x => decide (narrow ty (.int x) = .int x) && fits ty (.int x)
  | .ref _ => match ty with
    | .object _ => true
    | .array _ => true
    | _ => false
  | _ => false
noncomputable def mPut (row : mRow) (kd : Nat) (D : mHp) (i a b : Nat) (v : Value) : Option mHp := match D[i]? with
  | some (.inr (c, fs)) => cond (Nat.beq c a && Nat.blt b (mFN a) && Nat.blt b fs.length && mFit (mFy a b) v && (!(mFT a b).2.2.2 || Nat.beq kd 0 && decide (row.2.1.name = "<init>" ∧ (mFT a b).1 = mNm row.1))) (some (D.set i (.inr (c, fs.set b v)))) none
  | _ => none
noncomputable def mWt (r : List Value) : Nat := (r.map fun v => v.category).sum
noncomputable def mC1 (as : List Value) : Bool := as.all fun v => Nat.beq v.category 1
/-- the receiver's class is the method's -/
noncomputable def mRcv (D : mHp) (as : List Value) (mid : Nat) : Bool := match as with
  | .ref i :: _ => match D[i]?, mMet mid with
    | some (.inr (c, _)), some r => Nat.beq c r.1
    | _, _ => false
  | _ => false
noncomputable def mChr (i : Nat) : Option (List Nat) := cond (Nat.ble 1000000 i) (mTx[i - 1000000]?) none
noncomputable def mCall (e : mEnt) (v : Bool) (pc : Nat) (ls : mLoc) (st : List Value) (D : mHp) : Option mRes := match e.2.2.2.1 with
  | 20 => match st with
    | .ref _ :: r => cond (Nat.ble (mWt r) 8) (mNx (pc + 3) ls r D) none
    | _ => none
  | 21 => match st with
    | .int n :: .int dp :: .ref i1 :: .int sp :: .ref i0 :: r => match D[i0]?, D[i1]? with
      | some (.inl (t0, n0, .inl f)), some (.inl (t1, n1, .inl g)) => cond (Nat.beq t0 0 && Nat.beq t1 0 && !decide (sp < 0) && !decide (dp < 0) && !decide (n < 0) && Nat.ble (sp.toNatClampNeg + n.toNatClampNeg) n0 && Nat.ble (dp.toNatClampNeg + n.toNatClampNeg) n1 && Nat.ble (mWt r) 8)
          (mNx (pc + 3) ls r (D.set i1 (.inl (t1, n1, .inl (va_cpy f g sp.toNatClampNeg dp.toNatClampNeg n.toNatClampNeg))))) none
      | _, _ => none
    | _ => none
  | 22 => match st with
    | .ref i :: r => match mChr i with
      | some tx => cond (Nat.ble (mWt r) 8) (mNx (pc + 3) ls (.int (nI tx.length) :: r) D) none
      | none => none
    | _ => none
  | 23 => match st with
    | .int k :: .ref i :: r => match mChr i with
      | some tx => cond (Nat.ble (mWt r) 8 && !mOut k tx.length) (mNx (pc + 3) ls (.int (nI (tx.getD k.toNatClampNeg 0)) :: r) D) none
      | none => none
    | _ => none
  | 24 => match st with
    | .int y :: .int x :: r => cond (Nat.ble (mWt r) 8) (mNx (pc + 3) ls (.int (if x < y then y else x) :: r) D) none
    | _ => none
  | 25 => match st with
    | .int y :: .int x :: r => cond (Nat.ble (mWt r) 8) (mNx (pc + 3) ls (.int (if y < x then y else x) :: r) D) none
    | _ => none
  | _ => cond (Nat.ble e.2.2.2.2.2.1 st.length && mC1 (st.take e.2.2.2.2.2.1) && Nat.ble (mWt (st.drop e.2.2.2.2.2.1)) 8 && (!v || mRcv D (st.take e.2.2.2.2.2.1).reverse e.2.2.2.2.1)) (some (.inr (.inr (e.2.2.2.2.1, (st.take e.2.2.2.2.2.1).reverse, st.drop e.2.2.2.2.2.1)))) none
noncomputable def mStep (X : mSc) (row : mRow) (e : mEnt) (pc : Nat) (ls : mLoc) (st : List Value) (D : mHp) : Option mRes := match e.1 with
  | .iconst n => mNx (pc + 1) ls (.int (Int32.ofInt n) :: st) D
  | .bipush n => mNx (pc + 2) ls (.int (Int8.ofInt n).toInt32 :: st) D
  | .sipush n => mNx (pc + 3) ls (.int (Int16.ofInt n).toInt32 :: st) D
  | .lconst n => mNx (pc + 1) ls (.long (Int64.ofNat n.val) :: st) D
  | .ldc _ => match e.2.2.2.1 with
    | 2 => mNx (pc + 2) ls (.int (Int32.ofInt e.2.2.2.2.2.2) :: st) D
    | 3 => mNx (pc + 2) ls (.ref (1000000 + e.2.2.2.2.2.1) :: st) D
    | _ => none
  | .ldc_w _ => match e.2.2.2.1 with
    | 2 => mNx (pc + 3) ls (.int (Int32.ofInt e.2.2.2.2.2.2) :: st) D
    | 3 => mNx (pc + 3) ls (.ref (1000000 + e.2.2.2.2.2.1) :: st) D
    | _ => none
  | .iload_n k => match ls[k.val]? with
    | some (some (.int x)) => mNx (pc + 1) ls (.int x :: st) D
    | _ => none
  | .iload i => match ls[i]? with
    | some (some (.int x)) => mNx (pc + 2) ls (.int x :: st) D
    | _ => none
  | .lload_n k => match ls[k.val]? with
    | some (some (.long x)) => mNx (pc + 1) ls (.long x :: st) D
    | _ => none
  | .lload i => match ls[i]? with
    | some (some (.long x)) => mNx (pc + 2) ls (.long x :: st) D
    | _ => none
  | .aload_n k => match ls[k.val]? with
    | some (some (.ref x)) => mNx (pc + 1) ls (.ref x :: st) D
    | _ => none
  | .aload i => match ls[i]? with
    | some (some (.ref x)) => mNx (pc + 2) ls (.ref x :: st) D
    | _ => none
  | .istore_n k => match st with
    | .int x :: r => (mS1 ls k.val (.int x)).bind fun l => mNx (pc + 1) l r D
    | _ => none
  | .istore i => match st with
    | .int x :: r => (mS1 ls i (.int x)).bind fun l => mNx (pc + 2) l r D
    | _ => none
  | .lstore_n k => match st with
    | .long x :: r => (mS2 ls k.val (.long x)).bind fun l => mNx (pc + 1) l r D
    | _ => none
  | .lstore i => match st with
    | .long x :: r => (mS2 ls i (.long x)).bind fun l => mNx (pc + 2) l r D
    | _ => none
  | .astore_n k => match st with
    | .ref x :: r => (mS1 ls k.val (.ref x)).bind fun l => mNx (pc + 1) l r D
    | _ => none
  | .astore i => match st with
    | .ref x :: r => (mS1 ls i (.ref x)).bind fun l => mNx (pc + 2) l r D
    | _ => none
  | .iinc i n => match ls[i]? with
    | some (some (.int x)) => (mS1 ls i (.int (x + Int32.ofInt n))).bind fun l => mNx (pc + 3) l st D
    | _ => none
  | .iadd => match st with
    | .int y :: .int x :: r => mNx (pc + 1) ls (.int (x + y) :: r) D
    | _ => none
  | .isub => match st with
    | .int y :: .int x :: r => mNx (pc + 1) ls (.int (x - y) :: r) D
    | _ => none
  | .imul => match st with
    | .int y :: .int x :: r => mNx (pc + 1) ls (.int (x * y) :: r) D
    | _ => none
  | .iand => match st with
    | .int y :: .int x :: r => mNx (pc + 1) ls (.int (x &&& y) :: r) D
    | _ => none
  | .ior => match st with
    | .int y :: .int x :: r => mNx (pc + 1) ls (.int (x ||| y) :: r) D
    | _ => none
  | .ixor => match st with
    | .int y :: .int x :: r => mNx (pc + 1) ls (.int (x ^^^ y) :: r) D
    | _ => none
  | .idiv => match st with
    | .int y :: .int x :: r => if y = 0 then none else mNx (pc + 1) ls (.int (x / y) :: r) D
    | _ => none
  | .irem => match st with
    | .int y :: .int x :: r => if y = 0 then none else mNx (pc + 1) ls (.int (x - x / y * y) :: r) D
    | _ => none
  | .ishl => match st with
    | .int y :: .int x :: r => mNx (pc + 1) ls (.int (x <<< (y &&& 31)) :: r) D
    | _ => none
  | .ishr => match st with
    | .int y :: .int x :: r => mNx (pc + 1) ls (.int (x >>> (y &&& 31)) :: r) D
    | _ => none
  | .iushr => match st with
    | .int y :: .int x :: r => mNx (pc + 1) ls (.int (x.toUInt32 >>> (y.toUInt32 &&& Int32.toUInt32 31)).toInt32 :: r) D
    | _ => none
  | .i2l => match st with
    | .int x :: r => mNx (pc + 1) ls (.long x.toInt64 :: r) D
    | _ => none
  | .i2b => match st with
    | .int x :: r => mNx (pc + 1) ls (.int x.toInt8.toInt32 :: r) D
    | _ => none
  | .i2s => match st with
    | .int x :: r => mNx (pc + 1) ls (.int x.toInt16.toInt32 :: r) D
    | _ => none
  | .ladd => match st with
    | .long y :: .long x :: r => mNx (pc + 1) ls (.long (x + y) :: r) D
    | _ => none
  | .lmul => match st with
    | .long y :: .long x :: r => mNx (pc + 1) ls (.long (x * y) :: r) D
    | _ => none
  | .lcmp => match st with
    | .long y :: .long x :: r => mNx (pc + 1) ls (.int (lg_cmp x y) :: r) D
    | _ => none
  | .dup => match st with
    | v :: r => cond (Nat.beq v.category 1) (mNx (pc + 1) ls (v :: v :: r) D) none
    | _ => none
  | .pop => match st with
    | v :: r => cond (Nat.beq v.category 1) (mNx (pc + 1) ls r D) none
    | _ => none
  | .dup2 => match st with
    | v :: w :: r => cond (Nat.beq v.category 1 && Nat.beq w.category 1) (mNx (pc + 1) ls (v :: w :: v :: w :: r) D) none
    | _ => none
  | .pop2 => match st with
    | .long _ :: r => mNx (pc + 1) ls r D
    | _ => none
  | .ifCond .eq off => match st with
    | .int x :: r => mBr (decide (x = 0)) pc off ls r D
    | _ => none
  | .ifCond .ne off => match st with
    | .int x :: r => mBr (!decide (x = 0)) pc off ls r D
    | _ => none
  | .ifCond .lt off => match st with
    | .int x :: r => mBr (decide (x < 0)) pc off ls r D
    | _ => none
  | .ifCond .ge off => match st with
    | .int x :: r => mBr (decide (0 ≤ x)) pc off ls r D
    | _ => none
  | .ifCond .gt off => match st with
    | .int x :: r => mBr (decide (0 < x)) pc off ls r D
    | _ => none
  | .ifCond .le off => match st with
    | .int x :: r => mBr (decide (x ≤ 0)) pc off ls r D
    | _ => none
  | .if_icmp .eq off => match st with
    | .int y :: .int x :: r => mBr (decide (x = y)) pc off ls r D
    | _ => none
  | .if_icmp .ne off => match st with
    | .int y :: .int x :: r => mBr (!decide (x = y)) pc off ls r D
    | _ => none
  | .if_icmp .lt off => match st with
    | .int y :: .int x :: r => mBr (decide (x < y)) pc off ls r D
    | _ => none
  | .if_icmp .ge off => match st with
    | .int y :: .int x :: r => mBr (decide (y ≤ x)) pc off ls r D
    | _ => none
  | .if_icmp .gt off => match st with
    | .int y :: .int x :: r => mBr (decide (y < x)) pc off ls r D
    | _ => none
  | .if_icmp .le off => match st with
    | .int y :: .int x :: r => mBr (decide (x ≤ y)) pc off ls r D
    | _ => none
  | .goto off => mGo pc off ls st D
  | .tableswitch dflt lo hi offs => match st with
    | .int x :: r => if x.toInt < lo ∨ hi < x.toInt then mGo pc dflt ls r D else match offs[(x.toInt - lo).toNat]? with
      | some off => mGo pc off ls r D
      | none => none
    | _ => none
  | .getfield _ => match st with
    | .ref i :: r => (mGet D i e.2.2.2.2.1 e.2.2.2.2.2.1).bind fun v => mNx (pc + 3) ls (v :: r) D
    | _ => none
  | .putfield _ => match st with
    | v :: .ref i :: r => (mPut row e.2.2.2.1 D i e.2.2.2.2.1 e.2.2.2.2.2.1 v).bind fun D1 => mNx (pc + 3) ls r D1
    | _ => none
  | .getstatic _ => mNx (pc + 3) ls (.ref 1000100 :: st) D
  | .iaload => match st with
    | .int j :: .ref i :: r => (mLd X 0 D i j).bind fun v => mNx (pc + 1) ls (v :: r) D
    | _ => none
  | .baload => match st with
    | .int j :: .ref i :: r => (mLd X 1 D i j).bind fun v => mNx (pc + 1) ls (v :: r) D
    | _ => none
  | .aaload => match st with
    | .int j :: .ref i :: r => (mLdq D i j).bind fun v => mNx (pc + 1) ls (v :: r) D
    | _ => none
  | .iastore => match st with
    | .int x :: .int j :: .ref i :: r => (mStI 0 D i j x).bind fun D1 => mNx (pc + 1) ls r D1
    | _ => none
  | .bastore => match st with
    | .int x :: .int j :: .ref i :: r => (mStI 1 D i j x).bind fun D1 => mNx (pc + 1) ls r D1
    | _ => none
  | .aastore => match st with
    | .ref v :: .int j :: .ref i :: r => (mStQ D i j v).bind fun D1 => mNx (pc + 1) ls r D1
    | _ => none
  | .arraylength => match st with
    | .ref i :: r => (mLen X D i).bind fun n => mNx (pc + 1) ls (.int n :: r) D
    | _ => none
  | .newarray .int => match st with
    | .int n :: r => if n < 0 ∨ 1000 < n.toNatClampNeg then none else mNx (pc + 2) ls (.ref D.length :: r) (D ++ [.inl (0, n.toNatClampNeg, .inl (fun _ => 0))])
    | _ => none
  | .newarray .byte => match st with
    | .int n :: r => if n < 0 ∨ 1000 < n.toNatClampNeg then none else mNx (pc + 2) ls (.ref D.length :: r) (D ++ [.inl (1, n.toNatClampNeg, .inl (fun _ => 0))])
    | _ => none
  | .anewarray _ => match st with
    | .int n :: r => if n < 0 ∨ 1000 < n.toNatClampNeg then none else mNx (pc + 3) ls (.ref D.length :: r) (D ++ [.inl (e.2.2.2.2.1, n.toNatClampNeg, .inr (.inr (.inr (.inr (fun _ => none)))))])
    | _ => none
  | .multianewarray _ 2 => match st with
    | .int k :: .int n :: r => if n < 0 ∨ k < 0 ∨ 1000 < n.toNatClampNeg ∨ 1000 < k.toNatClampNeg then none else mNx (pc + 4) ls (.ref D.length :: r)
        (D ++ (.inl (3, n.toNatClampNeg, .inr (.inr (.inr (.inr (fun i => if i < n.toNatClampNeg then some (D.length + 1 + i) else none))))) :: List.replicate n.toNatClampNeg (.inl (0, k.toNatClampNeg, .inl (fun _ => 0)))))
    | _ => none
  | .new _ => mNx (pc + 3) ls (.ref D.length :: st) (D ++ [.inr (e.2.2.2.2.1, mDf e.2.2.2.2.1)])
  | .ireturn => match st with
    | [.int v] => match row.2.2.2.2.1 with
      | some ty => cond (decide (narrow ty (.int v) = .int v)) (some (.inr (.inl (some (.int v))))) none
      | none => none
    | _ => none
  | .lreturn => match st with
    | [.long v] => cond (decide (row.2.2.2.2.1 = some .long)) (some (.inr (.inl (some (.long v))))) none
    | _ => none
  | .areturn => match st with
    | [.ref v] => match row.2.2.2.2.1 with
      | some (.object _) => some (.inr (.inl (some (.ref v))))
      | _ => none
    | _ => none
  | .return_ => match st with
    | [] => cond (decide (row.2.2.2.2.1 = none)) (some (.inr (.inl none))) none
    | _ => none
  | .invokestatic _ => mCall e false pc ls st D
  | .invokespecial _ => mCall e true pc ls st D
  | .invokevirtual _ => mCall e true pc ls st D
  | _ => none
noncomputable def mEnv (maxL : Nat) (as : List Value) : mLoc := as.map some ++ List.replicate (maxL - as.length) none
noncomputable def mRun (X : mSc) : Nat → Nat → Nat → mLoc → List Value → mHp → Option (Option Value × mHp)
  | 0, _, _, _, _, _ => none
  | n + 1, mid, pc, ls, st, D => match mMet mid, mFetch mid pc with
    | some row, some e => match mStep X row e pc ls st D with
      | some (.inl q) => mRun X n mid q.1 q.2.1 q.2.2.1 q.2.2.2
      | some (.inr (.inl v)) => some (v, D)
      | some (.inr (.inr q)) => match mMet q.1 with
        | some r => cond (Nat.ble q.2.1.length r.2.2.2.1) (match mRun X n q.1 0 (mEnv r.2.2.2.1 q.2.1) [] D with
          | some z => mRun X n mid (pc + 3) ls (z.1.toList ++ q.2.2) z.2
          | none => none) none
        | none => none
      | none => none
    | _, _ => none
end
section
/-! ===== the small machine's worlds in the real heap ===== -/
abbrev mG : Type := Nat × (Nat → Nat) × va_G × (Nat → ClassId) × mSc
def mAd (G : mG) (i : Nat) : Nat := if i < 1000000 then G.1 + i else G.2.1 (i - 1000000)
def mV (G : mG) (v : Value) : Value := match v with
  | .ref i => .ref (mAd G i)
  | v => v
def mCA (G : mG) (a : vp_A) : vp_A := match a with
  | (n, .inr (.inr (.inr (.inr f)))) => (n, .inr (.inr (.inr (.inr (fun i => (f i).map (mAd G))))))
  | a => a
def mCE (G : mG) (c : va_E) : va_E := match c with
  | .inl a => .inl (G.2.2.2.1 a.1, mCA G a.2)
  | .inr o => .inr (o.1, o.2.map (mV G))
def mW (G : mG) : Nat → mHp → va_W
  | _, [] => []
  | k, c :: D => (G.1 + k, mCE G c) :: mW G (k + 1) D
theorem mV_cat (G : mG) (v : Value) : (mV G v).category = v.category := by cases v <;> rfl
theorem mV_rf (G : mG) (r : Option Nat) : mV G (va_rf r) = va_rf (r.map (mAd G)) := by cases r <;> rfl
theorem mAd_lt {G : mG} {i : Nat} (h : i < 1000000) : mAd G i = G.1 + i := if_pos h
theorem mW_get (G : mG) : ∀ (D : mHp) (k i : Nat), (mW G k D)[i]? = (D[i]?).map (fun c => (G.1 + (k + i), mCE G c)) := by
  intro D
  induction D with
  | nil => intro k i; simp [mW]
  | cons c D ih =>
    intro k i
    cases i with
    | zero => simp [mW]
    | succ i =>
      simp only [mW, List.getElem?_cons_succ]
      rw [ih, show k + 1 + i = k + (i + 1) by omega]
theorem mW_at {G : mG} {D : mHp} {i : Nat} {c : va_E} (h : D[i]? = some c) : (mW G 0 D)[i]? = some (G.1 + i, mCE G c) := by
  rw [mW_get, h, Option.map_some, Nat.zero_add]
theorem mW_set (G : mG) (c : va_E) : ∀ (D : mHp) (k i : Nat), mW G k (D.set i c) = (mW G k D).set i (G.1 + (k + i), mCE G c) := by
  intro D
  induction D with
  | nil => intro k i; simp [mW]
  | cons d D ih =>
    intro k i
    cases i with
    | zero => simp [mW]
    | succ i =>
      simp only [mW, List.set_cons_succ]
      rw [ih, show k + 1 + i = k + (i + 1) by omega]
theorem mW_set0 (G : mG) (D : mHp) (i : Nat) (c : va_E) : mW G 0 (D.set i c) = (mW G 0 D).set i (G.1 + i, mCE G c) := by rw [mW_set, Nat.zero_add]
theorem mW_app (G : mG) (E : mHp) : ∀ (D : mHp) (k : Nat), mW G k (D ++ E) = mW G k D ++ mW G (k + D.length) E := by
  intro D
  induction D with
  | nil => intro k; simp [mW]
  | cons d D ih =>
    intro k
    simp only [List.cons_append, mW, List.length_cons]
    rw [ih, show k + 1 + D.length = k + (D.length + 1) by omega]
abbrev mA (G : mG) : Nat → Prop := fun q => G.1 ≤ q
theorem mW_D (G : mG) (D : mHp) : va_D (mA G) (mW G 0 D) := by
  refine ⟨fun i j p q hi hj h => ?_, fun k q hk => ?_⟩
  · rw [mW_get] at hi hj
    obtain ⟨c, -, rfl⟩ := Option.map_eq_some_iff.mp hi
    obtain ⟨d, -, rfl⟩ := Option.map_eq_some_iff.mp hj
    have h9 : G.1 + (0 + i) = G.1 + (0 + j) := h
    omega
  · rw [mW_get] at hk
    obtain ⟨c, -, rfl⟩ := Option.map_eq_some_iff.mp hk
    show G.1 ≤ G.1 + (0 + k)
    omega
def mMS (G : mG) (D : mHp) (H : Heap) : Prop := va_P G.2.2.1 vwCl (mW G 0 D) H
theorem mMS.low {G : mG} {D : mHp} {H : Heap} (h : mMS G D H) (h0 : G.1 ≤ H.size) : G.1 + D.length ≤ H.size := by
  cases hD : D.length with
  | zero => omega
  | succ n =>
    obtain ⟨c, hc⟩ : ∃ c, D[n]? = some c := ⟨D[n]'(by omega), List.getElem?_eq_getElem (by omega)⟩
    have := (h n _ (mW_at hc)).lt
    have h9 : G.1 + n < H.size := this
    omega
abbrev mTys (G : mG) : List (ClassId × FieldType) := [(G.2.2.2.1 0, .int), (G.2.2.2.1 1, .byte), (G.2.2.2.1 2, .object "EnvyRust$Sheet"), (G.2.2.2.1 3, .array .int), (G.2.2.2.1 4, .object "java/lang/String")]
/-- the words that every table keeps -/
noncomputable def mGW : List Cond := lw_tbl.filter goodWord
def mNest (w : Cond) : Bool := match w with
  | .fieldLinkNest .. => true
  | .methodLinkNest .. => true
  | _ => false
noncomputable def mNW : List Cond := lw_tbl.filter mNest
theorem mGW_good : GoodIn mGW mGW := fun w h => ⟨h, good_of_word (List.mem_filter.mp h).2⟩
theorem mGW_in {i : Nat} {w : Cond} (h : lw_tbl[i]? = some w) (hg : goodWord w = true) : w ∈ mGW := List.mem_filter.mpr ⟨List.mem_of_getElem? h, hg⟩
theorem mNW_in {i : Nat} {w : Cond} (h : lw_tbl[i]? = some w) (hg : mNest w = true) : w ∈ mNW := List.mem_filter.mpr ⟨List.mem_of_getElem? h, hg⟩
/-- what holds of the tables and of the cells that nobody writes: classes, links, texts, the kinds' table, the script -/
noncomputable def mE (G : mG) (U : State) (H : Heap) : Prop :=
  va_K G.2.2.1 vwCl (mTys G) U ∧ (∀ w ∈ mNW, va_Nw w U) ∧ (va_AO "EnvyRust$Sheet" U ∧ va_AO "java/lang/String" U ∧ (Cond.arrayOver (.array .int)).before #[] U = true) ∧
  (∀ t, t < 15 → va_O "java/lang/String" (G.2.1 t) (mA G) U H ∧ va_OF "java/lang/String" "coder" "B" (.int 0) (G.2.1 t) (mA G) U H ∧ va_OF "java/lang/String" "value" "[B" (.ref (G.2.1 (300 + t))) (G.2.1 t) (mA G) U H ∧ va_T .byte (G.2.1 (300 + t)) (mTx.getD t []).length (fun j => .int (nI ((mTx.getD t []).getD j 0))) (mA G) U H) ∧ (∀ q ∈ mLT, q.2.2.1 = 3 → vk_R (mNm q.1) q.2.1 (mTs.getD q.2.2.2.2.1 "") (G.2.1 q.2.2.2.2.1) U) ∧
  va_Z "EnvyRust" "KIND_ABOVE" "[I" (.ref (G.2.1 100)) (mA G) U H ∧ va_T .int (G.2.1 100) 7 (fun j => .int (mKA j)) (mA G) U H ∧ va_T .int (G.2.1 200) G.2.2.2.2.1 (fun j => .int (G.2.2.2.2.2 j)) (mA G) U H ∧
  (va_Z "java/lang/String" "COMPACT_STRINGS" "Z" (.int 1) (mA G) U H ∧ va_Zq "jdk/internal/util/Preconditions" "SIOOBE_FORMATTER" "Ljava/util/function/BiFunction;" (mA G) U H)
theorem mAO_moved {t : FieldType} {u U : State} (hvm : u.vm.Alike U.vm) (h : (Cond.arrayOver (.array t)).before #[] u = true) : (Cond.arrayOver (.array t)).before #[] U = true := by
  have h0 : (Cond.arrayOver (.array t)).before #[] u = true := h
  simp only [Cond.before, Cond.holds, Cond.value, beq_iff_eq] at h
  cases hc : u.vm.findClass (FieldType.array t).toString with
  | none => simp [hc] at h
  | some comp =>
    simp only [hc, Option.bind_some, Option.bind_eq_some_iff, Option.map_eq_some_iff] at h
    obtain ⟨c, h2, k, h3, hb⟩ := h
    obtain ⟨k', hk', he⟩ := hvm.2.2 _ _ h3
    have hi := (va_idx_bare U.vm comp).symm.trans ((congrArg (fun b : Vm => (b.classes.findIdx? fun (x : Class) => match x.kind with | .array component _ => component == comp | _ => false)) hvm.bare_eq).trans ((va_idx_bare u.vm comp).trans h2))
    have hkind : k'.kind = k.kind := by rw [he]
    have f1 : U.vm.findClass (FieldType.array t).toString = some comp := by rw [hvm.findClass]; exact hc
    unfold Cond.before Cond.holds
    simp only [Cond.value]
    rw [f1, Option.bind_some]
    refine (congrArg (fun o : Option Nat => (o.bind (fun c => (U.vm.classes[c]?).map fun (k : Class) => match k.kind with | .array _ ty => decide (ty = FieldType.array t) && decide (U.vm.findClass ("[" ++ (FieldType.array t).toString) = some c) | _ => false) == some true)) hi).trans ?_
    cases hkk : k.kind with
    | array c0 ty =>
      rw [hkk] at hb hkind
      simp only [Bool.and_eq_true, decide_eq_true_eq] at hb
      simp [hk', hkind, hvm.findClass, hb.1, hb.2]
    | _ => rw [hkk] at hb; simp at hb
theorem mE_to {G : mG} {s U : State} {H H1 : Heap} (hA : s.vm.Alike U.vm) (hN : ∀ w ∈ mNW, va_Nw w s → va_Nw w U) (hR : ∀ own k tx a, vk_R own k tx a s → vk_R own k tx a U) (hq : ∀ a : Nat, a < H.size → ¬ mA G a → H1[a]? = H[a]?) (h : mE G s H) : mE G U H1 := by
  obtain ⟨h1, h2, ⟨h3, h4, h5⟩, h6, h7, h8, h9, h10, h11, h12⟩ := h
  exact ⟨h1.moved hA, fun w hw => hN w hw (h2 w hw), ⟨h3.moved hA, h4.moved hA, mAO_moved hA h5⟩, fun t ht => ⟨((h6 t ht).1.moved hA).kept hq, ((h6 t ht).2.1.moved hA).kept hq, ((h6 t ht).2.2.1.moved hA).kept hq, ((h6 t ht).2.2.2.moved hA).kept hq⟩, fun q hq hk => hR _ _ _ _ (h7 q hq hk), (h8.moved hA).kept hq, (h9.moved hA).kept hq, (h10.moved hA).kept hq, (h11.moved hA).kept hq, (h12.moved hA).kept hq⟩
theorem mE_call {G : mG} {s U : State} {H : Heap} {locs : List Loc} (h : mE G s s.heap) (hW : s.WarmedH U.vm) (hU : U.heap = H) (hS : va_S (mA G) s.heap H locs) : mE G U U.heap := by
  rw [hU]
  refine mE_to hW.alike (fun w hw hn => ?_) (fun _ _ _ _ => vk_R.warm hW) (fun a ha hna => hS.2.1 a ha hna) h
  have hk := (List.mem_filter.mp hw).2
  unfold mNest at hk
  split at hk
  · exact va_Nw.warmF hW hn
  · exact va_Nw.warmM hW hn
  · cases hk
theorem mE_calling {G : mG} {U : State} {g : JFrame} {mk : MethodId} {a : Array Value} (h : mE G U U.heap) : mE G (U.calling g mk a) (U.calling g mk a).heap := by
  refine mE_to (H := U.heap) (H1 := U.heap) (Vm.Alike.refl U.vm) (fun w hw hn => ?_) (fun _ _ _ _ h => vk_R.same (u := U) rfl h) (fun _ _ _ => rfl) h
  have hk := (List.mem_filter.mp hw).2
  unfold mNest at hk
  split at hk
  · exact va_Nw.same rfl (u := U) rfl hn
  · exact va_Nw.same rfl (u := U) rfl hn
  · cases hk
/-- the locals -/
def mLR (G : mG) (ls : Array Slot) (nL : Nat) (L : mLoc) : Prop := L.length = nL ∧ ls.size = nL ∧ lv_wf ls ∧ ∀ (i : Nat) (v : Value), L[i]? = some (some v) → ls[i]? = some (.val (mV G v))
def mPr (G : mG) (L : mLoc) : List (Nat × Value) := (List.range L.length).filterMap fun i => match L[i]? with
  | some (some v) => some (i, mV G v)
  | _ => none
theorem mPr_mem {G : mG} {L : mLoc} {i : Nat} {v : Value} (h : L[i]? = some (some v)) : (i, mV G v) ∈ mPr G L := by
  refine List.mem_filterMap.mpr ⟨i, List.mem_range.mpr (List.getElem?_eq_some_iff.mp h).1, ?_⟩
  rw [h]
theorem mLR.has {G : mG} {ls : Array Slot} {nL : Nat} {L : mLoc} (h : mLR G ls nL L) : lv_has ls nL (mPr G L) := by
  refine ⟨h.2.1, h.2.2.1, fun q hq => ?_⟩
  obtain ⟨i, -, hi⟩ := List.mem_filterMap.mp hq
  split at hi
  · rename_i v hv
    cases hi
    exact h.2.2.2 i v hv
  · cases hi
theorem mS1_spec {L L' : mLoc} {i : Nat} {v : Value} (h : mS1 L i v = some L') : i < L.length ∧ mOk L i = true ∧ L' = L.set i (some v) := by
  unfold mS1 at h
  cases hb : (Nat.blt i L.length && mOk L i) with
  | false => rw [hb] at h; cases h
  | true =>
    rw [hb] at h
    simp only [Bool.and_eq_true] at hb
    exact ⟨Nat.blt_eq.mp hb.1, hb.2, (Option.some.inj h).symm⟩
theorem mS2_spec {L L' : mLoc} {i : Nat} {v : Value} (h : mS2 L i v = some L') : i + 1 < L.length ∧ mOk L i = true ∧ L' = (L.set i (some v)).set (i + 1) none := by
  unfold mS2 at h
  cases hb : (Nat.blt (i + 1) L.length && mOk L i) with
  | false => rw [hb] at h; cases h
  | true =>
    rw [hb] at h
    simp only [Bool.and_eq_true] at hb
    exact ⟨Nat.blt_eq.mp hb.1, hb.2, (Option.some.inj h).symm⟩
theorem mOk_cat {L : mLoc} {i j : Nat} {w : Value} (h : mOk L i = true) (hj : L[j]? = some (some w)) (hji : j + 1 = i) : w.category = 1 := by
  subst hji
  unfold mOk at h
  simp only [hj] at h
  exact Nat.eq_of_beq_eq_true h
theorem mLR.put1 {G : mG} {ls ls' : Array Slot} {nL : Nat} {L L' : mLoc} {i : Nat} {v : Value} (h : mLR G ls nL L) (hs : mS1 L i v = some L') (hl : lv_has ls' nL ((i, mV G v) :: (mPr G L).filter (fun q => !(q.1 == i) && !(q.1 + 1 == i && q.2.category == 2)))) : mLR G ls' nL L' := by
  obtain ⟨h1, h2, rfl⟩ := mS1_spec hs
  refine ⟨by rw [List.length_set]; exact h.1, hl.1, hl.2.1, fun j w hj => ?_⟩
  by_cases hji : i = j
  · subst hji
    rw [List.getElem?_set_self h1] at hj
    cases hj
    exact hl.2.2 _ List.mem_cons_self
  · rw [List.getElem?_set_ne hji] at hj
    refine hl.2.2 (j, mV G w) (List.mem_cons_of_mem _ (List.mem_filter.mpr ⟨mPr_mem hj, ?_⟩))
    have e1 : (j == i) = false := by simpa using fun e => hji e.symm
    have e2 : (j + 1 == i && (mV G w).category == 2) = false := by
      by_cases hk : j + 1 = i
      · rw [mV_cat, mOk_cat h2 hj hk]; simp
      · simp [hk]
    show (!(j == i) && !(j + 1 == i && (mV G w).category == 2)) = true
    rw [e1, e2]; rfl
theorem mLR.put2 {G : mG} {ls ls' : Array Slot} {nL : Nat} {L L' : mLoc} {i : Nat} {v : Value} (h : mLR G ls nL L) (hs : mS2 L i v = some L') (hl : lv_has ls' nL ((i, mV G v) :: (mPr G L).filter (fun q => !(q.1 == i) && (!(q.1 == i + 1) && !(q.1 + 1 == i && q.2.category == 2))))) : mLR G ls' nL L' := by
  obtain ⟨h1, h2, rfl⟩ := mS2_spec hs
  refine ⟨by rw [List.length_set, List.length_set]; exact h.1, hl.1, hl.2.1, fun j w hj => ?_⟩
  by_cases hj1 : i + 1 = j
  · subst hj1
    rw [List.getElem?_set_self (by rw [List.length_set]; exact h1)] at hj
    cases hj
  · rw [List.getElem?_set_ne hj1] at hj
    by_cases hji : i = j
    · subst hji
      rw [List.getElem?_set_self (by omega)] at hj
      cases hj
      exact hl.2.2 _ List.mem_cons_self
    · rw [List.getElem?_set_ne hji] at hj
      refine hl.2.2 (j, mV G w) (List.mem_cons_of_mem _ (List.mem_filter.mpr ⟨mPr_mem hj, ?_⟩))
      have e1 : (j == i) = false := by simpa using fun e => hji e.symm
      have e3 : (j == i + 1) = false := by simpa using fun e => hj1 e.symm
      have e2 : (j + 1 == i && (mV G w).category == 2) = false := by
        by_cases hk : j + 1 = i
        · rw [mV_cat, mOk_cat h2 hj hk]; simp
        · simp [hk]
      show (!(j == i) && (!(j == i + 1) && !(j + 1 == i && (mV G w).category == 2))) = true
      rw [e1, e2, e3]; rfl
theorem mSl_set {D : mHp} {i : Nat} {c c' : va_E} (h : D[i]? = some c) (hz : mSz c' = mSz c) : mSl (D.set i c') = mSl D := by
  induction D generalizing i with
  | nil => simp at h
  | cons d D ih =>
    cases i with
    | zero =>
      simp only [List.getElem?_cons_zero, Option.some.injEq] at h
      subst h
      simp [mSl, hz]
    | succ i =>
      simp only [List.getElem?_cons_succ] at h
      have := ih h
      simp only [mSl, List.set_cons_succ, List.map_cons, List.sum_cons] at this ⊢
      omega
theorem mSl_app (D E : mHp) : mSl (D ++ E) = mSl D + mSl E := by simp [mSl]
end
section
/-! ===== what a program decides of the tables ===== -/
noncomputable def mY (i : Nat) : MethodName := ((mMet i).map fun r => r.2.1).getD ⟨"", "", ""⟩
def mCo (t : Nat) : String := match t with
  | 2 => "EnvyRust$Sheet"
  | _ => "java/lang/String"
def mStrLen : MethodName := ⟨"java/lang/String", "length", "()I"⟩
def mStrChr : MethodName := ⟨"java/lang/String", "charAt", "(I)C"⟩
noncomputable def mLwd (q : mLnk) : Cond := match q.2.2.1 with
  | 0 => .fieldLink (mNm q.1) q.2.1 (mNm q.2.2.2.1) (mFT q.2.2.2.1 q.2.2.2.2.1).2.1 (mFT q.2.2.2.1 q.2.2.2.2.1).2.2.1
  | 1 => .fieldLinkNest (mNm q.1) q.2.1 (mNm q.2.2.2.1) (mFT q.2.2.2.1 q.2.2.2.2.1).2.1 (mFT q.2.2.2.1 q.2.2.2.2.1).2.2.1 "EnvyRust"
  | 2 => .constant (mNm q.1) q.2.1 (Int32.ofInt q.2.2.2.2.2)
  | 3 => .stringRef (mNm q.1) q.2.1 (mTs.getD q.2.2.2.2.1 "")
  | 4 => .classLink (mNm q.1) q.2.1 (mNm q.2.2.2.1)
  | 5 => .classLink (mNm q.1) q.2.1 (mCo q.2.2.2.1)
  | 6 => .classLink (mNm q.1) q.2.1 "[[I"
  | 7 => .fieldLink (mNm q.1) q.2.1 "EnvyRust" "KIND_ABOVE" "[I"
  | 10 => .methodLink (mNm q.1) q.2.1 (mY q.2.2.2.1)
  | 12 => .methodLink (mNm q.1) q.2.1 (mY q.2.2.2.1)
  | 14 => .methodLink (mNm q.1) q.2.1 (mY q.2.2.2.1)
  | 11 => .methodLinkNest (mNm q.1) q.2.1 (mY q.2.2.2.1) "EnvyRust"
  | 13 => .methodLinkNest (mNm q.1) q.2.1 (mY q.2.2.2.1) "EnvyRust"
  | 15 => .methodLinkNest (mNm q.1) q.2.1 (mY q.2.2.2.1) "EnvyRust"
  | 20 => .methodLink (mNm q.1) q.2.1 Lib.objectInit
  | 21 => .methodLink (mNm q.1) q.2.1 arraycopyName
  | 22 => .methodLink (mNm q.1) q.2.1 mStrLen
  | 24 => .methodLink (mNm q.1) q.2.1 Lib.Math.max.name
  | 25 => .methodLink (mNm q.1) q.2.1 Lib.Math.min.name
  | _ => .methodLink (mNm q.1) q.2.1 mStrChr
noncomputable def mLck (q : mLnk) : Bool := match q.2.2.1 with
  | 0 => goodWord (mLwd q) && Nat.blt q.2.2.2.1 5 && Nat.blt q.2.2.2.2.1 (mFN q.2.2.2.1) && decide ((mFT q.2.2.2.1 q.2.2.2.2.1).1 = mNm q.2.2.2.1)
  | 1 => mNest (mLwd q) && Nat.blt q.2.2.2.1 5 && Nat.blt q.2.2.2.2.1 (mFN q.2.2.2.1) && decide ((mFT q.2.2.2.1 q.2.2.2.2.1).1 = mNm q.2.2.2.1)
  | 3 => Nat.blt q.2.2.2.2.1 15
  | 4 => goodWord (mLwd q) && Nat.blt q.2.2.2.1 5
  | 5 => goodWord (mLwd q) && (Nat.beq q.2.2.2.1 2 || Nat.beq q.2.2.2.1 4)
  | 10 => goodWord (mLwd q) && decide ((parseMethodDescriptor (mY q.2.2.2.1).desc).map (fun d => d.parameters.length + 1) = some q.2.2.2.2.1)
  | 11 => mNest (mLwd q) && decide ((parseMethodDescriptor (mY q.2.2.2.1).desc).map (fun d => d.parameters.length + 1) = some q.2.2.2.2.1)
  | 12 => goodWord (mLwd q) && decide ((parseMethodDescriptor (mY q.2.2.2.1).desc).map (fun d => d.parameters.length) = some q.2.2.2.2.1)
  | 13 => mNest (mLwd q) && decide ((parseMethodDescriptor (mY q.2.2.2.1).desc).map (fun d => d.parameters.length) = some q.2.2.2.2.1)
  | 14 => goodWord (mLwd q) && decide ((parseMethodDescriptor (mY q.2.2.2.1).desc).map (fun d => d.parameters.length + 1) = some q.2.2.2.2.1) && decide ((mY q.2.2.2.1).name = "<init>")
  | 15 => mNest (mLwd q) && decide ((parseMethodDescriptor (mY q.2.2.2.1).desc).map (fun d => d.parameters.length + 1) = some q.2.2.2.2.1) && decide ((mY q.2.2.2.1).name = "<init>")
  | _ => goodWord (mLwd q)
theorem mLT_ck : mLT.all mLck = true := by decide +kernel
theorem mLT_wk : mWalk 0 tables_1 (mLH.zip (mLT.map mLwd)) = true := by decide +kernel
theorem mLT_len : mLT.length = mLH.length := by decide +kernel
theorem mTb_in {w : Cond} (h : w ∈ tables_1) : w ∈ lw_tbl := List.mem_append_right _ h
theorem mTb_gw {w : Cond} (h : w ∈ tables_1) (hg : goodWord w = true) : w ∈ mGW := List.mem_filter.mpr ⟨mTb_in h, hg⟩
theorem mTb_nw {w : Cond} (h : w ∈ tables_1) (hg : mNest w = true) : w ∈ mNW := List.mem_filter.mpr ⟨mTb_in h, hg⟩
theorem mLT_at {j : Nat} {q : mLnk} (h : mLT[j]? = some q) : mLwd q ∈ tables_1 ∧ mLck q = true := by
  have hj : j < mLT.length := (List.getElem?_eq_some_iff.mp h).1
  have hk : j < mLH.length := by rw [← mLT_len]; exact hj
  refine ⟨?_, List.all_eq_true.mp mLT_ck _ (List.mem_of_getElem? h)⟩
  refine mWalk_spec mLT_wk (mLH[j], mLwd q) (List.mem_of_getElem? (i := j) ?_)
  rw [List.getElem?_zip_eq_some]
  exact ⟨List.getElem?_eq_getElem hk, by rw [List.getElem?_map, h]; rfl⟩
noncomputable def mCw (r : mRow) : MethodName × ByteArray × Nat × Option FieldType := (r.2.1, r.2.2.1, r.2.2.2.1, r.2.2.2.2.1)
set_option maxRecDepth 100000 in
theorem mM_cw : tables_1.filterMap (fun w => match w with
    | .code y b n r => some (y, b, n, r)
    | _ => none) = mMs.flatten.dropLast.map mCw := by rfl
end
section
theorem mIS_wk : mWalk 0 tables_1 (mIS.map fun q => (q.1, cond (Nat.beq q.2.2 1) (.static (mY q.2.1)) (.instanceMethod (mY q.2.1)))) = true := by decide +kernel
theorem mSE2_wk : mWalk 0 tables_1 (mSE2.map fun q => (q.1, .selects (mY q.2).cls (mY q.2) (mY q.2))) = true := by decide +kernel
theorem mSE1_wk : mWalk 0 (k2_sels lw_privs) (mSE1.map fun q => (q.1, .selects (mY q.2).cls (mY q.2) (mY q.2))) = true := by decide +kernel
theorem mIN_wk : mWalk 0 tables_1 (mIN.map fun q => (q.1, .initialized (mNm q.2))) = true := by decide +kernel
noncomputable def mMck (i : Nat) (r : mRow) : Bool := Nat.beq r.1 5 || Nat.ble 7 r.1 || (plainName r.2.1.cls && decide (r.2.1.cls = mNm r.1) && decide (r.2.1.cls ≠ "java/lang/invoke/MethodHandle" ∧ r.2.1.cls ≠ "java/lang/invoke/VarHandle")
  && mIN.any (fun q => Nat.beq q.2 r.1) && (mIS.any (fun q => Nat.beq q.2.1 i && Nat.beq q.2.2 1) || (mIS.any (fun q => Nat.beq q.2.1 i && !Nat.beq q.2.2 1) && (decide (r.2.1.name = "<init>") || mSE1.any (fun q => Nat.beq q.2 i) || mSE2.any (fun q => Nat.beq q.2 i)))))
theorem mM_ck : (List.range 256).all (fun i => match mMet i with
    | some r => mMck i r
    | none => true) = true := by decide +kernel
theorem mMs_len : mMs.length ≤ 16 := by decide +kernel
theorem mMs_last : mMs.flatten.getLast?.map (fun r => r.1) = some 5 := by decide +kernel
theorem mMet_lt {i : Nat} {r : mRow} (h : mMet i = some r) : i < 256 := by
  unfold mMet at h
  cases hl : mMs[i / 16]? with
  | none => rw [hl] at h; cases h
  | some l =>
    have := (List.getElem?_eq_some_iff.mp hl).1
    have := mMs_len
    omega
theorem mMet_in {i : Nat} {r : mRow} (h : mMet i = some r) : r ∈ mMs.flatten := by
  unfold mMet at h
  cases hl : mMs[i / 16]? with
  | none => rw [hl] at h; cases h
  | some l =>
    rw [hl, Option.bind_some] at h
    exact List.mem_flatten.mpr ⟨l, List.mem_of_getElem? hl, List.mem_of_getElem? h⟩
theorem mY_of {i : Nat} {r : mRow} (h : mMet i = some r) : mY i = r.2.1 := by unfold mY; rw [h]; rfl
theorem mM_code {i : Nat} {r : mRow} (h : mMet i = some r) (h5 : r.1 ≠ 5) : Cond.code r.2.1 r.2.2.1 r.2.2.2.1 r.2.2.2.2.1 ∈ tables_1 := by
  have hr := mMet_in h
  have hd : r ∈ mMs.flatten.dropLast := by
    have hn : mMs.flatten ≠ [] := fun e => by rw [e] at hr; cases hr
    rw [← List.dropLast_concat_getLast hn] at hr
    rcases List.mem_append.mp hr with q | q
    · exact q
    · exfalso
      have hl := mMs_last
      rw [List.getLast?_eq_some_getLast hn] at hl
      rw [List.mem_singleton.mp q] at h5
      exact h5 (Option.some.inj hl)
  have hm : mCw r ∈ mMs.flatten.dropLast.map mCw := List.mem_map.mpr ⟨r, hd, rfl⟩
  rw [← mM_cw] at hm
  obtain ⟨w, hw, he⟩ := List.mem_filterMap.mp hm
  split at he
  · cases he
    exact hw
  · cases he
theorem mM_at {i : Nat} {r : mRow} (h : mMet i = some r) (h5 : Nat.ble r.1 6 = true) (h6 : r.1 ≠ 5) : plainName r.2.1.cls = true ∧ r.2.1.cls = mNm r.1 ∧ (r.2.1.cls ≠ "java/lang/invoke/MethodHandle" ∧ r.2.1.cls ≠ "java/lang/invoke/VarHandle")
    ∧ Cond.initialized r.2.1.cls ∈ tables_1 ∧ (Cond.static r.2.1 ∈ tables_1 ∨ (Cond.instanceMethod r.2.1 ∈ tables_1 ∧ (r.2.1.name = "<init>" ∨ Cond.selects r.2.1.cls r.2.1 r.2.1 ∈ lw_tbl))) := by
  have hc := List.all_eq_true.mp mM_ck i (List.mem_range.mpr (mMet_lt h))
  simp only [h] at hc
  unfold mMck at hc
  have e5 : Nat.beq r.1 5 = false := by
    cases hb : Nat.beq r.1 5 with
    | false => rfl
    | true => exact absurd (Nat.eq_of_beq_eq_true hb) h6
  have e7 : Nat.ble 7 r.1 = false := by
    cases hb : Nat.ble 7 r.1 with
    | false => rfl
    | true =>
      have := Nat.le_of_ble_eq_true hb
      have := Nat.le_of_ble_eq_true h5
      omega
  rw [e5, e7] at hc
  simp only [Bool.false_or, Bool.and_eq_true, decide_eq_true_eq, Bool.or_eq_true, List.any_eq_true] at hc
  obtain ⟨⟨⟨⟨h1, h2⟩, h3⟩, qi, hqi, hqe⟩, h8⟩ := hc
  have hY := mY_of h
  refine ⟨h1, h2, h3, ?_, ?_⟩
  · have hm := mWalk_spec mIN_wk _ (List.mem_map.mpr ⟨qi, hqi, rfl⟩)
    rw [h2]
    have : qi.2 = r.1 := Nat.eq_of_beq_eq_true hqe
    rw [← this]
    exact hm
  · rcases h8 with ⟨q, hq, hqa, hqb⟩ | ⟨⟨q, hq, hqa, hqb⟩, h9⟩
    · left
      have hm := mWalk_spec mIS_wk _ (List.mem_map.mpr ⟨q, hq, rfl⟩)
      simp only [hqb, cond_true] at hm
      rw [Nat.eq_of_beq_eq_true hqa, hY] at hm
      exact hm
    · right
      refine ⟨?_, ?_⟩
      · have hm := mWalk_spec mIS_wk _ (List.mem_map.mpr ⟨q, hq, rfl⟩)
        have hqb' : Nat.beq q.2.2 1 = false := by simpa using hqb
        simp only [hqb', cond_false] at hm
        rw [Nat.eq_of_beq_eq_true hqa, hY] at hm
        exact hm
      · rcases h9 with (h9 | ⟨q, hq, hqa⟩) | ⟨q, hq, hqa⟩
        · exact Or.inl h9
        · right
          have hm := mWalk_spec mSE1_wk _ (List.mem_map.mpr ⟨q, hq, rfl⟩)
          simp only [Nat.eq_of_beq_eq_true hqa, hY] at hm
          exact List.mem_append_left _ hm
        · right
          have hm := mWalk_spec mSE2_wk _ (List.mem_map.mpr ⟨q, hq, rfl⟩)
          simp only [Nat.eq_of_beq_eq_true hqa, hY] at hm
          exact mTb_in hm
def mKi (i : Instr) : Option Nat := match i with
  | .getfield k => some k
  | .putfield k => some k
  | .getstatic k => some k
  | .ldc k => some k
  | .ldc_w k => some k
  | .new k => some k
  | .anewarray k => some k
  | .multianewarray k _ => some k
  | .invokestatic k => some k
  | .invokevirtual k => some k
  | .invokespecial k => some k
  | _ => none
def mKd (i : Instr) (k : Nat) : Bool := match i with
  | .getfield _ => Nat.ble k 1
  | .putfield _ => Nat.ble k 1
  | .getstatic _ => Nat.beq k 7
  | .ldc _ => Nat.beq k 2 || Nat.beq k 3
  | .ldc_w _ => Nat.beq k 2 || Nat.beq k 3
  | .new _ => Nat.beq k 4
  | .anewarray _ => Nat.beq k 5
  | .multianewarray _ _ => Nat.beq k 6
  | .invokestatic _ => Nat.beq k 12 || Nat.beq k 13 || Nat.beq k 21 || Nat.beq k 24 || Nat.beq k 25
  | .invokevirtual _ => Nat.beq k 10 || Nat.beq k 11 || Nat.beq k 22 || Nat.beq k 23
  | .invokespecial _ => Nat.beq k 14 || Nat.beq k 15 || Nat.beq k 20
  | _ => true
/-- the callee's room fits, and it is no law -/
noncomputable def mRm (row : mRow) (k a : Nat) : Bool := match k with
  | 20 => Nat.ble 1 row.2.2.2.2.2.1 && Nat.ble 20 row.2.2.2.2.2.2
  | 21 => Nat.ble 1 row.2.2.2.2.2.1 && Nat.ble 30 row.2.2.2.2.2.2
  | 22 => Nat.ble 2 row.2.2.2.2.2.1 && Nat.ble 40 row.2.2.2.2.2.2
  | 23 => Nat.ble 5 row.2.2.2.2.2.1 && Nat.ble 121 row.2.2.2.2.2.2
  | 24 => Nat.ble 1 row.2.2.2.2.2.1 && Nat.ble 21 row.2.2.2.2.2.2
  | 25 => Nat.ble 1 row.2.2.2.2.2.1 && Nat.ble 21 row.2.2.2.2.2.2
  | _ => match mMet a with
    | some r => Nat.ble (r.2.2.2.2.2.1 + 1) row.2.2.2.2.2.1 && Nat.ble (8 + (r.2.2.2.1 + 11) + r.2.2.2.2.2.2) row.2.2.2.2.2.2 && !Nat.beq r.1 5 && Nat.ble r.1 6
    | none => false
def mLn (i : Instr) : Nat := match i with
  | .bipush _ => 2
  | .sipush _ => 3
  | .ldc _ => 2
  | .ldc_w _ => 3
  | .iload _ => 2
  | .lload _ => 2
  | .aload _ => 2
  | .istore _ => 2
  | .lstore _ => 2
  | .astore _ => 2
  | .iinc _ _ => 3
  | .ifCond _ _ => 3
  | .if_icmp _ _ => 3
  | .goto _ => 3
  | .getfield _ => 3
  | .putfield _ => 3
  | .getstatic _ => 3
  | .invokestatic _ => 3
  | .invokevirtual _ => 3
  | .invokespecial _ => 3
  | .new _ => 3
  | .newarray _ => 2
  | .anewarray _ => 3
  | .multianewarray _ _ => 4
  | _ => 1
def mLnk' (i : Instr) (n : Nat) : Bool := match i with
  | .tableswitch _ _ _ _ => true
  | i => Nat.beq n (mLn i)
noncomputable def mEck (row : mRow) (e : mEnt) : Bool := mLnk' e.1 e.2.1 && match mKi e.1 with
  | none => true
  | some idx => mKd e.1 e.2.2.2.1 && decide (mLT[e.2.2.1]? = some (row.1, idx, e.2.2.2.1, e.2.2.2.2.1, e.2.2.2.2.2.1, e.2.2.2.2.2.2)) && (Nat.blt e.2.2.2.1 10 || mRm row e.2.2.2.1 e.2.2.2.2.1)
section FE
/-- the byte at a place of a list -/
noncomputable def fB (l : List UInt8) (k : Nat) : Nat := match l.drop k with
  | [] => 999
  | b :: _ => b.toNat
noncomputable def fW (l : List UInt8) : Nat := fB l 1 * 256 + fB l 2
noncomputable def fC : Jvm.ClassFile.Cond → Nat
  | .eq => 0
  | .ne => 1
  | .lt => 2
  | .ge => 3
  | .gt => 4
  | .le => 5
/-- whether a list of bytes begins with an instruction of n bytes (for the common ones) -/
noncomputable def fEn (i : Instr) (l : List UInt8) (n : Nat) : Bool := match i with
  | .ireturn => Nat.beq (fB l 0) 172 && Nat.beq n 1
  | .iaload => Nat.beq (fB l 0) 46 && Nat.beq n 1
  | .iadd => Nat.beq (fB l 0) 96 && Nat.beq n 1
  | .pop => Nat.beq (fB l 0) 87 && Nat.beq n 1
  | .aaload => Nat.beq (fB l 0) 50 && Nat.beq n 1
  | .iastore => Nat.beq (fB l 0) 79 && Nat.beq n 1
  | .isub => Nat.beq (fB l 0) 100 && Nat.beq n 1
  | .dup => Nat.beq (fB l 0) 89 && Nat.beq n 1
  | .return_ => Nat.beq (fB l 0) 177 && Nat.beq n 1
  | .imul => Nat.beq (fB l 0) 104 && Nat.beq n 1
  | .ishl => Nat.beq (fB l 0) 120 && Nat.beq n 1
  | .iand => Nat.beq (fB l 0) 126 && Nat.beq n 1
  | .ior => Nat.beq (fB l 0) 128 && Nat.beq n 1
  | .aload_n m => Nat.beq (fB l 0) (42 + m.val) && Nat.beq n 1
  | .iload_n m => Nat.beq (fB l 0) (26 + m.val) && Nat.beq n 1
  | .istore_n m => Nat.beq (fB l 0) (59 + m.val) && Nat.beq n 1
  | .iconst z => Nat.ble 2 (fB l 0) && (Nat.ble (fB l 0) 8 && (decide (z = (fB l 0 : Int) - 3) && Nat.beq n 1))
  | .getfield m => Nat.beq (fB l 0) 180 && (Nat.ble (fB l 2) 255 && (Nat.ble (fB l 1) 255 && (Nat.beq m (fW l) && Nat.beq n 3)))
  | .putfield m => Nat.beq (fB l 0) 181 && (Nat.ble (fB l 2) 255 && (Nat.ble (fB l 1) 255 && (Nat.beq m (fW l) && Nat.beq n 3)))
  | .invokevirtual m => Nat.beq (fB l 0) 182 && (Nat.ble (fB l 2) 255 && (Nat.ble (fB l 1) 255 && (Nat.beq m (fW l) && Nat.beq n 3)))
  | .invokespecial m => Nat.beq (fB l 0) 183 && (Nat.ble (fB l 2) 255 && (Nat.ble (fB l 1) 255 && (Nat.beq m (fW l) && Nat.beq n 3)))
  | .invokestatic m => Nat.beq (fB l 0) 184 && (Nat.ble (fB l 2) 255 && (Nat.ble (fB l 1) 255 && (Nat.beq m (fW l) && Nat.beq n 3)))
  | .ldc m => Nat.beq (fB l 0) 18 && (Nat.ble (fB l 1) 255 && (Nat.beq m (fB l 1) && Nat.beq n 2))
  | .iload m => Nat.beq (fB l 0) 21 && (Nat.ble (fB l 1) 255 && (Nat.beq m (fB l 1) && Nat.beq n 2))
  | .istore m => Nat.beq (fB l 0) 54 && (Nat.ble (fB l 1) 255 && (Nat.beq m (fB l 1) && Nat.beq n 2))
  | .bipush z => Nat.beq (fB l 0) 16 && (Nat.ble (fB l 1) 255 && (decide (z = Reader.signed 8 (fB l 1)) && Nat.beq n 2))
  | .goto z => Nat.beq (fB l 0) 167 && (Nat.ble (fB l 2) 255 && (Nat.ble (fB l 1) 255 && (decide (z = Reader.signed 16 (fW l)) && Nat.beq n 3)))
  | .ifCond c z => Nat.beq (fB l 0) (153 + fC c) && (Nat.ble (fB l 2) 255 && (Nat.ble (fB l 1) 255 && (decide (z = Reader.signed 16 (fW l)) && Nat.beq n 3)))
  | .if_icmp c z => Nat.beq (fB l 0) (159 + fC c) && (Nat.ble (fB l 2) 255 && (Nat.ble (fB l 1) 255 && (decide (z = Reader.signed 16 (fW l)) && Nat.beq n 3)))
  | _ => false
variable {C : ByteArray} {p pc n : Nat} {l : List UInt8} {b b1 b2 : UInt8}
theorem fb_at {k x : Nat} (hl : ∀ j, l[j]? = C.data.toList[p + j]?) (h : fB l k = x) (hx : x ≤ 255) : ∃ b : UInt8, C.data.toList[p + k]? = some b ∧ b.toNat = x := by
  unfold fB at h
  cases hd : l.drop k with
  | nil => rw [hd] at h; exact absurd (show 999 = x from h) (by omega)
  | cons b t =>
    rw [hd] at h
    refine ⟨b, ?_, h⟩
    rw [← hl k, ← List.head?_drop, hd]
    rfl
theorem fu1 (h : C.data.toList[p]? = some b) : (Reader.u1 : Reader DecodeError Nat) C p = .ok (b.toNat, p + 1) := by
  have h1 : p < C.size := by
    have := (List.getElem?_eq_some_iff.mp h).1
    simpa using this
  have h2 : C[p] = b := by
    rw [List.getElem?_eq_getElem (by simpa using h1)] at h
    exact Option.some.inj h
  show (do if h : p < C.size then do set (p + 1); Pure.pure C[p].toNat else MonadExcept.throw (HasTruncated.truncated p) : Reader DecodeError Nat) C p = _
  rw [dif_pos h1, h2]
  rfl
theorem fbd {α β : Type} {r : Reader DecodeError α} {f : α → Reader DecodeError β} {a : α} {q : Nat} {z : Except DecodeError (β × Nat)} (h : r C p = .ok (a, q)) (g : f a C q = z) : (r >>= f) C p = z := by
  have e : (r >>= f) C p = (match r C p with | .error e => Except.error e | .ok (a, s) => f a C s) := by
    show (do let (a, s) ← r C p; f a C s : Except DecodeError (β × Nat)) = _
    cases r C p <;> rfl
  rw [e, h]
  exact g
theorem fmp {α β : Type} {r : Reader DecodeError α} {g : α → β} {a : α} {q : Nat} (h : r C p = .ok (a, q)) : (g <$> r) C p = .ok (g a, q) := by
  have e : (g <$> r) = (r >>= fun a => Pure.pure (g a)) := by
    funext A s
    show (do let (a, t) ← r A s; .ok (g a, t) : Except DecodeError (β × Nat)) = (do let (a, t) ← r A s; .ok (g a, t))
    rfl
  rw [e]
  exact fbd h rfl
theorem fu2 (h1 : C.data.toList[p]? = some b1) (h2 : C.data.toList[p + 1]? = some b2) : (Reader.u2 : Reader DecodeError Nat) C p = .ok (b1.toNat * 256 + b2.toNat, p + 2) := fbd (fu1 h1) (fbd (fu1 h2) rfl)
theorem f_op {f : Nat → Reader DecodeError Instr} {k : Nat} {z : Except DecodeError (Instr × Nat)} (hl : ∀ j, l[j]? = C.data.toList[p + j]?) (h : fB l 0 = k) (hk : k ≤ 255) (g : f k C (p + 1) = z) : (Reader.u1 >>= f) C p = z := by
  obtain ⟨b, h1, h2⟩ := fb_at hl h hk
  exact fbd (fu1 h1) (by rw [h2]; exact g)
theorem f_u1 {α : Type} {g : Nat → α} (hl : ∀ j, l[j]? = C.data.toList[p + j]?) (h : fB l 1 ≤ 255) : (Reader.u1 >>= fun x => (Pure.pure (g x) : Reader DecodeError α)) C (p + 1) = .ok (g (fB l 1), p + 2) := by
  obtain ⟨b, h1, h2⟩ := fb_at hl rfl h
  refine fbd (fu1 h1) ?_
  rw [h2]
  rfl
theorem f_s1 {α : Type} {g : Int → α} (hl : ∀ j, l[j]? = C.data.toList[p + j]?) (h : fB l 1 ≤ 255) : (Reader.s1 >>= fun x => (Pure.pure (g x) : Reader DecodeError α)) C (p + 1) = .ok (g (Reader.signed 8 (fB l 1)), p + 2) := by
  obtain ⟨b, h1, h2⟩ := fb_at hl rfl h
  refine fbd (fmp (fu1 h1)) ?_
  rw [h2]
  rfl
theorem f_u2 {α : Type} {g : Nat → α} (hl : ∀ j, l[j]? = C.data.toList[p + j]?) (h : fB l 1 ≤ 255) (h' : fB l 2 ≤ 255) : (Reader.u2 >>= fun x => (Pure.pure (g x) : Reader DecodeError α)) C (p + 1) = .ok (g (fW l), p + 3) := by
  obtain ⟨b1, h1, e1⟩ := fb_at hl rfl h
  obtain ⟨b2, h2, e2⟩ := fb_at hl rfl h'
  refine fbd (fu2 h1 h2) ?_
  rw [e1, e2]
  rfl
theorem f_s2 {α : Type} {g : Int → α} (hl : ∀ j, l[j]? = C.data.toList[p + j]?) (h : fB l 1 ≤ 255) (h' : fB l 2 ≤ 255) : (Reader.s2 >>= fun x => (Pure.pure (g x) : Reader DecodeError α)) C (p + 1) = .ok (g (Reader.signed 16 (fW l)), p + 3) := by
  obtain ⟨b1, h1, e1⟩ := fb_at hl rfl h
  obtain ⟨b2, h2, e2⟩ := fb_at hl rfl h'
  refine fbd (fmp (fu2 h1 h2)) ?_
  rw [e1, e2]
  rfl
theorem and2 {a b : Bool} (h : (a && b) = true) : a = true ∧ b = true := (Bool.and_eq_true _ _).mp h
theorem fe_ireturn (h : (Nat.beq (fB l 0) 172 && Nat.beq n 1) = true) (hl : ∀ j, l[j]? = C.data.toList[p + j]?) : Decoder.instr pc C p = .ok (.ireturn, p + n) := by
  obtain ⟨h1, h2⟩ := and2 h
  obtain rfl := Nat.eq_of_beq_eq_true h2
  delta Decoder.instr
  exact f_op hl (Nat.eq_of_beq_eq_true h1) (by decide) rfl
theorem fe_iaload (h : (Nat.beq (fB l 0) 46 && Nat.beq n 1) = true) (hl : ∀ j, l[j]? = C.data.toList[p + j]?) : Decoder.instr pc C p = .ok (.iaload, p + n) := by
  obtain ⟨h1, h2⟩ := and2 h
  obtain rfl := Nat.eq_of_beq_eq_true h2
  delta Decoder.instr
  exact f_op hl (Nat.eq_of_beq_eq_true h1) (by decide) rfl
theorem fe_iadd (h : (Nat.beq (fB l 0) 96 && Nat.beq n 1) = true) (hl : ∀ j, l[j]? = C.data.toList[p + j]?) : Decoder.instr pc C p = .ok (.iadd, p + n) := by
  obtain ⟨h1, h2⟩ := and2 h
  obtain rfl := Nat.eq_of_beq_eq_true h2
  delta Decoder.instr
  exact f_op hl (Nat.eq_of_beq_eq_true h1) (by decide) rfl
theorem fe_pop (h : (Nat.beq (fB l 0) 87 && Nat.beq n 1) = true) (hl : ∀ j, l[j]? = C.data.toList[p + j]?) : Decoder.instr pc C p = .ok (.pop, p + n) := by
  obtain ⟨h1, h2⟩ := and2 h
  obtain rfl := Nat.eq_of_beq_eq_true h2
  delta Decoder.instr
  exact f_op hl (Nat.eq_of_beq_eq_true h1) (by decide) rfl
theorem fe_aaload (h : (Nat.beq (fB l 0) 50 && Nat.beq n 1) = true) (hl : ∀ j, l[j]? = C.data.toList[p + j]?) : Decoder.instr pc C p = .ok (.aaload, p + n) := by
  obtain ⟨h1, h2⟩ := and2 h
  obtain rfl := Nat.eq_of_beq_eq_true h2
  delta Decoder.instr
  exact f_op hl (Nat.eq_of_beq_eq_true h1) (by decide) rfl
theorem fe_iastore (h : (Nat.beq (fB l 0) 79 && Nat.beq n 1) = true) (hl : ∀ j, l[j]? = C.data.toList[p + j]?) : Decoder.instr pc C p = .ok (.iastore, p + n) := by
  obtain ⟨h1, h2⟩ := and2 h
  obtain rfl := Nat.eq_of_beq_eq_true h2
  delta Decoder.instr
  exact f_op hl (Nat.eq_of_beq_eq_true h1) (by decide) rfl
theorem fe_isub (h : (Nat.beq (fB l 0) 100 && Nat.beq n 1) = true) (hl : ∀ j, l[j]? = C.data.toList[p + j]?) : Decoder.instr pc C p = .ok (.isub, p + n) := by
  obtain ⟨h1, h2⟩ := and2 h
  obtain rfl := Nat.eq_of_beq_eq_true h2
  delta Decoder.instr
  exact f_op hl (Nat.eq_of_beq_eq_true h1) (by decide) rfl
theorem fe_dup (h : (Nat.beq (fB l 0) 89 && Nat.beq n 1) = true) (hl : ∀ j, l[j]? = C.data.toList[p + j]?) : Decoder.instr pc C p = .ok (.dup, p + n) := by
  obtain ⟨h1, h2⟩ := and2 h
  obtain rfl := Nat.eq_of_beq_eq_true h2
  delta Decoder.instr
  exact f_op hl (Nat.eq_of_beq_eq_true h1) (by decide) rfl
theorem fe_return_ (h : (Nat.beq (fB l 0) 177 && Nat.beq n 1) = true) (hl : ∀ j, l[j]? = C.data.toList[p + j]?) : Decoder.instr pc C p = .ok (.return_, p + n) := by
  obtain ⟨h1, h2⟩ := and2 h
  obtain rfl := Nat.eq_of_beq_eq_true h2
  delta Decoder.instr
  exact f_op hl (Nat.eq_of_beq_eq_true h1) (by decide) rfl
theorem fe_imul (h : (Nat.beq (fB l 0) 104 && Nat.beq n 1) = true) (hl : ∀ j, l[j]? = C.data.toList[p + j]?) : Decoder.instr pc C p = .ok (.imul, p + n) := by
  obtain ⟨h1, h2⟩ := and2 h
  obtain rfl := Nat.eq_of_beq_eq_true h2
  delta Decoder.instr
  exact f_op hl (Nat.eq_of_beq_eq_true h1) (by decide) rfl
theorem fe_ishl (h : (Nat.beq (fB l 0) 120 && Nat.beq n 1) = true) (hl : ∀ j, l[j]? = C.data.toList[p + j]?) : Decoder.instr pc C p = .ok (.ishl, p + n) := by
  obtain ⟨h1, h2⟩ := and2 h
  obtain rfl := Nat.eq_of_beq_eq_true h2
  delta Decoder.instr
  exact f_op hl (Nat.eq_of_beq_eq_true h1) (by decide) rfl
theorem fe_iand (h : (Nat.beq (fB l 0) 126 && Nat.beq n 1) = true) (hl : ∀ j, l[j]? = C.data.toList[p + j]?) : Decoder.instr pc C p = .ok (.iand, p + n) := by
  obtain ⟨h1, h2⟩ := and2 h
  obtain rfl := Nat.eq_of_beq_eq_true h2
  delta Decoder.instr
  exact f_op hl (Nat.eq_of_beq_eq_true h1) (by decide) rfl
theorem fe_ior (h : (Nat.beq (fB l 0) 128 && Nat.beq n 1) = true) (hl : ∀ j, l[j]? = C.data.toList[p + j]?) : Decoder.instr pc C p = .ok (.ior, p + n) := by
  obtain ⟨h1, h2⟩ := and2 h
  obtain rfl := Nat.eq_of_beq_eq_true h2
  delta Decoder.instr
  exact f_op hl (Nat.eq_of_beq_eq_true h1) (by decide) rfl
theorem fe_aload_n {m : Fin 4} (h : (Nat.beq (fB l 0) (42 + m.val) && Nat.beq n 1) = true) (hl : ∀ j, l[j]? = C.data.toList[p + j]?) : Decoder.instr pc C p = .ok (.aload_n m, p + n) := by
  obtain ⟨h1, h2⟩ := and2 h
  obtain rfl := Nat.eq_of_beq_eq_true h2
  have h3 := Nat.eq_of_beq_eq_true h1
  delta Decoder.instr
  obtain ⟨m, hm⟩ := m
  have h3 : fB l 0 = 42 + m := h3
  rcases (by omega : m = 0 ∨ m = 1 ∨ m = 2 ∨ m = 3) with rfl | rfl | rfl | rfl
  · exact f_op hl h3 (by decide) rfl
  · exact f_op hl h3 (by decide) rfl
  · exact f_op hl h3 (by decide) rfl
  · exact f_op hl h3 (by decide) rfl
theorem fe_iload_n {m : Fin 4} (h : (Nat.beq (fB l 0) (26 + m.val) && Nat.beq n 1) = true) (hl : ∀ j, l[j]? = C.data.toList[p + j]?) : Decoder.instr pc C p = .ok (.iload_n m, p + n) := by
  obtain ⟨h1, h2⟩ := and2 h
  obtain rfl := Nat.eq_of_beq_eq_true h2
  have h3 := Nat.eq_of_beq_eq_true h1
  delta Decoder.instr
  obtain ⟨m, hm⟩ := m
  have h3 : fB l 0 = 26 + m := h3
  rcases (by omega : m = 0 ∨ m = 1 ∨ m = 2 ∨ m = 3) with rfl | rfl | rfl | rfl
  · exact f_op hl h3 (by decide) rfl
  · exact f_op hl h3 (by decide) rfl
  · exact f_op hl h3 (by decide) rfl
  · exact f_op hl h3 (by decide) rfl
theorem fe_istore_n {m : Fin 4} (h : (Nat.beq (fB l 0) (59 + m.val) && Nat.beq n 1) = true) (hl : ∀ j, l[j]? = C.data.toList[p + j]?) : Decoder.instr pc C p = .ok (.istore_n m, p + n) := by
  obtain ⟨h1, h2⟩ := and2 h
  obtain rfl := Nat.eq_of_beq_eq_true h2
  have h3 := Nat.eq_of_beq_eq_true h1
  delta Decoder.instr
  obtain ⟨m, hm⟩ := m
  have h3 : fB l 0 = 59 + m := h3
  rcases (by omega : m = 0 ∨ m = 1 ∨ m = 2 ∨ m = 3) with rfl | rfl | rfl | rfl
  · exact f_op hl h3 (by decide) rfl
  · exact f_op hl h3 (by decide) rfl
  · exact f_op hl h3 (by decide) rfl
  · exact f_op hl h3 (by decide) rfl
theorem fe_iconst {z : Int} (h : (Nat.ble 2 (fB l 0) && (Nat.ble (fB l 0) 8 && (decide (z = (fB l 0 : Int) - 3) && Nat.beq n 1))) = true) (hl : ∀ j, l[j]? = C.data.toList[p + j]?) : Decoder.instr pc C p = .ok (.iconst z, p + n) := by
  obtain ⟨h1, h⟩ := and2 h
  obtain ⟨h2, h⟩ := and2 h
  obtain ⟨h3, h4⟩ := and2 h
  obtain rfl := Nat.eq_of_beq_eq_true h4
  have h1 := Nat.le_of_ble_eq_true h1
  have h2 := Nat.le_of_ble_eq_true h2
  have h3 := of_decide_eq_true h3
  delta Decoder.instr
  generalize hk : fB l 0 = k at h1 h2 h3
  rcases (by omega : k = 2 ∨ k = 3 ∨ k = 4 ∨ k = 5 ∨ k = 6 ∨ k = 7 ∨ k = 8) with rfl | rfl | rfl | rfl | rfl | rfl | rfl
  · subst h3; exact f_op hl hk (by decide) rfl
  · subst h3; exact f_op hl hk (by decide) rfl
  · subst h3; exact f_op hl hk (by decide) rfl
  · subst h3; exact f_op hl hk (by decide) rfl
  · subst h3; exact f_op hl hk (by decide) rfl
  · subst h3; exact f_op hl hk (by decide) rfl
  · subst h3; exact f_op hl hk (by decide) rfl
theorem fe_getfield {m : Nat} (h : (Nat.beq (fB l 0) 180 && (Nat.ble (fB l 2) 255 && (Nat.ble (fB l 1) 255 && (Nat.beq m (fW l) && Nat.beq n 3)))) = true) (hl : ∀ j, l[j]? = C.data.toList[p + j]?) : Decoder.instr pc C p = .ok (.getfield m, p + n) := by
  obtain ⟨h1, h⟩ := and2 h
  obtain ⟨h2, h⟩ := and2 h
  obtain ⟨h3, h⟩ := and2 h
  obtain ⟨h4, h5⟩ := and2 h
  obtain rfl := Nat.eq_of_beq_eq_true h5
  obtain rfl := Nat.eq_of_beq_eq_true h4
  delta Decoder.instr
  exact f_op hl (Nat.eq_of_beq_eq_true h1) (by decide) (f_u2 (g := Instr.getfield) hl (Nat.le_of_ble_eq_true h3) (Nat.le_of_ble_eq_true h2))
theorem fe_putfield {m : Nat} (h : (Nat.beq (fB l 0) 181 && (Nat.ble (fB l 2) 255 && (Nat.ble (fB l 1) 255 && (Nat.beq m (fW l) && Nat.beq n 3)))) = true) (hl : ∀ j, l[j]? = C.data.toList[p + j]?) : Decoder.instr pc C p = .ok (.putfield m, p + n) := by
  obtain ⟨h1, h⟩ := and2 h
  obtain ⟨h2, h⟩ := and2 h
  obtain ⟨h3, h⟩ := and2 h
  obtain ⟨h4, h5⟩ := and2 h
  obtain rfl := Nat.eq_of_beq_eq_true h5
  obtain rfl := Nat.eq_of_beq_eq_true h4
  delta Decoder.instr
  exact f_op hl (Nat.eq_of_beq_eq_true h1) (by decide) (f_u2 (g := Instr.putfield) hl (Nat.le_of_ble_eq_true h3) (Nat.le_of_ble_eq_true h2))
theorem fe_invokevirtual {m : Nat} (h : (Nat.beq (fB l 0) 182 && (Nat.ble (fB l 2) 255 && (Nat.ble (fB l 1) 255 && (Nat.beq m (fW l) && Nat.beq n 3)))) = true) (hl : ∀ j, l[j]? = C.data.toList[p + j]?) : Decoder.instr pc C p = .ok (.invokevirtual m, p + n) := by
  obtain ⟨h1, h⟩ := and2 h
  obtain ⟨h2, h⟩ := and2 h
  obtain ⟨h3, h⟩ := and2 h
  obtain ⟨h4, h5⟩ := and2 h
  obtain rfl := Nat.eq_of_beq_eq_true h5
  obtain rfl := Nat.eq_of_beq_eq_true h4
  delta Decoder.instr
  exact f_op hl (Nat.eq_of_beq_eq_true h1) (by decide) (f_u2 (g := Instr.invokevirtual) hl (Nat.le_of_ble_eq_true h3) (Nat.le_of_ble_eq_true h2))
theorem fe_invokespecial {m : Nat} (h : (Nat.beq (fB l 0) 183 && (Nat.ble (fB l 2) 255 && (Nat.ble (fB l 1) 255 && (Nat.beq m (fW l) && Nat.beq n 3)))) = true) (hl : ∀ j, l[j]? = C.data.toList[p + j]?) : Decoder.instr pc C p = .ok (.invokespecial m, p + n) := by
  obtain ⟨h1, h⟩ := and2 h
  obtain ⟨h2, h⟩ := and2 h
  obtain ⟨h3, h⟩ := and2 h
  obtain ⟨h4, h5⟩ := and2 h
  obtain rfl := Nat.eq_of_beq_eq_true h5
  obtain rfl := Nat.eq_of_beq_eq_true h4
  delta Decoder.instr
  exact f_op hl (Nat.eq_of_beq_eq_true h1) (by decide) (f_u2 (g := Instr.invokespecial) hl (Nat.le_of_ble_eq_true h3) (Nat.le_of_ble_eq_true h2))
theorem fe_invokestatic {m : Nat} (h : (Nat.beq (fB l 0) 184 && (Nat.ble (fB l 2) 255 && (Nat.ble (fB l 1) 255 && (Nat.beq m (fW l) && Nat.beq n 3)))) = true) (hl : ∀ j, l[j]? = C.data.toList[p + j]?) : Decoder.instr pc C p = .ok (.invokestatic m, p + n) := by
  obtain ⟨h1, h⟩ := and2 h
  obtain ⟨h2, h⟩ := and2 h
  obtain ⟨h3, h⟩ := and2 h
  obtain ⟨h4, h5⟩ := and2 h
  obtain rfl := Nat.eq_of_beq_eq_true h5
  obtain rfl := Nat.eq_of_beq_eq_true h4
  delta Decoder.instr
  exact f_op hl (Nat.eq_of_beq_eq_true h1) (by decide) (f_u2 (g := Instr.invokestatic) hl (Nat.le_of_ble_eq_true h3) (Nat.le_of_ble_eq_true h2))
theorem fe_ldc {m : Nat} (h : (Nat.beq (fB l 0) 18 && (Nat.ble (fB l 1) 255 && (Nat.beq m (fB l 1) && Nat.beq n 2))) = true) (hl : ∀ j, l[j]? = C.data.toList[p + j]?) : Decoder.instr pc C p = .ok (.ldc m, p + n) := by
  obtain ⟨h1, h⟩ := and2 h
  obtain ⟨h3, h⟩ := and2 h
  obtain ⟨h4, h5⟩ := and2 h
  obtain rfl := Nat.eq_of_beq_eq_true h5
  obtain rfl := Nat.eq_of_beq_eq_true h4
  delta Decoder.instr
  exact f_op hl (Nat.eq_of_beq_eq_true h1) (by decide) (f_u1 (g := Instr.ldc) hl (Nat.le_of_ble_eq_true h3))
theorem fe_iload {m : Nat} (h : (Nat.beq (fB l 0) 21 && (Nat.ble (fB l 1) 255 && (Nat.beq m (fB l 1) && Nat.beq n 2))) = true) (hl : ∀ j, l[j]? = C.data.toList[p + j]?) : Decoder.instr pc C p = .ok (.iload m, p + n) := by
  obtain ⟨h1, h⟩ := and2 h
  obtain ⟨h3, h⟩ := and2 h
  obtain ⟨h4, h5⟩ := and2 h
  obtain rfl := Nat.eq_of_beq_eq_true h5
  obtain rfl := Nat.eq_of_beq_eq_true h4
  delta Decoder.instr
  exact f_op hl (Nat.eq_of_beq_eq_true h1) (by decide) (f_u1 (g := Instr.iload) hl (Nat.le_of_ble_eq_true h3))
theorem fe_istore {m : Nat} (h : (Nat.beq (fB l 0) 54 && (Nat.ble (fB l 1) 255 && (Nat.beq m (fB l 1) && Nat.beq n 2))) = true) (hl : ∀ j, l[j]? = C.data.toList[p + j]?) : Decoder.instr pc C p = .ok (.istore m, p + n) := by
  obtain ⟨h1, h⟩ := and2 h
  obtain ⟨h3, h⟩ := and2 h
  obtain ⟨h4, h5⟩ := and2 h
  obtain rfl := Nat.eq_of_beq_eq_true h5
  obtain rfl := Nat.eq_of_beq_eq_true h4
  delta Decoder.instr
  exact f_op hl (Nat.eq_of_beq_eq_true h1) (by decide) (f_u1 (g := Instr.istore) hl (Nat.le_of_ble_eq_true h3))
theorem fe_bipush {z : Int} (h : (Nat.beq (fB l 0) 16 && (Nat.ble (fB l 1) 255 && (decide (z = Reader.signed 8 (fB l 1)) && Nat.beq n 2))) = true) (hl : ∀ j, l[j]? = C.data.toList[p + j]?) : Decoder.instr pc C p = .ok (.bipush z, p + n) := by
  obtain ⟨h1, h⟩ := and2 h
  obtain ⟨h3, h⟩ := and2 h
  obtain ⟨h4, h5⟩ := and2 h
  obtain rfl := Nat.eq_of_beq_eq_true h5
  obtain rfl := of_decide_eq_true h4
  delta Decoder.instr
  exact f_op hl (Nat.eq_of_beq_eq_true h1) (by decide) (f_s1 (g := Instr.bipush) hl (Nat.le_of_ble_eq_true h3))
theorem fe_goto {z : Int} (h : (Nat.beq (fB l 0) 167 && (Nat.ble (fB l 2) 255 && (Nat.ble (fB l 1) 255 && (decide (z = Reader.signed 16 (fW l)) && Nat.beq n 3)))) = true) (hl : ∀ j, l[j]? = C.data.toList[p + j]?) : Decoder.instr pc C p = .ok (.goto z, p + n) := by
  obtain ⟨h1, h⟩ := and2 h
  obtain ⟨h2, h⟩ := and2 h
  obtain ⟨h3, h⟩ := and2 h
  obtain ⟨h4, h5⟩ := and2 h
  obtain rfl := Nat.eq_of_beq_eq_true h5
  obtain rfl := of_decide_eq_true h4
  delta Decoder.instr
  exact f_op hl (Nat.eq_of_beq_eq_true h1) (by decide) (f_s2 (g := Instr.goto) hl (Nat.le_of_ble_eq_true h3) (Nat.le_of_ble_eq_true h2))
theorem fe_ifCond {c : Jvm.ClassFile.Cond} {z : Int} (h : (Nat.beq (fB l 0) (153 + fC c) && (Nat.ble (fB l 2) 255 && (Nat.ble (fB l 1) 255 && (decide (z = Reader.signed 16 (fW l)) && Nat.beq n 3)))) = true) (hl : ∀ j, l[j]? = C.data.toList[p + j]?) : Decoder.instr pc C p = .ok (.ifCond c z, p + n) := by
  obtain ⟨h1, h⟩ := and2 h
  obtain ⟨h2, h⟩ := and2 h
  obtain ⟨h3, h⟩ := and2 h
  obtain ⟨h4, h5⟩ := and2 h
  obtain rfl := Nat.eq_of_beq_eq_true h5
  obtain rfl := of_decide_eq_true h4
  delta Decoder.instr
  have h1 := Nat.eq_of_beq_eq_true h1
  cases c
  · exact f_op hl h1 (by decide) (f_s2 (g := Instr.ifCond .eq) hl (Nat.le_of_ble_eq_true h3) (Nat.le_of_ble_eq_true h2))
  · exact f_op hl h1 (by decide) (f_s2 (g := Instr.ifCond .ne) hl (Nat.le_of_ble_eq_true h3) (Nat.le_of_ble_eq_true h2))
  · exact f_op hl h1 (by decide) (f_s2 (g := Instr.ifCond .lt) hl (Nat.le_of_ble_eq_true h3) (Nat.le_of_ble_eq_true h2))
  · exact f_op hl h1 (by decide) (f_s2 (g := Instr.ifCond .ge) hl (Nat.le_of_ble_eq_true h3) (Nat.le_of_ble_eq_true h2))
  · exact f_op hl h1 (by decide) (f_s2 (g := Instr.ifCond .gt) hl (Nat.le_of_ble_eq_true h3) (Nat.le_of_ble_eq_true h2))
  · exact f_op hl h1 (by decide) (f_s2 (g := Instr.ifCond .le) hl (Nat.le_of_ble_eq_true h3) (Nat.le_of_ble_eq_true h2))
theorem fe_if_icmp {c : Jvm.ClassFile.Cond} {z : Int} (h : (Nat.beq (fB l 0) (159 + fC c) && (Nat.ble (fB l 2) 255 && (Nat.ble (fB l 1) 255 && (decide (z = Reader.signed 16 (fW l)) && Nat.beq n 3)))) = true) (hl : ∀ j, l[j]? = C.data.toList[p + j]?) : Decoder.instr pc C p = .ok (.if_icmp c z, p + n) := by
  obtain ⟨h1, h⟩ := and2 h
  obtain ⟨h2, h⟩ := and2 h
  obtain ⟨h3, h⟩ := and2 h
  obtain ⟨h4, h5⟩ := and2 h
  obtain rfl := Nat.eq_of_beq_eq_true h5
  obtain rfl := of_decide_eq_true h4
  delta Decoder.instr
  have h1 := Nat.eq_of_beq_eq_true h1
  cases c
  · exact f_op hl h1 (by decide) (f_s2 (g := Instr.if_icmp .eq) hl (Nat.le_of_ble_eq_true h3) (Nat.le_of_ble_eq_true h2))
  · exact f_op hl h1 (by decide) (f_s2 (g := Instr.if_icmp .ne) hl (Nat.le_of_ble_eq_true h3) (Nat.le_of_ble_eq_true h2))
  · exact f_op hl h1 (by decide) (f_s2 (g := Instr.if_icmp .lt) hl (Nat.le_of_ble_eq_true h3) (Nat.le_of_ble_eq_true h2))
  · exact f_op hl h1 (by decide) (f_s2 (g := Instr.if_icmp .ge) hl (Nat.le_of_ble_eq_true h3) (Nat.le_of_ble_eq_true h2))
  · exact f_op hl h1 (by decide) (f_s2 (g := Instr.if_icmp .gt) hl (Nat.le_of_ble_eq_true h3) (Nat.le_of_ble_eq_true h2))
  · exact f_op hl h1 (by decide) (f_s2 (g := Instr.if_icmp .le) hl (Nat.le_of_ble_eq_true h3) (Nat.le_of_ble_eq_true h2))
theorem fEn_ok {i : Instr} (h : fEn i l n = true) (hl : ∀ j, l[j]? = C.data.toList[p + j]?) : Decoder.instr pc C p = .ok (i, p + n) := by
  cases i with
  | ireturn => exact fe_ireturn h hl
  | iaload => exact fe_iaload h hl
  | iadd => exact fe_iadd h hl
  | pop => exact fe_pop h hl
  | aaload => exact fe_aaload h hl
  | iastore => exact fe_iastore h hl
  | isub => exact fe_isub h hl
  | dup => exact fe_dup h hl
  | return_ => exact fe_return_ h hl
  | imul => exact fe_imul h hl
  | ishl => exact fe_ishl h hl
  | iand => exact fe_iand h hl
  | ior => exact fe_ior h hl
  | aload_n m => exact fe_aload_n h hl
  | iload_n m => exact fe_iload_n h hl
  | istore_n m => exact fe_istore_n h hl
  | getfield m => exact fe_getfield h hl
  | putfield m => exact fe_putfield h hl
  | invokevirtual m => exact fe_invokevirtual h hl
  | invokespecial m => exact fe_invokespecial h hl
  | invokestatic m => exact fe_invokestatic h hl
  | ldc m => exact fe_ldc h hl
  | iload m => exact fe_iload h hl
  | istore m => exact fe_istore h hl
  | iconst z => exact fe_iconst h hl
  | bipush z => exact fe_bipush h hl
  | goto z => exact fe_goto h hl
  | ifCond c z => exact fe_ifCond h hl
  | if_icmp c z => exact fe_if_icmp h hl
  | _ => exact absurd h Bool.false_ne_true
theorem fEn_dec {i : Instr} (h : fEn i l n = true) (hl : ∀ j, l[j]? = C.data.toList[pc + j]?) : decode C pc = .ok (i, n) := by
  have e : decode C pc = (match Decoder.instr pc C pc with | .error x => .error x | .ok (j, s) => .ok (j, s - pc)) := by
    show (do let (j, s) ← Decoder.instr pc C pc; Pure.pure (j, s - pc) : Except DecodeError (Instr × Nat)) = _
    cases Decoder.instr pc C pc <;> rfl
  rw [e, fEn_ok h hl]
  show Except.ok (i, pc + n - pc) = _
  rw [Nat.add_sub_cancel_left]
end FE
/-- the code read in a line, by windows -/
noncomputable def mLin : List UInt8 → Nat → List (Option mEnt) → Bool
  | _, _, [] => true
  | l, pc, none :: t => mLin l.tail (pc + 1) t
  | l, pc, some e :: t => (fEn e.1 l e.2.1 || (!l.isEmpty && match Decoder.instr pc (Jvm.Free.DS.win l pc e.2.1) (pc % 4) with
    | .ok (j, q) => decide (j = e.1) && Nat.beq q (pc % 4 + e.2.1)
    | .error _ => false)) && mLin l.tail (pc + 1) t
noncomputable def mLinC : List UInt8 → Nat → List (List (Option mEnt)) → Bool
  | _, _, [] => true
  | l, k, c :: t => mLin l (32 * k) c && mLinC (l.drop 32) (k + 1) t
noncomputable def mCd (i : Nat) : Bool := match mMet i, mCode i with
  | some row, some k => mLinC row.2.2.1.data.toList 0 k
  | none, none => true
  | _, _ => false
noncomputable def mCe (i : Nat) : Bool := match mMet i, mCode i with
  | some row, some k => k.all fun c => c.all fun e => match e with
    | none => true
    | some e => mEck row e
  | none, none => true
  | _, _ => false
noncomputable def mCk (i : Nat) : Bool := mCd i && mCe i
theorem mLin_at {code : ByteArray} : ∀ (t : List (Option mEnt)) (l : List UInt8) (pc i : Nat) (e : mEnt), mLin l pc t = true → (∀ j, l[j]? = code.data.toList[pc + j]?) → t[i]? = some (some e) → decode code (pc + i) = .ok (e.1, e.2.1) := by
  intro t
  induction t with
  | nil => intro l pc i e h hl hi; simp at hi
  | cons d t ih =>
    intro l pc i e h hl hi
    have hl2 : ∀ j, l.tail[j]? = code.data.toList[pc + 1 + j]? := fun j => by
      rw [List.getElem?_tail, hl]
      congr 1
      omega
    have hnx : mLin l.tail (pc + 1) t = true := by
      cases d with
      | none => exact h
      | some d =>
        have h' : ((fEn d.1 l d.2.1 || (!l.isEmpty && match Decoder.instr pc (Jvm.Free.DS.win l pc d.2.1) (pc % 4) with
          | .ok (j, q) => decide (j = d.1) && Nat.beq q (pc % 4 + d.2.1)
          | .error _ => false)) && mLin l.tail (pc + 1) t) = true := h
        rw [Bool.and_eq_true] at h'
        exact h'.2
    cases i with
    | succ i =>
      rw [List.getElem?_cons_succ] at hi
      have := ih _ _ i e hnx hl2 hi
      rwa [show pc + 1 + i = pc + (i + 1) by omega] at this
    | zero =>
      rw [List.getElem?_cons_zero, Option.some.injEq] at hi
      subst hi
      have h' : ((fEn e.1 l e.2.1 || (!l.isEmpty && match Decoder.instr pc (Jvm.Free.DS.win l pc e.2.1) (pc % 4) with
        | .ok (j, q) => decide (j = e.1) && Nat.beq q (pc % 4 + e.2.1)
        | .error _ => false)) && mLin l.tail (pc + 1) t) = true := h
      have h'' := ((Bool.and_eq_true _ _).mp h').1
      rcases (Bool.or_eq_true _ _).mp h'' with hf | h''
      · exact fEn_dec hf hl
      rw [Bool.and_eq_true] at h''
      obtain ⟨h0, h1⟩ := h''
      have hp : pc ≤ code.size := by
        have h2 : l ≠ [] := fun q => by subst q; cases h0
        have h3 := hl 0
        rw [List.getElem?_eq_getElem (List.length_pos_iff.mpr h2)] at h3
        have h4 := (List.getElem?_eq_some_iff.mp h3.symm).1
        have h5 : code.data.toList.length = code.size := by simp
        omega
      cases hr : Decoder.instr pc (Jvm.Free.DS.win l pc e.2.1) (pc % 4) with
      | error x => rw [hr] at h1; cases h1
      | ok jq =>
        obtain ⟨j, q⟩ := jq
        rw [hr] at h1
        have h1' : (decide (j = e.1) && Nat.beq q (pc % 4 + e.2.1)) = true := h1
        rw [Bool.and_eq_true, decide_eq_true_eq] at h1'
        obtain ⟨rfl, h6⟩ := h1'
        obtain rfl := Nat.eq_of_beq_eq_true h6
        have := Jvm.Free.DS.shift (Jvm.Free.DS.win_agree (n := e.2.1) hl hp) hr
        rw [Nat.add_sub_cancel_left] at this
        exact this
theorem mLinC_at {code : ByteArray} : ∀ (t : List (List (Option mEnt))) (l : List UInt8) (k i : Nat) (c : List (Option mEnt)), mLinC l k t = true → (∀ j, l[j]? = code.data.toList[32 * k + j]?) → t[i]? = some c → ∃ l', mLin l' (32 * (k + i)) c = true ∧ ∀ j, l'[j]? = code.data.toList[32 * (k + i) + j]? := by
  intro t
  induction t with
  | nil => intro l k i c h hl hi; simp at hi
  | cons d t ih =>
    intro l k i c h hl hi
    simp only [mLinC, Bool.and_eq_true] at h
    cases i with
    | zero =>
      rw [List.getElem?_cons_zero, Option.some.injEq] at hi
      subst hi
      exact ⟨l, h.1, hl⟩
    | succ i =>
      rw [List.getElem?_cons_succ] at hi
      have := ih (l.drop 32) (k + 1) i c h.2 (fun j => by
        rw [List.getElem?_drop, hl]
        congr 1
        omega) hi
      rwa [show k + 1 + i = k + (i + 1) by omega] at this
theorem mCk_at {i pc : Nat} {row : mRow} {e : mEnt} (h : mCk i = true) (hr : mMet i = some row) (he : mFetch i pc = some e) : decode row.2.2.1 pc = .ok (e.1, e.2.1) ∧ mEck row e = true := by
  unfold mCk at h
  rw [Bool.and_eq_true] at h
  obtain ⟨hd, hE⟩ := h
  unfold mFetch at he
  cases hk : mCode i with
  | none => rw [hk] at he; cases he
  | some k =>
    rw [hk] at he
    simp only [mCd, hr, hk] at hd
    simp only [mCe, hr, hk] at hE
    simp only [Option.bind_some, Option.bind_eq_some_iff] at he
    obtain ⟨c, hc, o, ho, ho2⟩ := he
    have ho3 : o = some e := ho2
    subst ho3
    obtain ⟨l', h1, h2⟩ := mLinC_at (code := row.2.2.1) k _ 0 (pc / 32) c hd (fun j => by rw [Nat.mul_zero, Nat.zero_add]) hc
    refine ⟨?_, ?_⟩
    · have := mLin_at c l' _ (pc % 32) e h1 h2 ho
      rwa [show 32 * (0 + pc / 32) + pc % 32 = pc by omega] at this
    · have := List.all_eq_true.mp (List.all_eq_true.mp hE c (List.mem_of_getElem? hc)) _ (List.mem_of_getElem? ho)
      exact this
end
