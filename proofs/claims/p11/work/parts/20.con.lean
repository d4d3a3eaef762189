/-! ===== the world behind the constructors: its cells are fixed, its numbers are M ===== -/
abbrev mM : Type := Nat → Nat → Int32
def mSp : List (Nat × Nat × List Nat) := [(5, 3, [2, 19, 36, 53, 55, 56, 0, 57, 58]),
  (5, 2, [3, 10, 18, 0, 0, 0, 0, 0]),
  (3, 6, [3, 4, 5, 6, 7, 8]),
  (0, 8, []),
  (0, 8, []),
  (0, 8, []),
  (0, 8, []),
  (0, 8, []),
  (0, 8, []),
  (3, 7, [10, 11, 12, 13, 14, 15, 16]),
  (0, 8, []),
  (0, 8, []),
  (0, 8, []),
  (0, 8, []),
  (0, 8, []),
  (0, 8, []),
  (0, 8, []),
  (0, 10, []),
  (5, 2, [20, 27, 35, 0, 0, 0, 0, 0]),
  (3, 6, [20, 21, 22, 23, 24, 25]),
  (0, 8, []),
  (0, 8, []),
  (0, 8, []),
  (0, 8, []),
  (0, 8, []),
  (0, 8, []),
  (3, 7, [27, 28, 29, 30, 31, 32, 33]),
  (0, 8, []),
  (0, 8, []),
  (0, 8, []),
  (0, 8, []),
  (0, 8, []),
  (0, 8, []),
  (0, 8, []),
  (0, 10, []),
  (5, 2, [37, 44, 52, 0, 0, 0, 0, 0]),
  (3, 6, [37, 38, 39, 40, 41, 42]),
  (0, 8, []),
  (0, 8, []),
  (0, 8, []),
  (0, 8, []),
  (0, 8, []),
  (0, 8, []),
  (3, 7, [44, 45, 46, 47, 48, 49, 50]),
  (0, 8, []),
  (0, 8, []),
  (0, 8, []),
  (0, 8, []),
  (0, 8, []),
  (0, 8, []),
  (0, 8, []),
  (0, 10, []),
  (5, 1, [54, 0, 0, 0, 0, 0, 0]),
  (1, 120, []),
  (2, 4, [58, 60, 62, 64]),
  (0, 7, []),
  (0, 8, []),
  (0, 8, []),
  (5, 0, [60, 0, 0]),
  (0, 40, []),
  (5, 0, [62, 0, 0]),
  (0, 40, []),
  (5, 0, [64, 0, 0]),
  (0, 40, []),
  (5, 0, [66, 0, 0]),
  (0, 40, []),
  (5, 4, [68, 69, 70, 0, 71, 72, 0, 73, 74, 0, 0, 0, 0, 0, 0, 75, 76, 0, 0, 0, 77, 78, 79, 80]),
  (0, 118, []),
  (0, 118, []),
  (0, 118, []),
  (0, 8, []),
  (0, 8, []),
  (0, 8, []),
  (0, 120, []),
  (4, 7, [1000007, 1000001, 1000002, 1000003, 1000004, 1000005, 1000006]),
  (0, 840, []),
  (0, 4, []),
  (0, 4, []),
  (0, 160, []),
  (0, 40, [])]
noncomputable def mCellv (M : mM) (k : Nat) (q : Nat × Nat × List Nat) : va_E := match q.1 with
  | 0 => .inl (0, q.2.1, .inl (M k))
  | 1 => .inl (1, q.2.1, .inl (M k))
  | 5 => .inr (q.2.1, (q.2.2.zipIdx).map fun x => match x.1 with
    | 0 => .int (M k x.2)
    | r + 1 => .ref r)
  | t => .inl (t, q.2.1, .inr (.inr (.inr (.inr (fun i => q.2.2[i]?)))))
noncomputable def con (M : mM) : mHp := (mSp.zipIdx).map fun x => mCellv M x.2 x.1
def mput (M : mM) (a b : Nat) (v : Int32) : mM := fun i j => if i = a ∧ j = b then v else M i j
theorem con_get {M : mM} {k : Nat} {q : Nat × Nat × List Nat} (h : mSp[k]? = some q) : (con M)[k]? = some (mCellv M k q) := by
  unfold con
  rw [List.getElem?_map, List.getElem?_zipIdx, h]
  simp
theorem con_none {M : mM} {k : Nat} (h : 80 ≤ k) : (con M)[k]? = none := by
  have hl : mSp.length = 80 := rfl
  unfold con
  rw [List.getElem?_map, List.getElem?_zipIdx, List.getElem?_eq_none (by omega)]
  rfl
theorem con_set {M M' : mM} {k : Nat} {q : Nat × Nat × List Nat} {c : va_E} (h : mSp[k]? = some q) (hc : mCellv M' k q = c) (ho : ∀ i, i ≠ k → M' i = M i) : (con M).set k c = con M' := by
  refine List.ext_getElem? fun i => ?_
  by_cases hi : i = k
  · subst hi
    rw [List.getElem?_set_self (mLt_of (con_get (M := M) h)), con_get h, hc]
  · rw [List.getElem?_set_ne (fun e => hi e.symm)]
    cases hs : mSp[i]? with
    | none =>
      have hl : mSp.length = 80 := rfl
      have := List.getElem?_eq_none_iff.mp hs
      rw [con_none (by omega), con_none (by omega)]
    | some qi =>
      rw [con_get hs, con_get hs]
      unfold mCellv
      rw [ho i hi]
theorem con_obj {M : mM} {i a : Nat} {fs : List Nat} (h : mSp[i]? = some (5, a, fs)) : (con M)[i]? = some (.inr (a, (fs.zipIdx).map fun x => match x.1 with
    | 0 => .int (M i x.2)
    | r + 1 => .ref r)) := con_get h
theorem con_fld {M : mM} {i b : Nat} {fs : List Nat} : (((fs.zipIdx).map fun x => match x.1 with
    | 0 => (.int (M i x.2) : Value)
    | r + 1 => .ref r))[b]? = (fs[b]?).map fun y => match y with
    | 0 => .int (M i b)
    | r + 1 => .ref r := by
  rw [List.getElem?_map, List.getElem?_zipIdx]
  cases fs[b]? with
  | none => rfl
  | some y => simp
section CON
variable {X : mSc} {Q : Option Value → mHp → Prop} {mid pc : Nat} {L : mLoc} {st : List Value} {M : mM} {row : mRow} {ex : Nat × Nat × Nat × Nat × Nat × Int} {i a b n : Nat} {fs : List Nat}
theorem gI (hs : mSp[i]? = some (5, a, fs)) (hb : fs[b]? = some 0) : mGet (con M) i a b = some (.int (M i b)) := by
  unfold mGet
  rw [con_obj hs]
  dsimp only
  rw [con_fld, hb, Nat.beq_refl]
  rfl
theorem gR {r : Nat} (hs : mSp[i]? = some (5, a, fs)) (hb : fs[b]? = some (r + 1)) : mGet (con M) i a b = some (.ref r) := by
  unfold mGet
  rw [con_obj hs]
  dsimp only
  rw [con_fld, hb, Nat.beq_refl]
  rfl
theorem pI {kd : Nat} {v : Int32} (hs : mSp[i]? = some (5, a, fs)) (hb : fs[b]? = some 0) (hN : b < mFN a) (hfit : mFit (mFy a b) (.int v) = true) (hfin : (mFT a b).2.2.2 = false) : mPut row kd (con M) i a b (.int v) = some (con (mput M i b v)) := by
  unfold mPut
  rw [con_obj hs]
  dsimp only
  have hl : b < fs.length := (List.getElem?_eq_some_iff.mp hb).1
  have hl2 : b < ((fs.zipIdx).map fun x => match x.1 with
    | 0 => (.int (M i x.2) : Value)
    | r + 1 => .ref r).length := by simpa using hl
  rw [Nat.beq_refl, Nat.blt_eq.mpr hN, Nat.blt_eq.mpr hl2, hfit, hfin]
  simp only [Bool.and_true, Bool.not_false, Bool.true_or, cond_true, Option.some.injEq]
  refine con_set hs ?_ fun j hj => by funext c; simp [mput, hj]
  show (.inr (a, _) : va_E) = .inr (a, _)
  congr 2
  refine List.ext_getElem? fun c => ?_
  by_cases hc : c = b
  · subst hc
    rw [List.getElem?_set_self hl2, con_fld, hb]
    simp [mput]
  · rw [List.getElem?_set_ne (fun e => hc e.symm), con_fld, con_fld]
    simp [mput, hc]
theorem jI_int {k : Nat} (h : k < 2147483648) : (nI k).toInt = (k : Int) := Int32.toInt_ofNat_of_lt h
theorem jI_nat {k : Nat} (h : k < 2147483648) : (nI k).toNatClampNeg = k := by
  show (nI k).toInt.toNat = k
  rw [jI_int h]
  rfl
theorem jI_nn {k : Nat} (h : k < 2147483648) : ¬ nI k < 0 := by
  rw [Int32.lt_iff_toInt_lt, jI_int h]
  show ¬ (k : Int) < 0
  omega
theorem jI_out {k n : Nat} (hk : k < n) (hn : n ≤ 1000) : mOut (nI k) n = false := by
  unfold mOut
  rw [jI_nat (by omega), decide_eq_false_iff_not]
  rintro (h | h)
  · exact jI_nn (by omega) h
  · omega
theorem lI {k : Nat} (hs : mSp[i]? = some (0, n, fs)) (hk : k < n) (hn : n ≤ 1000) : mLd X 0 (con M) i (nI k) = some (.int (M i k)) := by
  unfold mLd
  rw [con_get hs]
  show cond (Nat.beq 0 0 && !mOut (nI k) n) (some (Value.int (M i (nI k).toNatClampNeg))) none = _
  rw [jI_out hk hn, jI_nat (by omega)]
  rfl
theorem lB {k : Nat} (hs : mSp[i]? = some (1, n, fs)) (hk : k < n) (hn : n ≤ 1000) : mLd X 1 (con M) i (nI k) = some (.int (M i k)) := by
  unfold mLd
  rw [con_get hs]
  show cond (Nat.beq 1 1 && !mOut (nI k) n) (some (Value.int (M i (nI k).toNatClampNeg))) none = _
  rw [jI_out hk hn, jI_nat (by omega)]
  rfl
theorem lQ {k r : Nat} (t : Nat) (ht : t = 2 ∨ t = 3 ∨ t = 4) (hs : mSp[i]? = some (t, n, fs)) (hr : fs[k]? = some r) (hk : k < n) (hn : n ≤ 1000) : mLdq (con M) i (nI k) = some (.ref r) := by
  unfold mLdq
  rw [con_get hs]
  rcases ht with rfl | rfl | rfl
  · show cond (Nat.ble 2 2 && Nat.ble 2 4 && !mOut (nI k) n) (some (va_rf (fs[(nI k).toNatClampNeg]?))) none = _
    rw [jI_out hk hn, jI_nat (by omega), hr]
    rfl
  · show cond (Nat.ble 2 3 && Nat.ble 3 4 && !mOut (nI k) n) (some (va_rf (fs[(nI k).toNatClampNeg]?))) none = _
    rw [jI_out hk hn, jI_nat (by omega), hr]
    rfl
  · show cond (Nat.ble 2 4 && Nat.ble 4 4 && !mOut (nI k) n) (some (va_rf (fs[(nI k).toNatClampNeg]?))) none = _
    rw [jI_out hk hn, jI_nat (by omega), hr]
    rfl
theorem upd_mput {k : Nat} {v : Int32} : upd (M i) k v = mput M i k v i := by
  funext c
  simp [upd, mput]
theorem sI {k : Nat} {v : Int32} (hs : mSp[i]? = some (0, n, fs)) (hk : k < n) (hn : n ≤ 1000) : mStI 0 (con M) i (nI k) v = some (con (mput M i k v)) := by
  unfold mStI
  rw [con_get hs]
  show cond (Nat.beq 0 0 && !mOut (nI k) n) (some ((con M).set i (.inl (0, n, .inl (upd (M i) (nI k).toNatClampNeg v))))) none = _
  rw [jI_out hk hn, jI_nat (by omega)]
  show some ((con M).set i _) = _
  rw [con_set (M' := mput M i k v) hs (by rw [upd_mput]; rfl) fun j hj => by funext c; simp [mput, hj]]
theorem sB {k : Nat} {v : Int32} (hs : mSp[i]? = some (1, n, fs)) (hk : k < n) (hn : n ≤ 1000) : mStI 1 (con M) i (nI k) v = some (con (mput M i k v.toInt8.toInt32)) := by
  unfold mStI
  rw [con_get hs]
  show cond (Nat.beq 1 1 && !mOut (nI k) n) (some ((con M).set i (.inl (1, n, .inl (upd (M i) (nI k).toNatClampNeg v.toInt8.toInt32))))) none = _
  rw [jI_out hk hn, jI_nat (by omega)]
  show some ((con M).set i _) = _
  rw [con_set (M' := mput M i k v.toInt8.toInt32) hs (by rw [upd_mput]; rfl) fun j hj => by funext c; simp [mput, hj]]
theorem gLen (t : Nat) (ht : Nat.ble t 4 = true) (hs : mSp[i]? = some (t, n, fs)) : mLen X (con M) i = some (nI n) := by
  unfold mLen
  rw [con_get hs]
  have h := Nat.le_of_ble_eq_true ht
  rcases (by omega : t = 0 ∨ t = 1 ∨ t = 2 ∨ t = 3 ∨ t = 4) with rfl | rfl | rfl | rfl | rfl <;> rfl
theorem lK {k : Nat} (hk : k < 7) : mLd X 0 (con M) 1000100 (nI k) = some (.int (mKA k)) := by
  unfold mLd
  rw [con_none (by decide)]
  show (match mRo X 1000100 with
    | some (n, f) => cond (!mOut (nI k) n) (some (Value.int (f (nI k).toNatClampNeg))) none
    | none => none) = _
  have : mRo X 1000100 = some (7, mKA) := rfl
  rw [this]
  dsimp only
  rw [jI_out hk (by omega), jI_nat (by omega)]
  rfl
theorem lX {k : Nat} (hk : k < X.1) (hX : X.1 ≤ 3072) : mLd X 0 (con M) 1000200 (nI k) = some (.int (X.2 k)) := by
  unfold mLd
  rw [con_none (by decide)]
  show (match mRo X 1000200 with
    | some (n, f) => cond (!mOut (nI k) n) (some (Value.int (f (nI k).toNatClampNeg))) none
    | none => none) = _
  have : mRo X 1000200 = some X := rfl
  rw [this]
  obtain ⟨xn, xf⟩ := X
  dsimp only at hk hX ⊢
  have ho : mOut (nI k) xn = false := by
    unfold mOut
    rw [jI_nat (by omega), decide_eq_false_iff_not]
    rintro (h | h)
    · exact jI_nn (by omega) h
    · omega
  rw [ho, jI_nat (by omega)]
  rfl
theorem lenX : mLen X (con M) 1000200 = some (nI X.1) := by
  unfold mLen
  rw [con_none (by decide)]
  rfl
theorem jI_add (a b : Nat) : nI a + nI b = nI (a + b) := (Int32.ofNat_add a b).symm
theorem jI_mul (a b : Nat) : nI a * nI b = nI (a * b) := (Int32.ofNat_mul a b).symm
theorem jI_lt {a b : Nat} (ha : a < 2147483648) (hb : b < 2147483648) : nI a < nI b ↔ a < b := by
  rw [Int32.lt_iff_toInt_lt, jI_int ha, jI_int hb]
  omega
theorem jI_le {a b : Nat} (ha : a < 2147483648) (hb : b < 2147483648) : nI a ≤ nI b ↔ a ≤ b := by
  rw [Int32.le_iff_toInt_le, jI_int ha, jI_int hb]
  omega
theorem jI_inj {a b : Nat} (ha : a < 2147483648) (hb : b < 2147483648) (h : nI a = nI b) : a = b := by
  have := congrArg Int32.toInt h
  rw [jI_int ha, jI_int hb] at this
  omega
/-- what lies in bounds is such a number -/
theorem jI_of {v : Int32} (h : ¬ v < 0) : ∃ k : Nat, k < 2147483648 ∧ v = nI k := by
  have h0 : (0 : Int) ≤ v.toInt := by
    have := Int32.not_lt.mp h
    simpa using Int32.le_iff_toInt_le.mp this
  refine ⟨v.toInt.toNat, ?_, ?_⟩
  · have := v.toInt_lt
    omega
  · apply Int32.toInt_inj.mp
    have := v.toInt_lt
    rw [jI_int (by omega)]
    omega
end CON
/-! ===== what always holds of the numbers; contracts of methods that write ===== -/
def kd (a b : Nat) : Nat := if a = 67 ∨ a = 68 ∨ a = 69 then (if b = 1 ∨ b = 2 then 1 else if 4 ≤ b ∧ b ≤ 13 then 2 else if 14 ≤ b ∧ b < 62 then (if (b - 14) % 6 = 0 then 3 else if (b - 14) % 6 = 4 ∨ (b - 14) % 6 = 5 then 2 else 0) else 0)
  else if a = 1 ∨ a = 18 ∨ a = 35 then (if b = 3 ∨ b = 4 then 1 else 0)
  else if a = 3 ∨ a = 20 ∨ a = 37 then 3
  else if a = 7 ∨ a = 24 ∨ a = 41 ∨ a = 8 ∨ a = 25 ∨ a = 42 ∨ a = 17 ∨ a = 34 ∨ a = 51 then 2
  else if a = 52 then (if b = 1 then 4 else 0)
  else if a = 58 ∨ a = 60 ∨ a = 62 ∨ a = 64 then (if b = 2 then 5 else 0)
  else if a = 66 then (if b = 9 then 4 else 0)
  else if a = 77 then 5 else 0
def okx (k : Nat) (v : Int32) : Prop := match k with
  | 0 => True
  | 1 => 0 ≤ v.toInt ∧ v.toInt ≤ 8
  | 2 => -1 ≤ v.toInt ∧ v.toInt ≤ 7
  | 3 => 0 ≤ v.toInt ∧ v.toInt ≤ 3
  | 4 => 0 ≤ v.toInt ∧ v.toInt ≤ 120
  | _ => 0 ≤ v.toInt ∧ v.toInt ≤ 40
def Wf (M : mM) : Prop := ∀ a b, okx (kd a b) (M a b)
theorem Wf.put {M : mM} {a b : Nat} {v : Int32} (h : Wf M) (hv : okx (kd a b) v) : Wf (mput M a b v) := by
  intro i j
  unfold mput
  split
  · rename_i e
    rw [e.1, e.2]
    exact hv
  · exact h i j
theorem jI_of2 {v : Int32} {n : Nat} (h : 0 ≤ v.toInt ∧ v.toInt ≤ (n : Int)) : ∃ k, k ≤ n ∧ v = nI k := by
  refine ⟨v.toInt.toNat, by omega, ?_⟩
  apply Int32.toInt_inj.mp
  have := v.toInt_lt
  rw [jI_int (by omega)]
  omega
theorem ok1 {v : Int32} (h : okx 1 v) : ∃ k, k ≤ 8 ∧ v = nI k := jI_of2 (n := 8) h
theorem ok3 {v : Int32} (h : okx 3 v) : ∃ k, k ≤ 3 ∧ v = nI k := jI_of2 (n := 3) h
theorem ok4 {v : Int32} (h : okx 4 v) : ∃ k, k ≤ 120 ∧ v = nI k := jI_of2 (n := 120) h
theorem ok5 {v : Int32} (h : okx 5 v) : ∃ k, k ≤ 40 ∧ v = nI k := jI_of2 (n := 40) h
theorem ok2 {v : Int32} (h : okx 2 v) : v = -1 ∨ ∃ k, k ≤ 7 ∧ v = nI k := by
  have h1 : -1 ≤ v.toInt ∧ v.toInt ≤ 7 := h
  by_cases h0 : v.toInt = -1
  · exact Or.inl (Int32.toInt_inj.mp (by rw [h0]; rfl))
  · exact Or.inr (jI_of2 (n := 7) (by omega))
theorem okI1 {k : Nat} (h : k ≤ 8) : okx 1 (nI k) := by
  show 0 ≤ (nI k).toInt ∧ (nI k).toInt ≤ 8
  rw [jI_int (by omega)]
  omega
theorem okI2 {k : Nat} (h : k ≤ 7) : okx 2 (nI k) := by
  show -1 ≤ (nI k).toInt ∧ (nI k).toInt ≤ 7
  rw [jI_int (by omega)]
  omega
theorem okI3 {k : Nat} (h : k ≤ 3) : okx 3 (nI k) := by
  show 0 ≤ (nI k).toInt ∧ (nI k).toInt ≤ 3
  rw [jI_int (by omega)]
  omega
theorem okI4 {k : Nat} (h : k ≤ 120) : okx 4 (nI k) := by
  show 0 ≤ (nI k).toInt ∧ (nI k).toInt ≤ 120
  rw [jI_int (by omega)]
  omega
theorem okI5 {k : Nat} (h : k ≤ 40) : okx 5 (nI k) := by
  show 0 ≤ (nI k).toInt ∧ (nI k).toInt ≤ 40
  rw [jI_int (by omega)]
  omega
theorem okM1 : okx 2 (-1) := by
  show -1 ≤ (-1 : Int32).toInt ∧ (-1 : Int32).toInt ≤ 7
  decide
section CTR
variable {X : mSc} {Q : Option Value → mHp → Prop} {mid pc : Nat} {L : mLoc} {st : List Value} {M : mM} {row : mRow} {as : List Value}
def QE (M : mM) (R : Int32 → Prop) : Option Value → mHp → Prop := fun r D => ∃ v, r = some (.int v) ∧ D = con M ∧ R v
def QI (P : Int32 → mM → Prop) : Option Value → mHp → Prop := fun r D => ∃ v M', r = some (.int v) ∧ D = con M' ∧ P v M'
def QV (P : mM → Prop) : Option Value → mHp → Prop := fun r D => ∃ M', r = none ∧ D = con M' ∧ P M'
theorem te_of {R : Int32 → Prop} (hm : mMet mid = some row) (hb : as.length ≤ row.2.2.2.1) (h : mEv X (QE M R) mid 0 (mEnv row.2.2.2.1 as) [] (con M)) : ∃ v, mT X mid as (con M) (some (.int v)) (con M) ∧ R v := by
  obtain ⟨n, r1, D1, h1, v, rfl, rfl, hr⟩ := h
  exact ⟨v, ⟨row, n, hm, hb, h1⟩, hr⟩
theorem ti_of {P : Int32 → mM → Prop} (hm : mMet mid = some row) (hb : as.length ≤ row.2.2.2.1) (h : mEv X (QI P) mid 0 (mEnv row.2.2.2.1 as) [] (con M)) : ∃ v M', mT X mid as (con M) (some (.int v)) (con M') ∧ P v M' := by
  obtain ⟨n, r1, D1, h1, v, M', rfl, rfl, hr⟩ := h
  exact ⟨v, M', ⟨row, n, hm, hb, h1⟩, hr⟩
theorem tv_of {P : mM → Prop} (hm : mMet mid = some row) (hb : as.length ≤ row.2.2.2.1) (h : mEv X (QV P) mid 0 (mEnv row.2.2.2.1 as) [] (con M)) : ∃ M', mT X mid as (con M) none (con M') ∧ P M' := by
  obtain ⟨n, r1, D1, h1, M', rfl, rfl, hr⟩ := h
  exact ⟨M', ⟨row, n, hm, hb, h1⟩, hr⟩
theorem x_cSe {idx len j kd a b : Nat} {z : Int} {as r : List Value} {R : Int32 → Prop} (hm : mMet mid = some row) (hf : mFetch mid pc = some (.invokestatic idx, len, j, kd, a, b, z)) (hs : mCall (.invokestatic idx, len, j, kd, a, b, z) false pc L st (con M) = some (.inr (.inr (a, as, r)))) (hc : ∃ v, mT X a as (con M) (some (.int v)) (con M) ∧ R v) (k : ∀ v, R v → mEv X Q mid (pc + 3) L (.int v :: r) (con M)) : mEv X Q mid pc L st (con M) := by
  obtain ⟨v, h1, h2⟩ := hc
  exact x_callS hm hf hs h1 (k v h2)
theorem x_cSi {idx len j kd a b : Nat} {z : Int} {as r : List Value} {P : Int32 → mM → Prop} (hm : mMet mid = some row) (hf : mFetch mid pc = some (.invokestatic idx, len, j, kd, a, b, z)) (hs : mCall (.invokestatic idx, len, j, kd, a, b, z) false pc L st (con M) = some (.inr (.inr (a, as, r)))) (hc : ∃ v M', mT X a as (con M) (some (.int v)) (con M') ∧ P v M') (k : ∀ v M', P v M' → mEv X Q mid (pc + 3) L (.int v :: r) (con M')) : mEv X Q mid pc L st (con M) := by
  obtain ⟨v, M', h1, h2⟩ := hc
  exact x_callS hm hf hs h1 (k v M' h2)
theorem x_cSv {idx len j kd a b : Nat} {z : Int} {as r : List Value} {P : mM → Prop} (hm : mMet mid = some row) (hf : mFetch mid pc = some (.invokestatic idx, len, j, kd, a, b, z)) (hs : mCall (.invokestatic idx, len, j, kd, a, b, z) false pc L st (con M) = some (.inr (.inr (a, as, r)))) (hc : ∃ M', mT X a as (con M) none (con M') ∧ P M') (k : ∀ M', P M' → mEv X Q mid (pc + 3) L r (con M')) : mEv X Q mid pc L st (con M) := by
  obtain ⟨M', h1, h2⟩ := hc
  exact x_callS hm hf hs h1 (k M' h2)
theorem x_cVe {idx len j kd a b : Nat} {z : Int} {as r : List Value} {R : Int32 → Prop} (hm : mMet mid = some row) (hf : mFetch mid pc = some (.invokevirtual idx, len, j, kd, a, b, z)) (hs : mCall (.invokevirtual idx, len, j, kd, a, b, z) true pc L st (con M) = some (.inr (.inr (a, as, r)))) (hc : ∃ v, mT X a as (con M) (some (.int v)) (con M) ∧ R v) (k : ∀ v, R v → mEv X Q mid (pc + 3) L (.int v :: r) (con M)) : mEv X Q mid pc L st (con M) := by
  obtain ⟨v, h1, h2⟩ := hc
  exact x_callV hm hf hs h1 (k v h2)
theorem x_cVi {idx len j kd a b : Nat} {z : Int} {as r : List Value} {P : Int32 → mM → Prop} (hm : mMet mid = some row) (hf : mFetch mid pc = some (.invokevirtual idx, len, j, kd, a, b, z)) (hs : mCall (.invokevirtual idx, len, j, kd, a, b, z) true pc L st (con M) = some (.inr (.inr (a, as, r)))) (hc : ∃ v M', mT X a as (con M) (some (.int v)) (con M') ∧ P v M') (k : ∀ v M', P v M' → mEv X Q mid (pc + 3) L (.int v :: r) (con M')) : mEv X Q mid pc L st (con M) := by
  obtain ⟨v, M', h1, h2⟩ := hc
  exact x_callV hm hf hs h1 (k v M' h2)
theorem x_cVv {idx len j kd a b : Nat} {z : Int} {as r : List Value} {P : mM → Prop} (hm : mMet mid = some row) (hf : mFetch mid pc = some (.invokevirtual idx, len, j, kd, a, b, z)) (hs : mCall (.invokevirtual idx, len, j, kd, a, b, z) true pc L st (con M) = some (.inr (.inr (a, as, r)))) (hc : ∃ M', mT X a as (con M) none (con M') ∧ P M') (k : ∀ M', P M' → mEv X Q mid (pc + 3) L r (con M')) : mEv X Q mid pc L st (con M) := by
  obtain ⟨M', h1, h2⟩ := hc
  exact x_callV hm hf hs h1 (k M' h2)
theorem x_cIe {idx len j kd a b : Nat} {z : Int} {as r : List Value} {R : Int32 → Prop} (hm : mMet mid = some row) (hf : mFetch mid pc = some (.invokespecial idx, len, j, kd, a, b, z)) (hs : mCall (.invokespecial idx, len, j, kd, a, b, z) true pc L st (con M) = some (.inr (.inr (a, as, r)))) (hc : ∃ v, mT X a as (con M) (some (.int v)) (con M) ∧ R v) (k : ∀ v, R v → mEv X Q mid (pc + 3) L (.int v :: r) (con M)) : mEv X Q mid pc L st (con M) := by
  obtain ⟨v, h1, h2⟩ := hc
  exact x_callI hm hf hs h1 (k v h2)
theorem x_cIi {idx len j kd a b : Nat} {z : Int} {as r : List Value} {P : Int32 → mM → Prop} (hm : mMet mid = some row) (hf : mFetch mid pc = some (.invokespecial idx, len, j, kd, a, b, z)) (hs : mCall (.invokespecial idx, len, j, kd, a, b, z) true pc L st (con M) = some (.inr (.inr (a, as, r)))) (hc : ∃ v M', mT X a as (con M) (some (.int v)) (con M') ∧ P v M') (k : ∀ v M', P v M' → mEv X Q mid (pc + 3) L (.int v :: r) (con M')) : mEv X Q mid pc L st (con M) := by
  obtain ⟨v, M', h1, h2⟩ := hc
  exact x_callI hm hf hs h1 (k v M' h2)
theorem x_cIv {idx len j kd a b : Nat} {z : Int} {as r : List Value} {P : mM → Prop} (hm : mMet mid = some row) (hf : mFetch mid pc = some (.invokespecial idx, len, j, kd, a, b, z)) (hs : mCall (.invokespecial idx, len, j, kd, a, b, z) true pc L st (con M) = some (.inr (.inr (a, as, r)))) (hc : ∃ M', mT X a as (con M) none (con M') ∧ P M') (k : ∀ M', P M' → mEv X Q mid (pc + 3) L r (con M')) : mEv X Q mid pc L st (con M) := by
  obtain ⟨M', h1, h2⟩ := hc
  exact x_callI hm hf hs h1 (k M' h2)
end CTR
