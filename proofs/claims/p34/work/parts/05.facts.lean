/-! ===== what a program decides of the tables ===== -/
/-- of the pairs at the list's head all that have the number k name the word w; the rest -/
def mTake (k : Nat) (w : Cond) : List (Nat × Cond) → Option (List (Nat × Cond))
  | [] => some []
  | q :: r => cond (Nat.beq q.1 k) (cond (decide (q.2 = w)) (mTake k w r) none) (some (q :: r))
def mWalk : Nat → List Cond → List (Nat × Cond) → Bool
  | _, [], r => r.isEmpty
  | k, w :: ws, r => match mTake k w r with
    | some r' => mWalk (k + 1) ws r'
    | none => false
theorem mTake_spec {k : Nat} {w : Cond} : ∀ {r r' : List (Nat × Cond)}, mTake k w r = some r' → ∀ q ∈ r, q.2 = w ∨ q ∈ r' := by
  intro r
  induction r with
  | nil => intro r' _ q hq; cases hq
  | cons d r ih =>
    intro r' h q hq
    unfold mTake at h
    cases hb : Nat.beq d.1 k with
    | false =>
      rw [hb] at h
      cases h
      exact Or.inr hq
    | true =>
      rw [hb] at h
      by_cases hw : d.2 = w
      · simp only [hw, decide_true, cond_true] at h
        rcases List.mem_cons.mp hq with rfl | hq
        · exact Or.inl hw
        · exact ih h q hq
      · simp [hw] at h
theorem mWalk_spec : ∀ {ws : List Cond} {k : Nat} {r : List (Nat × Cond)}, mWalk k ws r = true → ∀ q ∈ r, q.2 ∈ ws := by
  intro ws
  induction ws with
  | nil =>
    intro k r h q hq
    have : r = [] := by simpa [mWalk] using h
    subst this
    cases hq
  | cons w ws ih =>
    intro k r h q hq
    unfold mWalk at h
    cases ht : mTake k w r with
    | none => rw [ht] at h; cases h
    | some r' =>
      rw [ht] at h
      rcases mTake_spec ht q hq with h1 | h1
      · rw [h1]; exact List.mem_cons_self
      · exact List.mem_cons_of_mem _ (ih h q h1)
noncomputable def mY (i : Nat) : MethodName := ((mMet i).map fun r => r.2.1).getD ⟨"", "", ""⟩
def mCo (t : Nat) : String := match t with
  | 2 => "EnvyRust$Sheet"
  | _ => "java/lang/String"
def mStrLen : MethodName := ⟨"java/lang/String", "length", "()I"⟩
def mStrChr : MethodName := ⟨"java/lang/String", "charAt", "(I)C"⟩
noncomputable def mLwd (q : mLnk) : Cond := match q.2.2.1 with
  | 0 => .fieldLink (mNm q.1) q.2.1 (mNm q.2.2.2.1) (mFT q.2.2.2.1 q.2.2.2.2.1).2.1 (mFT q.2.2.2.1 q.2.2.2.2.1).2.2.1
  | 1 => .fieldLinkNest (mNm q.1) q.2.1 (mNm q.2.2.2.1) (mFT q.2.2.2.1 q.2.2.2.2.1).2.1 (mFT q.2.2.2.1 q.2.2.2.2.1).2.2.1 "EnvyRust"
  | 2 => .constant (mNm q.1) q.2.1 (Int32.ofInt q.2.2.2.2.2)
  | 3 => .stringRef (mNm q.1) q.2.1 (mTs.getD q.2.2.2.2.1 "")
  | 4 => .classLink (mNm q.1) q.2.1 (mNm q.2.2.2.1)
  | 5 => .classLink (mNm q.1) q.2.1 (mCo q.2.2.2.1)
  | 6 => .classLink (mNm q.1) q.2.1 "[[I"
  | 7 => .fieldLink (mNm q.1) q.2.1 "EnvyRust" "KIND_ABOVE" "[I"
  | 10 => .methodLink (mNm q.1) q.2.1 (mY q.2.2.2.1)
  | 12 => .methodLink (mNm q.1) q.2.1 (mY q.2.2.2.1)
  | 14 => .methodLink (mNm q.1) q.2.1 (mY q.2.2.2.1)
  | 11 => .methodLinkNest (mNm q.1) q.2.1 (mY q.2.2.2.1) "EnvyRust"
  | 13 => .methodLinkNest (mNm q.1) q.2.1 (mY q.2.2.2.1) "EnvyRust"
  | 15 => .methodLinkNest (mNm q.1) q.2.1 (mY q.2.2.2.1) "EnvyRust"
  | 20 => .methodLink (mNm q.1) q.2.1 Lib.objectInit
  | 21 => .methodLink (mNm q.1) q.2.1 arraycopyName
  | 22 => .methodLink (mNm q.1) q.2.1 mStrLen
  | 24 => .methodLink (mNm q.1) q.2.1 Lib.Math.max.name
  | 25 => .methodLink (mNm q.1) q.2.1 Lib.Math.min.name
  | _ => .methodLink (mNm q.1) q.2.1 mStrChr
noncomputable def mLck (q : mLnk) : Bool := match q.2.2.1 with
  | 0 => goodWord (mLwd q) && Nat.blt q.2.2.2.1 5 && Nat.blt q.2.2.2.2.1 (mFN q.2.2.2.1) && decide ((mFT q.2.2.2.1 q.2.2.2.2.1).1 = mNm q.2.2.2.1)
  | 1 => mNest (mLwd q) && Nat.blt q.2.2.2.1 5 && Nat.blt q.2.2.2.2.1 (mFN q.2.2.2.1) && decide ((mFT q.2.2.2.1 q.2.2.2.2.1).1 = mNm q.2.2.2.1)
  | 3 => Nat.blt q.2.2.2.2.1 15
  | 4 => goodWord (mLwd q) && Nat.blt q.2.2.2.1 5
  | 5 => goodWord (mLwd q) && (Nat.beq q.2.2.2.1 2 || Nat.beq q.2.2.2.1 4)
  | 10 => goodWord (mLwd q) && decide ((parseMethodDescriptor (mY q.2.2.2.1).desc).map (fun d => d.parameters.length + 1) = some q.2.2.2.2.1)
  | 11 => mNest (mLwd q) && decide ((parseMethodDescriptor (mY q.2.2.2.1).desc).map (fun d => d.parameters.length + 1) = some q.2.2.2.2.1)
  | 12 => goodWord (mLwd q) && decide ((parseMethodDescriptor (mY q.2.2.2.1).desc).map (fun d => d.parameters.length) = some q.2.2.2.2.1)
  | 13 => mNest (mLwd q) && decide ((parseMethodDescriptor (mY q.2.2.2.1).desc).map (fun d => d.parameters.length) = some q.2.2.2.2.1)
  | 14 => goodWord (mLwd q) && decide ((parseMethodDescriptor (mY q.2.2.2.1).desc).map (fun d => d.parameters.length + 1) = some q.2.2.2.2.1) && decide ((mY q.2.2.2.1).name = "<init>")
  | 15 => mNest (mLwd q) && decide ((parseMethodDescriptor (mY q.2.2.2.1).desc).map (fun d => d.parameters.length + 1) = some q.2.2.2.2.1) && decide ((mY q.2.2.2.1).name = "<init>")
  | _ => goodWord (mLwd q)
theorem mLT_ck : mLT.all mLck = true := by decide +kernel
theorem mLT_wk : mWalk 0 tables_1 (mLH.zip (mLT.map mLwd)) = true := by decide +kernel
theorem mLT_len : mLT.length = mLH.length := by decide +kernel
theorem mTb_in {w : Cond} (h : w ∈ tables_1) : w ∈ lw_tbl := List.mem_append_right _ h
theorem mTb_gw {w : Cond} (h : w ∈ tables_1) (hg : goodWord w = true) : w ∈ mGW := List.mem_filter.mpr ⟨mTb_in h, hg⟩
theorem mTb_nw {w : Cond} (h : w ∈ tables_1) (hg : mNest w = true) : w ∈ mNW := List.mem_filter.mpr ⟨mTb_in h, hg⟩
theorem mLT_at {j : Nat} {q : mLnk} (h : mLT[j]? = some q) : mLwd q ∈ tables_1 ∧ mLck q = true := by
  have hj : j < mLT.length := (List.getElem?_eq_some_iff.mp h).1
  have hk : j < mLH.length := by rw [← mLT_len]; exact hj
  refine ⟨?_, List.all_eq_true.mp mLT_ck _ (List.mem_of_getElem? h)⟩
  refine mWalk_spec mLT_wk (mLH[j], mLwd q) (List.mem_of_getElem? (i := j) ?_)
  rw [List.getElem?_zip_eq_some]
  exact ⟨List.getElem?_eq_getElem hk, by rw [List.getElem?_map, h]; rfl⟩
noncomputable def mCw (r : mRow) : MethodName × ByteArray × Nat × Option FieldType := (r.2.1, r.2.2.1, r.2.2.2.1, r.2.2.2.2.1)
set_option maxRecDepth 100000 in
theorem mM_cw : tables_1.filterMap (fun w => match w with
    | .code y b n r => some (y, b, n, r)
    | _ => none) = mMs.flatten.dropLast.map mCw := by rfl
