/-! ===== the simulation: a run of the small machine is a walk of the real one ===== -/
def mPr3 (en : mEnt) (row : mRow) (st : List Value) (D : mHp) (pc : Nat) (L : mLoc) (o : Option mRes) : Prop :=
  (∀ v, o = some (.inr (.inl v)) → (en.1 = .ireturn ∧ ∃ (x : Int32) (ty : FieldType), st = [.int x] ∧ row.2.2.2.2.1 = some ty ∧ narrow ty (.int x) = .int x ∧ v = some (.int x)) ∨ (en.1 = .lreturn ∧ ∃ x : Int64, st = [.long x] ∧ row.2.2.2.2.1 = some .long ∧ v = some (.long x))
    ∨ (en.1 = .areturn ∧ ∃ (x : Nat) (C : String), st = [.ref x] ∧ row.2.2.2.2.1 = some (.object C) ∧ v = some (.ref x)) ∨ (en.1 = .return_ ∧ st = [] ∧ row.2.2.2.2.1 = none ∧ v = none)) ∧
  (∀ x, o = some (.inr (.inr x)) → ((∃ idx, en.1 = .invokestatic idx) ∧ mCall en false pc L st D = some (.inr (.inr x))) ∨ (((∃ idx, en.1 = .invokevirtual idx) ∨ (∃ idx, en.1 = .invokespecial idx)) ∧ mCall en true pc L st D = some (.inr (.inr x))))
section MP3
variable {en : mEnt} {row : mRow} {st : List Value} {D : mHp} {pc : Nat} {L : mLoc}
theorem mPr3_none : mPr3 en row st D pc L none := ⟨fun _ h => (by cases h), fun _ h => (by cases h)⟩
theorem mPr3_nx {pc' : Nat} {L' : mLoc} {st' : List Value} {D' : mHp} : mPr3 en row st D pc L (mNx pc' L' st' D') := ⟨fun _ h => (by simp [mNx] at h), fun _ h => (by simp [mNx] at h)⟩
theorem mPr3_go {pc' : Nat} {off : Int} {L' : mLoc} {st' : List Value} {D' : mHp} : mPr3 en row st D pc L (mGo pc' off L' st' D') := ⟨fun _ h => (by simp [mGo] at h), fun _ h => (by simp [mGo] at h)⟩
theorem mPr3_br {b : Bool} {pc' : Nat} {off : Int} {L' : mLoc} {st' : List Value} {D' : mHp} : mPr3 en row st D pc L (mBr b pc' off L' st' D') := ⟨fun _ h => (by simp [mBr] at h), fun _ h => (by simp [mBr] at h)⟩
theorem mPr3_cond {b : Bool} {o : Option mRes} (h : b = true → mPr3 en row st D pc L o) : mPr3 en row st D pc L (cond b o none) := by
  cases b with
  | true => exact h rfl
  | false => exact mPr3_none
theorem mPr3_bind {α : Type} {o : Option α} {f : α → Option mRes} (h : ∀ a, o = some a → mPr3 en row st D pc L (f a)) : mPr3 en row st D pc L (o.bind f) := by
  cases o with
  | none => exact mPr3_none
  | some a => exact h a rfl
theorem mCall_no {v : Bool} (x : Option Value) (h : mCall en v pc L st D = some (.inr (.inl x))) : False := by
  unfold mCall at h
  repeat' split at h
  all_goals (first | cases h | (have h9 := (mCond_eq h).2; simp [mNx] at h9))
end MP3
set_option maxHeartbeats 4000000 in
theorem mStep_out {X : mSc} {row : mRow} {en : mEnt} {pc : Nat} {L : mLoc} {st : List Value} {D : mHp} : mPr3 en row st D pc L (mStep X row en pc L st D) := by
  unfold mStep
  split
  all_goals (try (repeat' (first | exact mPr3_none | exact mPr3_nx | exact mPr3_go | exact mPr3_br | (refine mPr3_cond fun hcnd => ?_) | (refine mPr3_bind fun _ _ => ?_) | split)))
  all_goals (first
    | exact ⟨fun v h => (mCall_no v h).elim, fun x h => Or.inl ⟨⟨_, by assumption⟩, h⟩⟩
    | exact ⟨fun v h => (mCall_no v h).elim, fun x h => Or.inr ⟨Or.inl ⟨_, by assumption⟩, h⟩⟩
    | exact ⟨fun v h => (mCall_no v h).elim, fun x h => Or.inr ⟨Or.inr ⟨_, by assumption⟩, h⟩⟩
    | exact ⟨fun v h => Or.inl ⟨by assumption, _, _, rfl, by assumption, of_decide_eq_true hcnd, (by cases h; rfl)⟩, fun _ h => (by cases h)⟩
    | exact ⟨fun v h => Or.inr (Or.inl ⟨by assumption, _, rfl, of_decide_eq_true hcnd, (by cases h; rfl)⟩), fun _ h => (by cases h)⟩
    | exact ⟨fun v h => Or.inr (Or.inr (Or.inl ⟨by assumption, _, _, rfl, by assumption, (by cases h; rfl)⟩)), fun _ h => (by cases h)⟩
    | exact ⟨fun v h => Or.inr (Or.inr (Or.inr ⟨by assumption, rfl, of_decide_eq_true hcnd, (by cases h; rfl)⟩)), fun _ h => (by cases h)⟩)
theorem mCall_eq {en : mEnt} {v : Bool} {pc : Nat} {L : mLoc} {st : List Value} {D : mHp} {x : Nat × List Value × List Value} (h : mCall en v pc L st D = some (.inr (.inr x))) :
    x = (en.2.2.2.2.1, (st.take en.2.2.2.2.2.1).reverse, st.drop en.2.2.2.2.2.1) ∧ en.2.2.2.2.2.1 ≤ st.length ∧ mC1 (st.take en.2.2.2.2.2.1) = true ∧ mWt (st.drop en.2.2.2.2.2.1) ≤ 8 ∧ (v = true → mRcv D (st.take en.2.2.2.2.2.1).reverse en.2.2.2.2.1 = true) ∧ en.2.2.2.1 ≠ 20 ∧ en.2.2.2.1 ≠ 21 ∧ en.2.2.2.1 ≠ 22 ∧ en.2.2.2.1 ≠ 23 ∧ en.2.2.2.1 ≠ 24 ∧ en.2.2.2.1 ≠ 25 := by
  unfold mCall at h
  split at h
  · split at h
    · have h9 := (mCond_eq h).2; simp [mNx] at h9
    · cases h
  · split at h
    · split at h
      · have h9 := (mCond_eq h).2; simp [mNx] at h9
      · cases h
    · cases h
  · split at h
    · split at h
      · have h9 := (mCond_eq h).2; simp [mNx] at h9
      · cases h
    · cases h
  · split at h
    · split at h
      · have h9 := (mCond_eq h).2; simp [mNx] at h9
      · cases h
    · cases h
  · split at h
    · have h9 := (mCond_eq h).2; simp [mNx] at h9
    · cases h
  · split at h
    · have h9 := (mCond_eq h).2; simp [mNx] at h9
    · cases h
  · obtain ⟨h1, h2⟩ := mCond_eq h
    simp only [Bool.and_eq_true, Bool.or_eq_true, Bool.not_eq_true'] at h1
    refine ⟨?_, Nat.le_of_ble_eq_true h1.1.1.1, h1.1.1.2, Nat.le_of_ble_eq_true h1.1.2, fun hv => ?_, by assumption, by assumption, by assumption, by assumption, by assumption, by assumption⟩
    · simp only [Option.some.injEq, Sum.inr.injEq] at h2
      exact h2.symm
    · rcases h1.2 with h3 | h3
      · rw [hv] at h3; cases h3
      · exact h3
theorem lv_args1 : ∀ (vs : List Value) (k i : Nat) (v : Value), (∀ w ∈ vs, w.category = 1) → vs[i]? = some v → (k + i, v) ∈ lv_args k vs := by
  intro vs
  induction vs with
  | nil => intro k i v _ h; simp at h
  | cons w vs ih =>
    intro k i v hc h
    have hw : w.category = 1 := hc w List.mem_cons_self
    have e : lv_args k (w :: vs) = (k, w) :: lv_args (k + 1) vs := by
      show (k, w) :: lv_args (if w.category = 2 then k + 2 else k + 1) vs = _
      rw [if_neg (by omega)]
    rw [e]
    cases i with
    | zero =>
      simp only [List.getElem?_cons_zero, Option.some.injEq] at h
      subst h
      exact List.mem_cons_self
    | succ i =>
      simp only [List.getElem?_cons_succ] at h
      have := ih (k + 1) i v (fun u hu => hc u (List.mem_cons_of_mem _ hu)) h
      rw [show k + 1 + i = k + (i + 1) by omega] at this
      exact List.mem_cons_of_mem _ this
theorem lg_sl1 : ∀ (vs : List Value), (∀ w ∈ vs, w.category = 1) → (lg_sl vs).length = vs.length := by
  intro vs
  induction vs with
  | nil => intro _; rfl
  | cons w vs ih =>
    intro hc
    have hw : w.category = 1 := hc w List.mem_cons_self
    have h1 := ih (fun u hu => hc u (List.mem_cons_of_mem _ hu))
    unfold lg_sl at h1 ⊢
    rw [List.flatMap_cons, List.length_append, h1, if_neg (by omega)]
    simp
    omega
theorem mC1_cat {as : List Value} (h : mC1 as = true) : ∀ w ∈ as, w.category = 1 := fun w hw => Nat.eq_of_beq_eq_true (List.all_eq_true.mp h w hw)
theorem mEnv_LR {G : mG} {as : List Value} {n : Nat} {ls : Array Slot} (hc : ∀ w ∈ as, w.category = 1) (hn : as.length ≤ n) (hl : lv_has ls n (lv_args 0 (as.map (mV G)))) : mLR G ls n (mEnv n as) := by
  refine ⟨by simp [mEnv]; omega, hl.1, hl.2.1, fun i v hi => ?_⟩
  have hi2 : as[i]? = some v := by
    unfold mEnv at hi
    by_cases hlt : i < as.length
    · rw [List.getElem?_append_left (by rw [List.length_map]; exact hlt), List.getElem?_map] at hi
      cases ha : as[i]? with
      | none => rw [ha] at hi; cases hi
      | some w =>
        rw [ha] at hi
        simp only [Option.map_some, Option.some.injEq] at hi
        rw [hi]
    · rw [List.getElem?_append_right (by rw [List.length_map]; omega), List.getElem?_replicate] at hi
      split at hi <;> simp at hi
  have := lv_args1 (as.map (mV G)) 0 i (mV G v) (fun w hw => by
    obtain ⟨u, hu, rfl⟩ := List.mem_map.mp hw
    rw [mV_cat]
    exact hc u hu) (by rw [List.getElem?_map, hi2]; rfl)
  rw [Nat.zero_add] at this
  exact hl.2.2 _ this
section MSF
variable {p : Program} {l : Launch} {e : Env} {R : Room} {s : State} {m : MethodId} {args : Array Value} {below : List Frame} {meth : Method} {c : Code} {Q : State → Prop} {G : mG} {row : mRow} {d0 s0 : Nat} {pc : Nat} {L : mLoc} {st : List Value} {D : mHp} {r : Option Value}
theorem m_ret {X : mSc} {en : mEnt} (C : mCx p R s m args meth c G row d0) (hret : meth.sig.returnType = row.2.2.2.2.1) (hlk : meth.locks = false) (hd : decode row.2.2.1 pc = .ok (en.1, en.2.1)) (he : mEck row en = true) (h : mStep X row en pc L st D = some (.inr (.inl r))) :
    mK p l e R s m args below meth c (MQ below (mQc G r D) args s (D.length - d0) (mSl D - s0) (mA G)) G row.2.2.2.1 d0 s0 pc L st D := by
  intro ls H locs cells slots hL hP hS hc hs
  obtain ⟨hx, hb, hml, hown, hts, hE, -, hz, hfr, hlo⟩ := C
  have ec : cells = D.length - d0 := by omega
  have es : slots = mSl D - s0 := by omega
  subst ec
  subst es
  have hlen : mLnk' en.1 en.2.1 = true := by
    unfold mEck at he
    rw [Bool.and_eq_true] at he
    exact he.1
  have hend : ∀ t : State, t.heap = H → s.WarmedH t.vm → mQc G r D args s (.returned (r.map (mV G))) t := fun t ht hW => ⟨rfl, by rw [ht]; exact hP, hS.F ht⟩
  rcases mStep_out.1 r h with ⟨h1, x, ty, rfl, hty, hn, rfl⟩ | ⟨h1, x, rfl, hty, rfl⟩ | ⟨h1, x, Cn, rfl, hty, rfl⟩ | ⟨h1, rfl, hty, rfl⟩
  · rw [h1] at hd hlen
    rw [mLen_of hlen rfl] at hd
    exact W.zret hx hb (hret.trans hty) hn hend hS.2.2 hd hlk
  · rw [h1] at hd hlen
    rw [mLen_of hlen rfl] at hd
    exact W.lret hx hb (hret.trans hty) hend hS.2.2 hd hlk
  · rw [h1] at hd hlen
    rw [mLen_of hlen rfl] at hd
    exact W.aret hx hb (hret.trans hty) (Or.inl ⟨Cn, rfl⟩) (Or.inr ⟨_, rfl⟩) hend hS.2.2 hd hlk
  · rw [h1] at hd hlen
    rw [mLen_of hlen rfl] at hd
    exact W.vret hx hb (hret.trans hty) hend hS.2.2 hd hlk
end MSF
