/-! ===== the small machine's worlds in the real heap ===== -/
abbrev mG : Type := Nat × (Nat → Nat) × va_G × (Nat → ClassId) × mSc
def mAd (G : mG) (i : Nat) : Nat := if i < 1000000 then G.1 + i else G.2.1 (i - 1000000)
def mV (G : mG) (v : Value) : Value := match v with
  | .ref i => .ref (mAd G i)
  | v => v
def mCA (G : mG) (a : vp_A) : vp_A := match a with
  | (n, .inr (.inr (.inr (.inr f)))) => (n, .inr (.inr (.inr (.inr (fun i => (f i).map (mAd G))))))
  | a => a
def mCE (G : mG) (c : va_E) : va_E := match c with
  | .inl a => .inl (G.2.2.2.1 a.1, mCA G a.2)
  | .inr o => .inr (o.1, o.2.map (mV G))
def mW (G : mG) : Nat → mHp → va_W
  | _, [] => []
  | k, c :: D => (G.1 + k, mCE G c) :: mW G (k + 1) D
theorem mV_cat (G : mG) (v : Value) : (mV G v).category = v.category := by cases v <;> rfl
theorem mV_rf (G : mG) (r : Option Nat) : mV G (va_rf r) = va_rf (r.map (mAd G)) := by cases r <;> rfl
theorem mAd_lt {G : mG} {i : Nat} (h : i < 1000000) : mAd G i = G.1 + i := if_pos h
theorem mW_get (G : mG) : ∀ (D : mHp) (k i : Nat), (mW G k D)[i]? = (D[i]?).map (fun c => (G.1 + (k + i), mCE G c)) := by
  intro D
  induction D with
  | nil => intro k i; simp [mW]
  | cons c D ih =>
    intro k i
    cases i with
    | zero => simp [mW]
    | succ i =>
      simp only [mW, List.getElem?_cons_succ]
      rw [ih, show k + 1 + i = k + (i + 1) by omega]
theorem mW_at {G : mG} {D : mHp} {i : Nat} {c : va_E} (h : D[i]? = some c) : (mW G 0 D)[i]? = some (G.1 + i, mCE G c) := by
  rw [mW_get, h, Option.map_some, Nat.zero_add]
theorem mW_set (G : mG) (c : va_E) : ∀ (D : mHp) (k i : Nat), mW G k (D.set i c) = (mW G k D).set i (G.1 + (k + i), mCE G c) := by
  intro D
  induction D with
  | nil => intro k i; simp [mW]
  | cons d D ih =>
    intro k i
    cases i with
    | zero => simp [mW]
    | succ i =>
      simp only [mW, List.set_cons_succ]
      rw [ih, show k + 1 + i = k + (i + 1) by omega]
theorem mW_set0 (G : mG) (D : mHp) (i : Nat) (c : va_E) : mW G 0 (D.set i c) = (mW G 0 D).set i (G.1 + i, mCE G c) := by rw [mW_set, Nat.zero_add]
theorem mW_app (G : mG) (E : mHp) : ∀ (D : mHp) (k : Nat), mW G k (D ++ E) = mW G k D ++ mW G (k + D.length) E := by
  intro D
  induction D with
  | nil => intro k; simp [mW]
  | cons d D ih =>
    intro k
    simp only [List.cons_append, mW, List.length_cons]
    rw [ih, show k + 1 + D.length = k + (D.length + 1) by omega]
abbrev mA (G : mG) : Nat → Prop := fun q => G.1 ≤ q
theorem mW_D (G : mG) (D : mHp) : va_D (mA G) (mW G 0 D) := by
  refine ⟨fun i j p q hi hj h => ?_, fun k q hk => ?_⟩
  · rw [mW_get] at hi hj
    obtain ⟨c, -, rfl⟩ := Option.map_eq_some_iff.mp hi
    obtain ⟨d, -, rfl⟩ := Option.map_eq_some_iff.mp hj
    have h9 : G.1 + (0 + i) = G.1 + (0 + j) := h
    omega
  · rw [mW_get] at hk
    obtain ⟨c, -, rfl⟩ := Option.map_eq_some_iff.mp hk
    show G.1 ≤ G.1 + (0 + k)
    omega
def mMS (G : mG) (D : mHp) (H : Heap) : Prop := va_P G.2.2.1 vwCl (mW G 0 D) H
theorem mMS.low {G : mG} {D : mHp} {H : Heap} (h : mMS G D H) (h0 : G.1 ≤ H.size) : G.1 + D.length ≤ H.size := by
  cases hD : D.length with
  | zero => omega
  | succ n =>
    obtain ⟨c, hc⟩ : ∃ c, D[n]? = some c := ⟨D[n]'(by omega), List.getElem?_eq_getElem (by omega)⟩
    have := (h n _ (mW_at hc)).lt
    have h9 : G.1 + n < H.size := this
    omega
abbrev mTys (G : mG) : List (ClassId × FieldType) := [(G.2.2.2.1 0, .int), (G.2.2.2.1 1, .byte), (G.2.2.2.1 2, .object "EnvyRust$Sheet"), (G.2.2.2.1 3, .array .int), (G.2.2.2.1 4, .object "java/lang/String")]
/-- the words that every table keeps -/
noncomputable def mGW : List Cond := lw_tbl.filter goodWord
def mNest (w : Cond) : Bool := match w with
  | .fieldLinkNest .. => true
  | .methodLinkNest .. => true
  | _ => false
noncomputable def mNW : List Cond := lw_tbl.filter mNest
theorem mGW_good : GoodIn mGW mGW := fun w h => ⟨h, good_of_word (List.mem_filter.mp h).2⟩
theorem mGW_in {i : Nat} {w : Cond} (h : lw_tbl[i]? = some w) (hg : goodWord w = true) : w ∈ mGW := List.mem_filter.mpr ⟨List.mem_of_getElem? h, hg⟩
theorem mNW_in {i : Nat} {w : Cond} (h : lw_tbl[i]? = some w) (hg : mNest w = true) : w ∈ mNW := List.mem_filter.mpr ⟨List.mem_of_getElem? h, hg⟩
/-- what holds of the tables and of the cells that nobody writes: classes, links, texts, the kinds' table, the script -/
noncomputable def mE (G : mG) (U : State) (H : Heap) : Prop :=
  va_K G.2.2.1 vwCl (mTys G) U ∧ (∀ w ∈ mNW, va_Nw w U) ∧ (va_AO "EnvyRust$Sheet" U ∧ va_AO "java/lang/String" U ∧ (Cond.arrayOver (.array .int)).before #[] U = true) ∧
  (∀ t, t < 15 → va_O "java/lang/String" (G.2.1 t) (mA G) U H ∧ va_OF "java/lang/String" "coder" "B" (.int 0) (G.2.1 t) (mA G) U H ∧ va_OF "java/lang/String" "value" "[B" (.ref (G.2.1 (300 + t))) (G.2.1 t) (mA G) U H ∧ va_T .byte (G.2.1 (300 + t)) (mTx.getD t []).length (fun j => .int (nI ((mTx.getD t []).getD j 0))) (mA G) U H) ∧ (∀ q ∈ mLT, q.2.2.1 = 3 → vk_R (mNm q.1) q.2.1 (mTs.getD q.2.2.2.2.1 "") (G.2.1 q.2.2.2.2.1) U) ∧
  va_Z "EnvyRust" "KIND_ABOVE" "[I" (.ref (G.2.1 100)) (mA G) U H ∧ va_T .int (G.2.1 100) 7 (fun j => .int (mKA j)) (mA G) U H ∧ va_T .int (G.2.1 200) G.2.2.2.2.1 (fun j => .int (G.2.2.2.2.2 j)) (mA G) U H ∧
  (va_Z "java/lang/String" "COMPACT_STRINGS" "Z" (.int 1) (mA G) U H ∧ va_Zq "jdk/internal/util/Preconditions" "SIOOBE_FORMATTER" "Ljava/util/function/BiFunction;" (mA G) U H)
theorem mAO_moved {t : FieldType} {u U : State} (hvm : u.vm.Alike U.vm) (h : (Cond.arrayOver (.array t)).before #[] u = true) : (Cond.arrayOver (.array t)).before #[] U = true := by
  have h0 : (Cond.arrayOver (.array t)).before #[] u = true := h
  simp only [Cond.before, Cond.holds, Cond.value, beq_iff_eq] at h
  cases hc : u.vm.findClass (FieldType.array t).toString with
  | none => simp [hc] at h
  | some comp =>
    simp only [hc, Option.bind_some, Option.bind_eq_some_iff, Option.map_eq_some_iff] at h
    obtain ⟨c, h2, k, h3, hb⟩ := h
    obtain ⟨k', hk', he⟩ := hvm.2.2 _ _ h3
    have hi := (va_idx_bare U.vm comp).symm.trans ((congrArg (fun b : Vm => (b.classes.findIdx? fun (x : Class) => match x.kind with | .array component _ => component == comp | _ => false)) hvm.bare_eq).trans ((va_idx_bare u.vm comp).trans h2))
    have hkind : k'.kind = k.kind := by rw [he]
    have f1 : U.vm.findClass (FieldType.array t).toString = some comp := by rw [hvm.findClass]; exact hc
    unfold Cond.before Cond.holds
    simp only [Cond.value]
    rw [f1, Option.bind_some]
    refine (congrArg (fun o : Option Nat => (o.bind (fun c => (U.vm.classes[c]?).map fun (k : Class) => match k.kind with | .array _ ty => decide (ty = FieldType.array t) && decide (U.vm.findClass ("[" ++ (FieldType.array t).toString) = some c) | _ => false) == some true)) hi).trans ?_
    cases hkk : k.kind with
    | array c0 ty =>
      rw [hkk] at hb hkind
      simp only [Bool.and_eq_true, decide_eq_true_eq] at hb
      simp [hk', hkind, hvm.findClass, hb.1, hb.2]
    | _ => rw [hkk] at hb; simp at hb
theorem mE_to {G : mG} {s U : State} {H H1 : Heap} (hA : s.vm.Alike U.vm) (hN : ∀ w ∈ mNW, va_Nw w s → va_Nw w U) (hR : ∀ own k tx a, vk_R own k tx a s → vk_R own k tx a U) (hq : ∀ a : Nat, a < H.size → ¬ mA G a → H1[a]? = H[a]?) (h : mE G s H) : mE G U H1 := by
  obtain ⟨h1, h2, ⟨h3, h4, h5⟩, h6, h7, h8, h9, h10, h11, h12⟩ := h
  exact ⟨h1.moved hA, fun w hw => hN w hw (h2 w hw), ⟨h3.moved hA, h4.moved hA, mAO_moved hA h5⟩, fun t ht => ⟨((h6 t ht).1.moved hA).kept hq, ((h6 t ht).2.1.moved hA).kept hq, ((h6 t ht).2.2.1.moved hA).kept hq, ((h6 t ht).2.2.2.moved hA).kept hq⟩, fun q hq hk => hR _ _ _ _ (h7 q hq hk), (h8.moved hA).kept hq, (h9.moved hA).kept hq, (h10.moved hA).kept hq, (h11.moved hA).kept hq, (h12.moved hA).kept hq⟩
theorem mE_call {G : mG} {s U : State} {H : Heap} {locs : List Loc} (h : mE G s s.heap) (hW : s.WarmedH U.vm) (hU : U.heap = H) (hS : va_S (mA G) s.heap H locs) : mE G U U.heap := by
  rw [hU]
  refine mE_to hW.alike (fun w hw hn => ?_) (fun _ _ _ _ => vk_R.warm hW) (fun a ha hna => hS.2.1 a ha hna) h
  have hk := (List.mem_filter.mp hw).2
  unfold mNest at hk
  split at hk
  · exact va_Nw.warmF hW hn
  · exact va_Nw.warmM hW hn
  · cases hk
theorem mE_calling {G : mG} {U : State} {g : JFrame} {mk : MethodId} {a : Array Value} (h : mE G U U.heap) : mE G (U.calling g mk a) (U.calling g mk a).heap := by
  refine mE_to (H := U.heap) (H1 := U.heap) (Vm.Alike.refl U.vm) (fun w hw hn => ?_) (fun _ _ _ _ h => vk_R.same (u := U) rfl h) (fun _ _ _ => rfl) h
  have hk := (List.mem_filter.mp hw).2
  unfold mNest at hk
  split at hk
  · exact va_Nw.same rfl (u := U) rfl hn
  · exact va_Nw.same rfl (u := U) rfl hn
  · cases hk
/-- the locals -/
def mLR (G : mG) (ls : Array Slot) (nL : Nat) (L : mLoc) : Prop := L.length = nL ∧ ls.size = nL ∧ lv_wf ls ∧ ∀ (i : Nat) (v : Value), L[i]? = some (some v) → ls[i]? = some (.val (mV G v))
def mPr (G : mG) (L : mLoc) : List (Nat × Value) := (List.range L.length).filterMap fun i => match L[i]? with
  | some (some v) => some (i, mV G v)
  | _ => none
theorem mPr_mem {G : mG} {L : mLoc} {i : Nat} {v : Value} (h : L[i]? = some (some v)) : (i, mV G v) ∈ mPr G L := by
  refine List.mem_filterMap.mpr ⟨i, List.mem_range.mpr (List.getElem?_eq_some_iff.mp h).1, ?_⟩
  rw [h]
theorem mLR.has {G : mG} {ls : Array Slot} {nL : Nat} {L : mLoc} (h : mLR G ls nL L) : lv_has ls nL (mPr G L) := by
  refine ⟨h.2.1, h.2.2.1, fun q hq => ?_⟩
  obtain ⟨i, -, hi⟩ := List.mem_filterMap.mp hq
  split at hi
  · rename_i v hv
    cases hi
    exact h.2.2.2 i v hv
  · cases hi
theorem mS1_spec {L L' : mLoc} {i : Nat} {v : Value} (h : mS1 L i v = some L') : i < L.length ∧ mOk L i = true ∧ L' = L.set i (some v) := by
  unfold mS1 at h
  cases hb : (Nat.blt i L.length && mOk L i) with
  | false => rw [hb] at h; cases h
  | true =>
    rw [hb] at h
    simp only [Bool.and_eq_true] at hb
    exact ⟨Nat.blt_eq.mp hb.1, hb.2, (Option.some.inj h).symm⟩
theorem mS2_spec {L L' : mLoc} {i : Nat} {v : Value} (h : mS2 L i v = some L') : i + 1 < L.length ∧ mOk L i = true ∧ L' = (L.set i (some v)).set (i + 1) none := by
  unfold mS2 at h
  cases hb : (Nat.blt (i + 1) L.length && mOk L i) with
  | false => rw [hb] at h; cases h
  | true =>
    rw [hb] at h
    simp only [Bool.and_eq_true] at hb
    exact ⟨Nat.blt_eq.mp hb.1, hb.2, (Option.some.inj h).symm⟩
theorem mOk_cat {L : mLoc} {i j : Nat} {w : Value} (h : mOk L i = true) (hj : L[j]? = some (some w)) (hji : j + 1 = i) : w.category = 1 := by
  subst hji
  unfold mOk at h
  simp only [hj] at h
  exact Nat.eq_of_beq_eq_true h
theorem mLR.put1 {G : mG} {ls ls' : Array Slot} {nL : Nat} {L L' : mLoc} {i : Nat} {v : Value} (h : mLR G ls nL L) (hs : mS1 L i v = some L') (hl : lv_has ls' nL ((i, mV G v) :: (mPr G L).filter (fun q => !(q.1 == i) && !(q.1 + 1 == i && q.2.category == 2)))) : mLR G ls' nL L' := by
  obtain ⟨h1, h2, rfl⟩ := mS1_spec hs
  refine ⟨by rw [List.length_set]; exact h.1, hl.1, hl.2.1, fun j w hj => ?_⟩
  by_cases hji : i = j
  · subst hji
    rw [List.getElem?_set_self h1] at hj
    cases hj
    exact hl.2.2 _ List.mem_cons_self
  · rw [List.getElem?_set_ne hji] at hj
    refine hl.2.2 (j, mV G w) (List.mem_cons_of_mem _ (List.mem_filter.mpr ⟨mPr_mem hj, ?_⟩))
    have e1 : (j == i) = false := by simpa using fun e => hji e.symm
    have e2 : (j + 1 == i && (mV G w).category == 2) = false := by
      by_cases hk : j + 1 = i
      · rw [mV_cat, mOk_cat h2 hj hk]; simp
      · simp [hk]
    show (!(j == i) && !(j + 1 == i && (mV G w).category == 2)) = true
    rw [e1, e2]; rfl
theorem mLR.put2 {G : mG} {ls ls' : Array Slot} {nL : Nat} {L L' : mLoc} {i : Nat} {v : Value} (h : mLR G ls nL L) (hs : mS2 L i v = some L') (hl : lv_has ls' nL ((i, mV G v) :: (mPr G L).filter (fun q => !(q.1 == i) && (!(q.1 == i + 1) && !(q.1 + 1 == i && q.2.category == 2))))) : mLR G ls' nL L' := by
  obtain ⟨h1, h2, rfl⟩ := mS2_spec hs
  refine ⟨by rw [List.length_set, List.length_set]; exact h.1, hl.1, hl.2.1, fun j w hj => ?_⟩
  by_cases hj1 : i + 1 = j
  · subst hj1
    rw [List.getElem?_set_self (by rw [List.length_set]; exact h1)] at hj
    cases hj
  · rw [List.getElem?_set_ne hj1] at hj
    by_cases hji : i = j
    · subst hji
      rw [List.getElem?_set_self (by omega)] at hj
      cases hj
      exact hl.2.2 _ List.mem_cons_self
    · rw [List.getElem?_set_ne hji] at hj
      refine hl.2.2 (j, mV G w) (List.mem_cons_of_mem _ (List.mem_filter.mpr ⟨mPr_mem hj, ?_⟩))
      have e1 : (j == i) = false := by simpa using fun e => hji e.symm
      have e3 : (j == i + 1) = false := by simpa using fun e => hj1 e.symm
      have e2 : (j + 1 == i && (mV G w).category == 2) = false := by
        by_cases hk : j + 1 = i
        · rw [mV_cat, mOk_cat h2 hj hk]; simp
        · simp [hk]
      show (!(j == i) && (!(j == i + 1) && !(j + 1 == i && (mV G w).category == 2))) = true
      rw [e1, e2, e3]; rfl
theorem mSl_set {D : mHp} {i : Nat} {c c' : va_E} (h : D[i]? = some c) (hz : mSz c' = mSz c) : mSl (D.set i c') = mSl D := by
  induction D generalizing i with
  | nil => simp at h
  | cons d D ih =>
    cases i with
    | zero =>
      simp only [List.getElem?_cons_zero, Option.some.injEq] at h
      subst h
      simp [mSl, hz]
    | succ i =>
      simp only [List.getElem?_cons_succ] at h
      have := ih h
      simp only [mSl, List.set_cons_succ, List.map_cons, List.sum_cons] at this ⊢
      omega
theorem mSl_app (D E : mHp) : mSl (D ++ E) = mSl D + mSl E := by simp [mSl]
