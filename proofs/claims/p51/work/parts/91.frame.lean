/-! ===== what a run can't reach stays as it is ===== -/
def nrb (T : Nat) (v : Value) : Bool := match v with
  | .ref i => !(Nat.beq i T)
  | _ => true
def nrS (T : Nat) (st : List Value) : Prop := ∀ v, v ∈ st → nrb T v = true
def nrL (T : Nat) (L : mLoc) : Prop := ∀ v, some v ∈ L → nrb T v = true
def nrD (T ca cb : Nat) (D : mHp) : Prop := T < D.length ∧ T < 1000000 ∧ (∀ (i c : Nat) (fs : List Value) (k : Nat) (v : Value), D[i]? = some (Sum.inr (c, fs) : va_E) → fs[k]? = some v → (c = ca ∧ k = cb) ∨ nrb T v = true) ∧ ∀ (i t n : Nat) (f : Nat → Option Nat) (k : Nat), D[i]? = some (Sum.inl (t, n, .inr (.inr (.inr (.inr f)))) : va_E) → nrb T (va_rf (f k)) = true
def nrSb (T : Nat) (st : List Value) : Bool := st.all (nrb T)
def nrLb (T : Nat) (L : mLoc) : Bool := L.all fun o => match o with
  | some v => nrb T v
  | none => true
def libk (k : Nat) : Bool := Nat.ble 20 k && Nat.ble k 25
def frC (ok : Nat → Bool) (ca cb : Nat) (i : Instr) (kd a b : Nat) : Bool := match i with
  | .getfield _ => !(Nat.beq a ca && Nat.beq b cb)
  | .invokestatic _ => libk kd || ok a
  | .invokespecial _ => libk kd || ok a
  | .invokevirtual _ => libk kd || ok a
  | .new _ => false
  | .newarray _ => false
  | .anewarray _ => false
  | .multianewarray _ _ => false
  | .aastore => false
  | _ => true
def frN (i : Instr) : Nat := match i with
  | .bipush _ => 2
  | .sipush _ => 3
  | .ldc _ => 2
  | .ldc_w _ => 3
  | .iload _ => 2
  | .lload _ => 2
  | .aload _ => 2
  | .istore _ => 2
  | .lstore _ => 2
  | .astore _ => 2
  | .iinc _ _ => 3
  | .getfield _ => 3
  | .putfield _ => 3
  | .getstatic _ => 3
  | .invokestatic _ => 3
  | .invokespecial _ => 3
  | .invokevirtual _ => 3
  | _ => 1
noncomputable def frT (g : Nat → Bool) (pc : Nat) (off : Int) : Bool := match mTo pc off with
  | some t => g t
  | none => true
noncomputable def frG (g : Nat → Bool) (pc : Nat) (i : Instr) : Bool := match i with
  | .goto off => frT g pc off
  | .ifCond _ off => frT g pc off && g (pc + 3)
  | .if_icmp _ off => frT g pc off && g (pc + 3)
  | .tableswitch d _ _ offs => frT g pc d && offs.toList.all fun o => frT g pc o
  | .ireturn => true
  | .lreturn => true
  | .areturn => true
  | .return_ => true
  | i => g (pc + frN i)
def frR (T ca cb : Nat) (ok g : Nat → Bool) (pc : Nat) (D : mHp) (res : mRes) : Prop := match res with
  | .inl q => g q.1 = true ∧ nrL T q.2.1 ∧ nrS T q.2.2.1 ∧ nrD T ca cb q.2.2.2 ∧ q.2.2.2[T]? = D[T]?
  | .inr (.inl v) => ∀ w, v = some w → nrb T w = true
  | .inr (.inr x) => ok x.1 = true ∧ g (pc + 3) = true ∧ nrS T x.2.1 ∧ nrS T x.2.2
def frP (T ca cb : Nat) (ok g : Nat → Bool) (pc : Nat) (D : mHp) (o : Option mRes) : Prop := ∀ res, o = some res → frR T ca cb ok g pc D res
section FR
variable {T ca cb : Nat} {ok g : Nat → Bool} {pc : Nat} {D : mHp} {L : mLoc} {st : List Value}
theorem nrb_ne {i : Nat} (h : nrb T (.ref i) = true) : i ≠ T := by
  intro e
  subst e
  have h2 : (!(Nat.beq i i)) = true := h
  rw [Nat.beq_refl] at h2
  exact Bool.false_ne_true h2
theorem nrb_of {i : Nat} (h : i ≠ T) : nrb T (.ref i) = true := by
  show (!(Nat.beq i T)) = true
  cases hb : Nat.beq i T with
  | false => rfl
  | true => exact absurd (Nat.eq_of_beq_eq_true hb) h
theorem nrb_big {i : Nat} (h : nrD T ca cb D) (hi : 1000000 ≤ i) : nrb T (.ref i) = true := nrb_of (by have := h.2.1; omega)
theorem nrS.t {v : Value} (h : nrS T (v :: st)) : nrS T st := fun w hw => h w (List.mem_cons_of_mem _ hw)
theorem nrS.h {v : Value} (h : nrS T (v :: st)) : nrb T v = true := h v List.mem_cons_self
theorem nrS.c {v : Value} (h1 : nrb T v = true) (h2 : nrS T st) : nrS T (v :: st) := fun w hw => by
  rcases List.mem_cons.mp hw with e | h
  · rw [e]; exact h1
  · exact h2 w h
theorem nrS.ci {x : Int32} (h2 : nrS T st) : nrS T (.int x :: st) := h2.c rfl
theorem nrS.cl {x : Int64} (h2 : nrS T st) : nrS T (.long x :: st) := h2.c rfl
theorem nrS.app {o : Option Value} (h1 : ∀ w, o = some w → nrb T w = true) (h2 : nrS T st) : nrS T (o.toList ++ st) := by
  cases o with
  | none => exact h2
  | some x => exact nrS.c (h1 x rfl) h2
theorem nrS.nil : nrS T [] := fun v h => absurd h (List.not_mem_nil)
theorem nrS.of (h : nrSb T st = true) : nrS T st := fun v hv => List.all_eq_true.mp h v hv
theorem nrL.of (h : nrLb T L = true) : nrL T L := fun v hv => List.all_eq_true.mp h (some v) hv
theorem nrL.at_ {i : Nat} {v : Value} (h : nrL T L) (hi : L[i]? = some (some v)) : nrb T v = true := h v (List.mem_of_getElem? hi)
theorem nrL.set {i : Nat} {o : Option Value} (h : nrL T L) (ho : ∀ v, o = some v → nrb T v = true) : nrL T (L.set i o) := by
  intro w hw
  rcases List.mem_or_eq_of_mem_set hw with h1 | h1
  · exact h w h1
  · exact ho w h1.symm
theorem nrL.s1 {i : Nat} {v : Value} {L1 : mLoc} (h : nrL T L) (hv : nrb T v = true) (hs : mS1 L i v = some L1) : nrL T L1 := by
  unfold mS1 at hs
  have e := Option.some.inj (mCond_eq hs).2
  rw [← e]
  exact h.set fun w e => by cases e; exact hv
theorem nrL.si {i : Nat} {x : Int32} {L1 : mLoc} (h : nrL T L) (hs : mS1 L i (.int x) = some L1) : nrL T L1 := h.s1 rfl hs
theorem nrL.sl {i : Nat} {x : Int64} {L1 : mLoc} (h : nrL T L) (hs : mS2 L i (.long x) = some L1) : nrL T L1 := by
  unfold mS2 at hs
  have e := Option.some.inj (mCond_eq hs).2
  rw [← e]
  exact (h.set fun w e => by cases e; rfl).set fun w e => by cases e
theorem nrD.set {i : Nat} {c : va_E} (h : nrD T ca cb D) (hi : i ≠ T) (hc1 : ∀ (c1 : Nat) (fs : List Value) (k : Nat) (v : Value), c = .inr (c1, fs) → fs[k]? = some v → (c1 = ca ∧ k = cb) ∨ nrb T v = true) (hc2 : ∀ (t n : Nat) (f : Nat → Option Nat) (k : Nat), c = .inl (t, n, .inr (.inr (.inr (.inr f)))) → nrb T (va_rf (f k)) = true) : nrD T ca cb (D.set i c) ∧ (D.set i c)[T]? = D[T]? := by
  refine ⟨⟨by rw [List.length_set]; exact h.1, h.2.1, fun j c1 fs k v hj hk => ?_, fun j t n f k hj => ?_⟩, List.getElem?_set_ne hi⟩
  · rw [List.getElem?_set] at hj
    by_cases e : i = j
    · rw [if_pos e] at hj
      by_cases l : i < D.length
      · rw [if_pos l] at hj
        exact hc1 _ _ _ _ (Option.some.inj hj) hk
      · rw [if_neg l] at hj
        cases hj
    · rw [if_neg e] at hj
      exact h.2.2.1 _ _ _ _ _ hj hk
  · rw [List.getElem?_set] at hj
    by_cases e : i = j
    · rw [if_pos e] at hj
      by_cases l : i < D.length
      · rw [if_pos l] at hj
        exact hc2 _ _ _ _ (Option.some.inj hj)
      · rw [if_neg l] at hj
        cases hj
    · rw [if_neg e] at hj
      exact h.2.2.2 _ _ _ _ _ hj
theorem fr_stI {t i : Nat} {j x : Int32} {D1 : mHp} (h : nrD T ca cb D) (hi : nrb T (.ref i) = true) (hs : mStI t D i j x = some D1) : nrD T ca cb D1 ∧ D1[T]? = D[T]? := by
  unfold mStI at hs
  split at hs
  · rw [← Option.some.inj (mCond_eq hs).2]
    exact h.set (nrb_ne hi) (fun _ _ _ _ e => by cases e) (fun _ _ _ _ e => by cases e)
  · cases hs
theorem fr_put {row : mRow} {kd i a b : Nat} {v : Value} {D1 : mHp} (h : nrD T ca cb D) (hi : nrb T (.ref i) = true) (hv : nrb T v = true) (hs : mPut row kd D i a b v = some D1) : nrD T ca cb D1 ∧ D1[T]? = D[T]? := by
  unfold mPut at hs
  split at hs
  · rename_i c fs hc
    rw [← Option.some.inj (mCond_eq hs).2]
    refine h.set (nrb_ne hi) (fun c1 fs1 k w e hk => ?_) (fun _ _ _ _ e => by cases e)
    cases e
    rw [List.getElem?_set] at hk
    by_cases g1 : b = k
    · rw [if_pos g1] at hk
      by_cases l : b < fs.length
      · rw [if_pos l] at hk
        rw [← Option.some.inj hk]
        exact Or.inr hv
      · rw [if_neg l] at hk
        cases hk
    · rw [if_neg g1] at hk
      exact h.2.2.1 _ _ _ _ _ hc hk
  · cases hs
theorem fr_get {i a b : Nat} {v : Value} (h : nrD T ca cb D) (hn : ¬ (a = ca ∧ b = cb)) (hs : mGet D i a b = some v) : nrb T v = true := by
  unfold mGet at hs
  split at hs
  · rename_i c fs hc
    obtain ⟨h1, h2⟩ := mCond_eq hs
    rcases h.2.2.1 _ _ _ _ _ hc h2 with ⟨g1, g2⟩ | g1
    · exact absurd ⟨(Nat.eq_of_beq_eq_true h1).symm.trans g1, g2⟩ hn
    · exact g1
  · cases hs
theorem fr_ldq {i : Nat} {j : Int32} {v : Value} (h : nrD T ca cb D) (hs : mLdq D i j = some v) : nrb T v = true := by
  unfold mLdq at hs
  split at hs
  · rename_i t n f hc
    rw [← Option.some.inj (mCond_eq hs).2]
    exact h.2.2.2 _ _ _ _ _ hc
  · cases hs
theorem fr_ld {X : mSc} {t i : Nat} {j : Int32} {v : Value} (hs : mLd X t D i j = some v) : nrb T v = true := by
  unfold mLd at hs
  split at hs
  · rw [← Option.some.inj (mCond_eq hs).2]
    rfl
  · cases hs
  · have h2 := (mCond_eq hs).2
    split at h2
    · rw [← Option.some.inj (mCond_eq h2).2]
      rfl
    · cases h2
theorem frC_get {k kd a b : Nat} (h : frC ok ca cb (.getfield k) kd a b = true) : ¬ (a = ca ∧ b = cb) := by
  rintro ⟨rfl, rfl⟩
  have h2 : (!(Nat.beq a a && Nat.beq b b)) = true := h
  rw [Nat.beq_refl, Nat.beq_refl] at h2
  exact Bool.false_ne_true h2
theorem fr_none : frP T ca cb ok g pc D none := fun _ h => by cases h
theorem fr_nx {pc1 : Nat} {L1 : mLoc} {st1 : List Value} {D1 : mHp} (hg : g pc1 = true) (hL : nrL T L1) (hS : nrS T st1) (hD : nrD T ca cb D1) (hT : D1[T]? = D[T]?) : frP T ca cb ok g pc D (mNx pc1 L1 st1 D1) := fun _ h => by
  cases h
  exact ⟨hg, hL, hS, hD, hT⟩
theorem fr_go {off : Int} (hg : frT g pc off = true) (hL : nrL T L) (hS : nrS T st) (hD : nrD T ca cb D) : frP T ca cb ok g pc D (mGo pc off L st D) := by
  unfold mGo
  unfold frT at hg
  cases hm : mTo pc off with
  | none => exact fr_none
  | some t =>
    rw [hm] at hg
    exact fr_nx hg hL hS hD rfl
theorem fr_br {b : Bool} {off : Int} (hg : (frT g pc off && g (pc + 3)) = true) (hL : nrL T L) (hS : nrS T st) (hD : nrD T ca cb D) : frP T ca cb ok g pc D (mBr b pc off L st D) := by
  rw [Bool.and_eq_true] at hg
  obtain ⟨h1, h2⟩ := hg
  unfold mBr
  unfold frT at h1
  cases hm : mTo pc off with
  | none => exact fr_none
  | some t =>
    rw [hm] at h1
    cases b with
    | true => exact fr_nx h1 hL hS hD rfl
    | false => exact fr_nx h2 hL hS hD rfl
theorem fr_cond {b : Bool} {o : Option mRes} (h : b = true → frP T ca cb ok g pc D o) : frP T ca cb ok g pc D (cond b o none) := by
  cases b with
  | true => exact h rfl
  | false => exact fr_none
theorem fr_bind {α : Type} {o : Option α} {f : α → Option mRes} (h : ∀ a, o = some a → frP T ca cb ok g pc D (f a)) : frP T ca cb ok g pc D (o.bind f) := by
  cases o with
  | none => exact fr_none
  | some a => exact h a rfl
theorem fr_ret {v : Option Value} (h : ∀ w, v = some w → nrb T w = true) : frP T ca cb ok g pc D (some (.inr (.inl v))) := fun _ e => by
  cases e
  exact h
theorem fr_call {e : mEnt} {v : Bool} (hc : (libk e.2.2.2.1 || ok e.2.2.2.2.1) = true) (hg : g (pc + 3) = true) (hL : nrL T L) (hS : nrS T st) (hD : nrD T ca cb D) : frP T ca cb ok g pc D (mCall e v pc L st D) := by
  intro res h
  cases res with
  | inr r =>
    cases r with
    | inl w => exact (mCall_no w h).elim
    | inr x =>
      obtain ⟨rfl, -, -, -, -, n0, n1, n2, n3, n4, n5⟩ := mCall_eq h
      refine ⟨?_, hg, fun w hw => hS w (List.mem_of_mem_take (List.mem_reverse.mp hw)), fun w hw => hS w (List.mem_of_mem_drop hw)⟩
      rcases Bool.or_eq_true_iff.mp hc with h1 | h1
      · exfalso
        unfold libk at h1
        rw [Bool.and_eq_true] at h1
        have g1 := Nat.le_of_ble_eq_true h1.1
        have g2 := Nat.le_of_ble_eq_true h1.2
        omega
      · exact h1
  | inl q =>
    unfold mCall at h
    split at h
    · split at h
      · exact fr_nx hg hL hS.t hD rfl _ (mCond_eq h).2
      · cases h
    · split at h
      · split at h
        · have g1 := fun c => (hD.set (c := c) (nrb_ne hS.t.t.h))
          exact fr_nx hg hL hS.t.t.t.t.t (g1 _ (fun _ _ _ _ e => by cases e) (fun _ _ _ _ e => by cases e)).1 (g1 _ (fun _ _ _ _ e => by cases e) (fun _ _ _ _ e => by cases e)).2 _ (mCond_eq h).2
        · cases h
      · cases h
    · split at h
      · split at h
        · exact fr_nx hg hL hS.t.ci hD rfl _ (mCond_eq h).2
        · cases h
      · cases h
    · split at h
      · split at h
        · exact fr_nx hg hL hS.t.t.ci hD rfl _ (mCond_eq h).2
        · cases h
      · cases h
    · split at h
      · exact fr_nx hg hL hS.t.t.ci hD rfl _ (mCond_eq h).2
      · cases h
    · split at h
      · exact fr_nx hg hL hS.t.t.ci hD rfl _ (mCond_eq h).2
      · cases h
    · cases (mCond_eq h).2
set_option maxHeartbeats 4000000 in
theorem fr_step {X : mSc} {row : mRow} {e : mEnt} (hC : ∀ i, e.1 = i → frC ok ca cb i e.2.2.2.1 e.2.2.2.2.1 e.2.2.2.2.2.1 = true) (hG : ∀ i, e.1 = i → frG g pc i = true) (hL : nrL T L) (hS : nrS T st) (hD : nrD T ca cb D) : frP T ca cb ok g pc D (mStep X row e pc L st D) := by
  unfold mStep
  split
  all_goals (try exact fr_none)
  all_goals (have hg := hG _ (by assumption); have hc := hC _ (by assumption))
  all_goals (try exact (Bool.false_ne_true hc).elim)
  all_goals (repeat' (first
    | exact fr_none
    | exact fr_call hc hg hL hS hD
    | exact fr_nx hg hL hS.ci hD rfl
    | exact fr_nx hg hL hS.cl hD rfl
    | exact fr_nx hg hL hS.t.ci hD rfl
    | exact fr_nx hg hL hS.t.t.ci hD rfl
    | exact fr_nx hg hL hS.t.cl hD rfl
    | exact fr_nx hg hL hS.t.t.cl hD rfl
    | exact fr_nx hg hL hS.t hD rfl
    | exact fr_nx hg hL (hS.c hS.h) hD rfl
    | exact fr_nx hg hL ((hS.c hS.t.h).c hS.h) hD rfl
    | exact fr_br hg hL hS.t hD
    | exact fr_br hg hL hS.t.t hD
    | exact fr_go hg hL hS hD
    | (refine fr_cond fun hcnd => ?_)
    | (refine fr_bind fun _ hb => ?_)
    | split))
  all_goals (first
    | exact fr_nx hg hL (hS.c (nrb_big hD (Nat.le_add_right _ _))) hD rfl
    | exact fr_nx hg hL (hS.c (nrb_big hD (by decide))) hD rfl
    | exact fr_nx hg hL (hS.c (hL.at_ (by assumption))) hD rfl
    | exact fr_nx hg (hL.si (by assumption)) hS.t hD rfl
    | exact fr_nx hg (hL.si (by assumption)) hS hD rfl
    | exact fr_nx hg (hL.sl (by assumption)) hS.t hD rfl
    | exact fr_nx hg (hL.s1 hS.h (by assumption)) hS.t hD rfl
    | exact fr_nx hg hL (hS.t.c (fr_get hD (frC_get hc) (by assumption))) hD rfl
    | exact fr_nx hg hL (hS.t.t.c (fr_ld (by assumption))) hD rfl
    | exact fr_nx hg hL (hS.t.t.c (fr_ldq hD (by assumption))) hD rfl
    | exact fr_nx hg hL hS.t.t (fr_put hD hS.t.h hS.h (by assumption)).1 (fr_put hD hS.t.h hS.h (by assumption)).2
    | exact fr_nx hg hL hS.t.t.t (fr_stI hD hS.t.t.h (by assumption)).1 (fr_stI hD hS.t.t.h (by assumption)).2
    | exact fr_ret fun w h => by cases h; rfl
    | exact fr_ret fun w h => by cases h; exact hS.h
    | exact fr_ret fun w h => by cases h
    | exact fr_go ((Bool.and_eq_true_iff.mp hg).1) hL hS.t hD
    | exact fr_go (List.all_eq_true.mp (Bool.and_eq_true_iff.mp hg).2 _ (List.mem_of_getElem? (Array.getElem?_toList.trans (by assumption)))) hL hS.t hD)
theorem fr_run {X : mSc} (hok : ∀ m, ok m = true → ∀ pc e, mFetch m pc = some e → frC ok ca cb e.1 e.2.2.2.1 e.2.2.2.2.1 e.2.2.2.2.2.1 = true ∧ frG (fun _ => true) pc e.1 = true) : ∀ (n mid : Nat) (g : Nat → Bool), (∀ pc e, g pc = true → mFetch mid pc = some e → frC ok ca cb e.1 e.2.2.2.1 e.2.2.2.2.1 e.2.2.2.2.2.1 = true ∧ frG g pc e.1 = true) → ∀ (pc : Nat) (L : mLoc) (st : List Value) (D : mHp), g pc = true → nrL T L → nrS T st → nrD T ca cb D → ∀ z, mRun X n mid pc L st D = some z → z.2[T]? = D[T]? ∧ nrD T ca cb z.2 ∧ ∀ w, z.1 = some w → nrb T w = true := by
  intro n
  induction n with
  | zero => intro mid g hg pc L st D hp hL hS hD z h; cases h
  | succ n ih =>
    intro mid g hg pc L st D hp hL hS hD z h
    unfold mRun at h
    cases hm : mMet mid with
    | none => rw [hm] at h; cases h
    | some row =>
      rw [hm] at h
      cases hf : mFetch mid pc with
      | none => rw [hf] at h; cases h
      | some e =>
        rw [hf] at h
        dsimp only at h
        obtain ⟨g1, g2⟩ := hg pc e hp hf
        have hst := fr_step (X := X) (row := row) (e := e) (pc := pc) (g := g) (ok := ok) (fun i hi => by rw [← hi]; exact g1) (fun i hi => by rw [← hi]; exact g2) hL hS hD
        cases hs : mStep X row e pc L st D with
        | none => rw [hs] at h; cases h
        | some res =>
          rw [hs] at h
          have hr := hst res hs
          cases res with
          | inl q =>
            obtain ⟨k1, k2, k3, k4, k5⟩ := hr
            obtain ⟨j1, j2, j3⟩ := ih mid g hg q.1 q.2.1 q.2.2.1 q.2.2.2 k1 k2 k3 k4 z h
            exact ⟨j1.trans k5, j2, j3⟩
          | inr res =>
            cases res with
            | inl v =>
              have e2 := Option.some.inj h
              rw [← e2]
              exact ⟨rfl, hD, hr⟩
            | inr x =>
              obtain ⟨k1, k2, k3, k4⟩ := hr
              dsimp only at h
              cases hx : mMet x.1 with
              | none => rw [hx] at h; cases h
              | some r =>
                rw [hx] at h
                dsimp only at h
                have h2 := (mCond_eq h).2
                cases hz : mRun X n x.1 0 (mEnv r.2.2.2.1 x.2.1) [] D with
                | none => rw [hz] at h2; cases h2
                | some z1 =>
                  rw [hz] at h2
                  dsimp only at h2
                  obtain ⟨j1, j2, j3⟩ := ih x.1 (fun _ => true) (fun pc e _ hf => hok x.1 k1 pc e hf) 0 _ _ _ rfl (fun w hw => by
                    unfold mEnv at hw
                    rcases List.mem_append.mp hw with h5 | h5
                    · obtain ⟨u, hu, e5⟩ := List.mem_map.mp h5
                      cases e5
                      exact k3 w hu
                    · cases (List.mem_replicate.mp h5).2) nrS.nil hD z1 hz
                  obtain ⟨i1, i2, i3⟩ := ih mid g hg (pc + 3) L _ z1.2 k2 hL (nrS.app j3 k4) j2 z h2
                  exact ⟨i1.trans j1, i2, i3⟩
end FR
/-! checks over the tables -/
def ckL (p : Nat → mEnt → Bool) : Nat → List (Option mEnt) → Bool
  | _, [] => true
  | n, o :: r => (match o with
    | some e => p n e
    | none => true) && ckL p (n + 1) r
def ckK (p : Nat → mEnt → Bool) : Nat → List (List (Option mEnt)) → Bool
  | _, [] => true
  | n, l :: r => ckL p (32 * n) l && ckK p (n + 1) r
theorem ckL_spec {p : Nat → mEnt → Bool} : ∀ (l : List (Option mEnt)) (n : Nat), ckL p n l = true → ∀ i e, l[i]? = some (some e) → p (n + i) e = true := by
  intro l
  induction l with
  | nil => intro n _ i e h; simp at h
  | cons o r ih =>
    intro n h i e hi
    unfold ckL at h
    rw [Bool.and_eq_true] at h
    cases i with
    | zero =>
      have e1 : o = some e := by simpa using hi
      rw [e1] at h
      exact h.1
    | succ i =>
      rw [show n + (i + 1) = n + 1 + i by omega]
      exact ih (n + 1) h.2 i e (by simpa using hi)
theorem ckK_spec {p : Nat → mEnt → Bool} : ∀ (k : List (List (Option mEnt))) (n : Nat), ckK p n k = true → ∀ a l, k[a]? = some l → ckL p (32 * (n + a)) l = true := by
  intro k
  induction k with
  | nil => intro n _ a l h; simp at h
  | cons o r ih =>
    intro n h a l hl
    unfold ckK at h
    rw [Bool.and_eq_true] at h
    cases a with
    | zero =>
      have e1 : o = l := by simpa using hl
      rw [← e1]
      exact h.1
    | succ a =>
      rw [show n + (a + 1) = n + 1 + a by omega]
      exact ih (n + 1) h.2 a l (by simpa using hl)
noncomputable def ckP (ok : Nat → Bool) (ca cb : Nat) (g : Nat → Bool) (pc : Nat) (e : mEnt) : Bool := !(g pc) || (frC ok ca cb e.1 e.2.2.2.1 e.2.2.2.2.1 e.2.2.2.2.2.1 && frG g pc e.1)
noncomputable def ckB (m : Nat) (ok : Nat → Bool) (ca cb : Nat) (g : Nat → Bool) : Bool := match mCode m with
  | some k => ckK (ckP ok ca cb g) 0 k
  | none => true
theorem ckB_spec {m ca cb : Nat} {ok g : Nat → Bool} (h : ckB m ok ca cb g = true) : ∀ pc e, g pc = true → mFetch m pc = some e → frC ok ca cb e.1 e.2.2.2.1 e.2.2.2.2.1 e.2.2.2.2.2.1 = true ∧ frG g pc e.1 = true := by
  intro pc e hg hf
  unfold mFetch at hf
  unfold ckB at h
  cases hc : mCode m with
  | none => rw [hc] at hf; cases hf
  | some k =>
    rw [hc] at hf h
    dsimp only [Option.bind_some] at hf h
    cases hl : k[pc / 32]? with
    | none => rw [hl] at hf; cases hf
    | some l =>
      rw [hl] at hf
      dsimp only [Option.bind_some] at hf
      cases ho : l[pc % 32]? with
      | none => rw [ho] at hf; cases hf
      | some o =>
        rw [ho] at hf
        have e1 : o = some e := hf
        rw [e1] at ho
        have h1 := ckL_spec l _ (ckK_spec k 0 h _ _ hl) _ _ ho
        rw [show 32 * (0 + pc / 32) + pc % 32 = pc by omega] at h1
        unfold ckP at h1
        rw [hg] at h1
        exact Bool.and_eq_true_iff.mp (by simpa using h1)
noncomputable def okf (l : List Nat) (m : Nat) : Bool := l.any (Nat.beq m)
noncomputable def ckA (l : List Nat) (ca cb : Nat) : Bool := l.all fun m => ckB m (okf l) ca cb (fun _ => true)
theorem ckA_spec {l : List Nat} {ca cb : Nat} (h : ckA l ca cb = true) : ∀ m, okf l m = true → ∀ pc e, mFetch m pc = some e → frC (okf l) ca cb e.1 e.2.2.2.1 e.2.2.2.2.1 e.2.2.2.2.2.1 = true ∧ frG (fun _ => true) pc e.1 = true := by
  intro m hm pc e hf
  obtain ⟨k, hk, e1⟩ := List.any_eq_true.mp hm
  have e2 : m = k := Nat.eq_of_beq_eq_true e1
  rw [← e2] at hk
  exact ckB_spec (List.all_eq_true.mp h m hk) pc e rfl hf
def ckF (p : Nat → Nat → Bool) : Nat → List Nat → Bool
  | _, [] => true
  | n, x :: r => p n x && ckF p (n + 1) r
theorem ckF_spec {p : Nat → Nat → Bool} : ∀ (l : List Nat) (n : Nat), ckF p n l = true → ∀ k y, l[k]? = some y → p (n + k) y = true := by
  intro l
  induction l with
  | nil => intro n _ i e h; simp at h
  | cons o r ih =>
    intro n h i y hi
    unfold ckF at h
    rw [Bool.and_eq_true] at h
    cases i with
    | zero =>
      have e1 : o = y := by simpa using hi
      rw [e1] at h
      exact h.1
    | succ i =>
      rw [show n + (i + 1) = n + 1 + i by omega]
      exact ih (n + 1) h.2 i y (by simpa using hi)
def ckT (T ca cb : Nat) (q : Nat × Nat × List Nat) : Bool := match q.1 with
  | 0 => true
  | 1 => true
  | 5 => ckF (fun k x => !(Nat.beq x (T + 1)) || (Nat.beq q.2.1 ca && Nat.beq k cb)) 0 q.2.2
  | _ => q.2.2.all fun x => !(Nat.beq x T)
theorem con_nrD {M : mM} {T ca cb : Nat} (h : (mSp.all (ckT T ca cb) && Nat.blt T 80) = true) : nrD T ca cb (con M) := by
  rw [Bool.and_eq_true] at h
  have hT : T < 80 := Nat.le_of_ble_eq_true h.2
  have hlen : (con M).length = 80 := by
    unfold con
    rw [List.length_map, List.length_zipIdx]
    rfl
  have hno : ∀ i, mSp[i]? = none → (con M)[i]? = none := fun i hs => by
    have hl : mSp.length = 80 := rfl
    have := List.getElem?_eq_none_iff.mp hs
    exact con_none (by omega)
  refine ⟨by omega, by omega, fun i c fs k v hi hk => ?_, fun i t n f k hi => ?_⟩
  · cases hs : mSp[i]? with
    | none => rw [hno i hs] at hi; cases hi
    | some q =>
      have hq := List.all_eq_true.mp h.1 q (List.mem_of_getElem? hs)
      rw [con_get hs] at hi
      obtain ⟨t0, n0, fs0⟩ := q
      have hi2 := Option.some.inj hi
      unfold mCellv at hi2
      unfold ckT at hq
      dsimp only at hi2 hq
      split at hi2
      · cases hi2
      · cases hi2
      · injection hi2 with e1
        injection e1 with e2 e3
        rw [← e3, con_fld] at hk
        cases hy : fs0[k]? with
        | none => rw [hy] at hk; cases hk
        | some y =>
          rw [hy] at hk
          have h1 := ckF_spec fs0 0 hq k y hy
          rw [Nat.zero_add] at h1
          cases y with
          | zero =>
            have e4 := Option.some.inj hk
            rw [← e4]
            exact Or.inr rfl
          | succ r =>
            have e4 := Option.some.inj hk
            rw [← e4]
            by_cases hr : r = T
            · subst hr
              rw [Nat.beq_refl] at h1
              have h2 := Bool.and_eq_true_iff.mp (by simpa using h1 : (Nat.beq n0 ca && Nat.beq k cb) = true)
              exact Or.inl ⟨e2.symm.trans (Nat.eq_of_beq_eq_true h2.1), Nat.eq_of_beq_eq_true h2.2⟩
            · exact Or.inr (nrb_of hr)
      · cases hi2
  · cases hs : mSp[i]? with
    | none => rw [hno i hs] at hi; cases hi
    | some q =>
      have hq := List.all_eq_true.mp h.1 q (List.mem_of_getElem? hs)
      rw [con_get hs] at hi
      obtain ⟨t0, n0, fs0⟩ := q
      have hi2 := Option.some.inj hi
      unfold mCellv at hi2
      unfold ckT at hq
      dsimp only at hi2 hq
      split at hi2
      · cases hi2
      · cases hi2
      · cases hi2
      · rename_i n0h n1h n5h
        injection hi2 with e1
        injection e1 with e2 e3
        injection e3 with e4 e5
        injection e5 with e5
        injection e5 with e5
        injection e5 with e5
        injection e5 with e5
        have hq2 : (fs0.all fun x => !(Nat.beq x T)) = true := by
          revert hq
          split
          · intro _; exact absurd rfl n0h
          · intro _; exact absurd rfl n1h
          · intro _; exact absurd rfl n5h
          · exact id
        rw [← e5]
        show nrb T (va_rf (fs0[k]?)) = true
        cases hk : fs0[k]? with
        | none => rfl
        | some x =>
          have h1 := List.all_eq_true.mp hq2 x (List.mem_of_getElem? hk)
          show nrb T (.ref x) = true
          exact h1
/-! what all runs from here end in -/
def mAl (X : mSc) (Q : Option Value → mHp → Prop) (mid pc : Nat) (L : mLoc) (st : List Value) (D : mHp) : Prop := ∀ n z, mRun X n mid pc L st D = some z → Q z.1 z.2
section AL
variable {X : mSc} {Q : Option Value → mHp → Prop} {mid pc : Nat} {L : mLoc} {st : List Value} {D : mHp} {row : mRow} {e : mEnt} {ex : Nat × Nat × Nat × Nat × Nat × Int}
theorem al_inl (hm : mMet mid = some row) (hf : mFetch mid pc = some e) {q : Nat × mLoc × List Value × mHp} (hs : mStep X row e pc L st D = some (.inl q)) (k : mAl X Q mid q.1 q.2.1 q.2.2.1 q.2.2.2) : mAl X Q mid pc L st D := by
  intro n z h
  cases n with
  | zero => cases h
  | succ n =>
    unfold mRun at h
    rw [hm, hf] at h
    dsimp only at h
    rw [hs] at h
    exact k n z h
theorem al_ret (hm : mMet mid = some row) (hf : mFetch mid pc = some e) {v : Option Value} (hs : mStep X row e pc L st D = some (.inr (.inl v))) (hq : Q v D) : mAl X Q mid pc L st D := by
  intro n z h
  cases n with
  | zero => cases h
  | succ n =>
    unfold mRun at h
    rw [hm, hf] at h
    dsimp only at h
    rw [hs] at h
    have e2 := Option.some.inj h
    rw [← e2]
    exact hq
theorem al_call (hm : mMet mid = some row) (hf : mFetch mid pc = some e) {x : Nat × List Value × List Value} (hs : mStep X row e pc L st D = some (.inr (.inr x))) {r : Option Value} {D1 : mHp} (hc : mT X x.1 x.2.1 D r D1) (k : mAl X Q mid (pc + 3) L (r.toList ++ x.2.2) D1) : mAl X Q mid pc L st D := by
  intro n z h
  cases n with
  | zero => cases h
  | succ n =>
    unfold mRun at h
    rw [hm, hf] at h
    dsimp only at h
    rw [hs] at h
    dsimp only at h
    cases hx : mMet x.1 with
    | none => rw [hx] at h; cases h
    | some r2 =>
      rw [hx] at h
      dsimp only at h
      obtain ⟨hb, h2⟩ := mCond_eq h
      cases hz : mRun X n x.1 0 (mEnv r2.2.2.2.1 x.2.1) [] D with
      | none => rw [hz] at h2; cases h2
      | some z1 =>
        rw [hz] at h2
        dsimp only at h2
        obtain ⟨e1, e2⟩ := hc.det (r2 := z1.1) (D2 := z1.2) ⟨r2, n, hx, Nat.le_of_ble_eq_true hb, hz⟩
        rw [← e1, ← e2] at h2
        exact k n z h2
theorem al_of {as : List Value} (hm : mMet mid = some row) (h : mAl X Q mid 0 (mEnv row.2.2.2.1 as) [] D) : ∀ r D1, mT X mid as D r D1 → Q r D1 := by
  rintro r D1 ⟨row2, n, h1, h2, h3⟩
  have e1 := Option.some.inj (hm.symm.trans h1)
  rw [← e1] at h3
  exact h n (r, D1) h3
theorem y_iconst {n : Int} {v : Int32} (hm : mMet mid = some row) (hf : mFetch mid pc = some (.iconst n, ex)) (hv : Int32.ofInt n = v) (k : mAl X Q mid (pc + 1) (L) (.int v :: st) (D)) : mAl X Q mid pc L (st) D := al_inl hm hf (q := (pc + 1, L, .int v :: st, D)) (by rw [← hv]; rfl) k
theorem y_bipush {n : Int} {v : Int32} (hm : mMet mid = some row) (hf : mFetch mid pc = some (.bipush n, ex)) (hv : (Int8.ofInt n).toInt32 = v) (k : mAl X Q mid (pc + 2) (L) (.int v :: st) (D)) : mAl X Q mid pc L (st) D := al_inl hm hf (q := (pc + 2, L, .int v :: st, D)) (by rw [← hv]; rfl) k
theorem y_sipush {n : Int} {v : Int32} (hm : mMet mid = some row) (hf : mFetch mid pc = some (.sipush n, ex)) (hv : (Int16.ofInt n).toInt32 = v) (k : mAl X Q mid (pc + 3) (L) (.int v :: st) (D)) : mAl X Q mid pc L (st) D := al_inl hm hf (q := (pc + 3, L, .int v :: st, D)) (by rw [← hv]; rfl) k
theorem y_lconst {n : Fin 2} {v : Int64} (hm : mMet mid = some row) (hf : mFetch mid pc = some (.lconst n, ex)) (hv : Int64.ofNat n.val = v) (k : mAl X Q mid (pc + 1) (L) (.long v :: st) (D)) : mAl X Q mid pc L (st) D := al_inl hm hf (q := (pc + 1, L, .long v :: st, D)) (by rw [← hv]; rfl) k
theorem y_ldcI {i j a b : Nat} {z : Int} {v : Int32} (hm : mMet mid = some row) (hf : mFetch mid pc = some (.ldc i, 2, j, 2, a, b, z)) (hv : Int32.ofInt z = v) (k : mAl X Q mid (pc + 2) L (.int v :: st) D) : mAl X Q mid pc L st D := al_inl hm hf (q := (pc + 2, L, .int v :: st, D)) (by rw [← hv]; rfl) k
theorem y_ldcS {i j a b : Nat} {z : Int} (hm : mMet mid = some row) (hf : mFetch mid pc = some (.ldc i, 2, j, 3, a, b, z)) (k : mAl X Q mid (pc + 2) L (.ref (1000000 + b) :: st) D) : mAl X Q mid pc L st D := al_inl hm hf (q := (pc + 2, L, .ref (1000000 + b) :: st, D)) (by rfl) k
theorem y_ldc_wI {i j a b : Nat} {z : Int} {v : Int32} (hm : mMet mid = some row) (hf : mFetch mid pc = some (.ldc_w i, 3, j, 2, a, b, z)) (hv : Int32.ofInt z = v) (k : mAl X Q mid (pc + 3) L (.int v :: st) D) : mAl X Q mid pc L st D := al_inl hm hf (q := (pc + 3, L, .int v :: st, D)) (by rw [← hv]; rfl) k
theorem y_ldc_wS {i j a b : Nat} {z : Int} (hm : mMet mid = some row) (hf : mFetch mid pc = some (.ldc_w i, 3, j, 3, a, b, z)) (k : mAl X Q mid (pc + 3) L (.ref (1000000 + b) :: st) D) : mAl X Q mid pc L st D := al_inl hm hf (q := (pc + 3, L, .ref (1000000 + b) :: st, D)) (by rfl) k
theorem y_iload_n {i : Fin 4} {x : Int32} (hm : mMet mid = some row) (hf : mFetch mid pc = some (.iload_n i, ex)) (hL : L[i.val]? = some (some (.int x))) (k : mAl X Q mid (pc + 1) (L) (.int x :: st) (D)) : mAl X Q mid pc L (st) D := al_inl hm hf (q := (pc + 1, L, .int x :: st, D)) (by unfold mStep; dsimp only; rw [hL]; rfl) k
theorem y_iload {i : Nat} {x : Int32} (hm : mMet mid = some row) (hf : mFetch mid pc = some (.iload i, ex)) (hL : L[i]? = some (some (.int x))) (k : mAl X Q mid (pc + 2) (L) (.int x :: st) (D)) : mAl X Q mid pc L (st) D := al_inl hm hf (q := (pc + 2, L, .int x :: st, D)) (by unfold mStep; dsimp only; rw [hL]; rfl) k
theorem y_istore_n {i : Fin 4} {x : Int32} {L' : mLoc} (hm : mMet mid = some row) (hf : mFetch mid pc = some (.istore_n i, ex)) (hL : mS1 L i.val (.int x) = some L') (k : mAl X Q mid (pc + 1) (L') (st) (D)) : mAl X Q mid pc L (.int x :: st) D := al_inl hm hf (q := (pc + 1, L', st, D)) (by unfold mStep; dsimp only; rw [hL]; rfl) k
theorem y_istore {i : Nat} {x : Int32} {L' : mLoc} (hm : mMet mid = some row) (hf : mFetch mid pc = some (.istore i, ex)) (hL : mS1 L i (.int x) = some L') (k : mAl X Q mid (pc + 2) (L') (st) (D)) : mAl X Q mid pc L (.int x :: st) D := al_inl hm hf (q := (pc + 2, L', st, D)) (by unfold mStep; dsimp only; rw [hL]; rfl) k
theorem y_lload_n {i : Fin 4} {x : Int64} (hm : mMet mid = some row) (hf : mFetch mid pc = some (.lload_n i, ex)) (hL : L[i.val]? = some (some (.long x))) (k : mAl X Q mid (pc + 1) (L) (.long x :: st) (D)) : mAl X Q mid pc L (st) D := al_inl hm hf (q := (pc + 1, L, .long x :: st, D)) (by unfold mStep; dsimp only; rw [hL]; rfl) k
theorem y_lload {i : Nat} {x : Int64} (hm : mMet mid = some row) (hf : mFetch mid pc = some (.lload i, ex)) (hL : L[i]? = some (some (.long x))) (k : mAl X Q mid (pc + 2) (L) (.long x :: st) (D)) : mAl X Q mid pc L (st) D := al_inl hm hf (q := (pc + 2, L, .long x :: st, D)) (by unfold mStep; dsimp only; rw [hL]; rfl) k
theorem y_lstore_n {i : Fin 4} {x : Int64} {L' : mLoc} (hm : mMet mid = some row) (hf : mFetch mid pc = some (.lstore_n i, ex)) (hL : mS2 L i.val (.long x) = some L') (k : mAl X Q mid (pc + 1) (L') (st) (D)) : mAl X Q mid pc L (.long x :: st) D := al_inl hm hf (q := (pc + 1, L', st, D)) (by unfold mStep; dsimp only; rw [hL]; rfl) k
theorem y_lstore {i : Nat} {x : Int64} {L' : mLoc} (hm : mMet mid = some row) (hf : mFetch mid pc = some (.lstore i, ex)) (hL : mS2 L i (.long x) = some L') (k : mAl X Q mid (pc + 2) (L') (st) (D)) : mAl X Q mid pc L (.long x :: st) D := al_inl hm hf (q := (pc + 2, L', st, D)) (by unfold mStep; dsimp only; rw [hL]; rfl) k
theorem y_aload_n {i : Fin 4} {x : Nat} (hm : mMet mid = some row) (hf : mFetch mid pc = some (.aload_n i, ex)) (hL : L[i.val]? = some (some (.ref x))) (k : mAl X Q mid (pc + 1) (L) (.ref x :: st) (D)) : mAl X Q mid pc L (st) D := al_inl hm hf (q := (pc + 1, L, .ref x :: st, D)) (by unfold mStep; dsimp only; rw [hL]; rfl) k
theorem y_aload {i : Nat} {x : Nat} (hm : mMet mid = some row) (hf : mFetch mid pc = some (.aload i, ex)) (hL : L[i]? = some (some (.ref x))) (k : mAl X Q mid (pc + 2) (L) (.ref x :: st) (D)) : mAl X Q mid pc L (st) D := al_inl hm hf (q := (pc + 2, L, .ref x :: st, D)) (by unfold mStep; dsimp only; rw [hL]; rfl) k
theorem y_astore_n {i : Fin 4} {x : Nat} {L' : mLoc} (hm : mMet mid = some row) (hf : mFetch mid pc = some (.astore_n i, ex)) (hL : mS1 L i.val (.ref x) = some L') (k : mAl X Q mid (pc + 1) (L') (st) (D)) : mAl X Q mid pc L (.ref x :: st) D := al_inl hm hf (q := (pc + 1, L', st, D)) (by unfold mStep; dsimp only; rw [hL]; rfl) k
theorem y_astore {i : Nat} {x : Nat} {L' : mLoc} (hm : mMet mid = some row) (hf : mFetch mid pc = some (.astore i, ex)) (hL : mS1 L i (.ref x) = some L') (k : mAl X Q mid (pc + 2) (L') (st) (D)) : mAl X Q mid pc L (.ref x :: st) D := al_inl hm hf (q := (pc + 2, L', st, D)) (by unfold mStep; dsimp only; rw [hL]; rfl) k
theorem y_iinc {i : Nat} {n : Int} {x v : Int32} {L' : mLoc} (hm : mMet mid = some row) (hf : mFetch mid pc = some (.iinc i n, ex)) (hL : L[i]? = some (some (.int x))) (hv : Int32.ofInt n = v) (hS : mS1 L i (.int (x + v)) = some L') (k : mAl X Q mid (pc + 3) (L') (st) (D)) : mAl X Q mid pc L (st) D := al_inl hm hf (q := (pc + 3, L', st, D)) (by unfold mStep; dsimp only; rw [hL, hv]; dsimp only; rw [hS]; rfl) k
theorem y_iadd {x y : Int32} (hm : mMet mid = some row) (hf : mFetch mid pc = some (.iadd, ex)) (k : mAl X Q mid (pc + 1) (L) (.int (x + y) :: st) (D)) : mAl X Q mid pc L (.int y :: .int x :: st) D := al_inl hm hf (q := (pc + 1, L, .int (x + y) :: st, D)) (by rfl) k
theorem y_isub {x y : Int32} (hm : mMet mid = some row) (hf : mFetch mid pc = some (.isub, ex)) (k : mAl X Q mid (pc + 1) (L) (.int (x - y) :: st) (D)) : mAl X Q mid pc L (.int y :: .int x :: st) D := al_inl hm hf (q := (pc + 1, L, .int (x - y) :: st, D)) (by rfl) k
theorem y_imul {x y : Int32} (hm : mMet mid = some row) (hf : mFetch mid pc = some (.imul, ex)) (k : mAl X Q mid (pc + 1) (L) (.int (x * y) :: st) (D)) : mAl X Q mid pc L (.int y :: .int x :: st) D := al_inl hm hf (q := (pc + 1, L, .int (x * y) :: st, D)) (by rfl) k
theorem y_iand {x y : Int32} (hm : mMet mid = some row) (hf : mFetch mid pc = some (.iand, ex)) (k : mAl X Q mid (pc + 1) (L) (.int (x &&& y) :: st) (D)) : mAl X Q mid pc L (.int y :: .int x :: st) D := al_inl hm hf (q := (pc + 1, L, .int (x &&& y) :: st, D)) (by rfl) k
theorem y_ior {x y : Int32} (hm : mMet mid = some row) (hf : mFetch mid pc = some (.ior, ex)) (k : mAl X Q mid (pc + 1) (L) (.int (x ||| y) :: st) (D)) : mAl X Q mid pc L (.int y :: .int x :: st) D := al_inl hm hf (q := (pc + 1, L, .int (x ||| y) :: st, D)) (by rfl) k
theorem y_ixor {x y : Int32} (hm : mMet mid = some row) (hf : mFetch mid pc = some (.ixor, ex)) (k : mAl X Q mid (pc + 1) (L) (.int (x ^^^ y) :: st) (D)) : mAl X Q mid pc L (.int y :: .int x :: st) D := al_inl hm hf (q := (pc + 1, L, .int (x ^^^ y) :: st, D)) (by rfl) k
theorem y_ishl {x y : Int32} (hm : mMet mid = some row) (hf : mFetch mid pc = some (.ishl, ex)) (k : mAl X Q mid (pc + 1) (L) (.int (x <<< (y &&& 31)) :: st) (D)) : mAl X Q mid pc L (.int y :: .int x :: st) D := al_inl hm hf (q := (pc + 1, L, .int (x <<< (y &&& 31)) :: st, D)) (by rfl) k
theorem y_ishr {x y : Int32} (hm : mMet mid = some row) (hf : mFetch mid pc = some (.ishr, ex)) (k : mAl X Q mid (pc + 1) (L) (.int (x >>> (y &&& 31)) :: st) (D)) : mAl X Q mid pc L (.int y :: .int x :: st) D := al_inl hm hf (q := (pc + 1, L, .int (x >>> (y &&& 31)) :: st, D)) (by rfl) k
theorem y_iushr {x y : Int32} (hm : mMet mid = some row) (hf : mFetch mid pc = some (.iushr, ex)) (k : mAl X Q mid (pc + 1) (L) (.int ((x.toUInt32 >>> (y.toUInt32 &&& Int32.toUInt32 31)).toInt32) :: st) (D)) : mAl X Q mid pc L (.int y :: .int x :: st) D := al_inl hm hf (q := (pc + 1, L, .int ((x.toUInt32 >>> (y.toUInt32 &&& Int32.toUInt32 31)).toInt32) :: st, D)) (by rfl) k
theorem y_idiv {x y : Int32} (hm : mMet mid = some row) (hf : mFetch mid pc = some (.idiv, ex)) (hy : ¬ y = 0) (k : mAl X Q mid (pc + 1) (L) (.int (x / y) :: st) (D)) : mAl X Q mid pc L (.int y :: .int x :: st) D := al_inl hm hf (q := (pc + 1, L, .int (x / y) :: st, D)) (by unfold mStep; dsimp only; rw [if_neg hy]; rfl) k
theorem y_irem {x y : Int32} (hm : mMet mid = some row) (hf : mFetch mid pc = some (.irem, ex)) (hy : ¬ y = 0) (k : mAl X Q mid (pc + 1) (L) (.int (x - x / y * y) :: st) (D)) : mAl X Q mid pc L (.int y :: .int x :: st) D := al_inl hm hf (q := (pc + 1, L, .int (x - x / y * y) :: st, D)) (by unfold mStep; dsimp only; rw [if_neg hy]; rfl) k
theorem y_i2l {x : Int32} (hm : mMet mid = some row) (hf : mFetch mid pc = some (.i2l, ex)) (k : mAl X Q mid (pc + 1) (L) (.long x.toInt64 :: st) (D)) : mAl X Q mid pc L (.int x :: st) D := al_inl hm hf (q := (pc + 1, L, .long x.toInt64 :: st, D)) (by rfl) k
theorem y_i2b {x : Int32} (hm : mMet mid = some row) (hf : mFetch mid pc = some (.i2b, ex)) (k : mAl X Q mid (pc + 1) (L) (.int x.toInt8.toInt32 :: st) (D)) : mAl X Q mid pc L (.int x :: st) D := al_inl hm hf (q := (pc + 1, L, .int x.toInt8.toInt32 :: st, D)) (by rfl) k
theorem y_i2s {x : Int32} (hm : mMet mid = some row) (hf : mFetch mid pc = some (.i2s, ex)) (k : mAl X Q mid (pc + 1) (L) (.int x.toInt16.toInt32 :: st) (D)) : mAl X Q mid pc L (.int x :: st) D := al_inl hm hf (q := (pc + 1, L, .int x.toInt16.toInt32 :: st, D)) (by rfl) k
theorem y_ladd {x y : Int64} (hm : mMet mid = some row) (hf : mFetch mid pc = some (.ladd, ex)) (k : mAl X Q mid (pc + 1) (L) (.long (x + y) :: st) (D)) : mAl X Q mid pc L (.long y :: .long x :: st) D := al_inl hm hf (q := (pc + 1, L, .long (x + y) :: st, D)) (by rfl) k
theorem y_lmul {x y : Int64} (hm : mMet mid = some row) (hf : mFetch mid pc = some (.lmul, ex)) (k : mAl X Q mid (pc + 1) (L) (.long (x * y) :: st) (D)) : mAl X Q mid pc L (.long y :: .long x :: st) D := al_inl hm hf (q := (pc + 1, L, .long (x * y) :: st, D)) (by rfl) k
theorem y_lcmp {x y : Int64} (hm : mMet mid = some row) (hf : mFetch mid pc = some (.lcmp, ex)) (k : mAl X Q mid (pc + 1) (L) (.int (lg_cmp x y) :: st) (D)) : mAl X Q mid pc L (.long y :: .long x :: st) D := al_inl hm hf (q := (pc + 1, L, .int (lg_cmp x y) :: st, D)) (by rfl) k
theorem y_dup {v : Value} (hm : mMet mid = some row) (hf : mFetch mid pc = some (.dup, ex)) (hc : v.category = 1) (k : mAl X Q mid (pc + 1) (L) (v :: v :: st) (D)) : mAl X Q mid pc L (v :: st) D := al_inl hm hf (q := (pc + 1, L, v :: v :: st, D)) (by unfold mStep; dsimp only; rw [hc]; rfl) k
theorem y_pop {v : Value} (hm : mMet mid = some row) (hf : mFetch mid pc = some (.pop, ex)) (hc : v.category = 1) (k : mAl X Q mid (pc + 1) (L) (st) (D)) : mAl X Q mid pc L (v :: st) D := al_inl hm hf (q := (pc + 1, L, st, D)) (by unfold mStep; dsimp only; rw [hc]; rfl) k
theorem y_dup2 {v w : Value} (hm : mMet mid = some row) (hf : mFetch mid pc = some (.dup2, ex)) (hc : v.category = 1) (hw : w.category = 1) (k : mAl X Q mid (pc + 1) (L) (v :: w :: v :: w :: st) (D)) : mAl X Q mid pc L (v :: w :: st) D := al_inl hm hf (q := (pc + 1, L, v :: w :: v :: w :: st, D)) (by unfold mStep; dsimp only; rw [hc, hw]; rfl) k
theorem y_pop2 {x : Int64} (hm : mMet mid = some row) (hf : mFetch mid pc = some (.pop2, ex)) (k : mAl X Q mid (pc + 1) (L) (st) (D)) : mAl X Q mid pc L (.long x :: st) D := al_inl hm hf (q := (pc + 1, L, st, D)) (by rfl) k
theorem y_if_eq {x : Int32} {off : Int} {t : Nat} (hm : mMet mid = some row) (hf : mFetch mid pc = some (.ifCond .eq off, ex)) (ht : mTo pc off = some t) (kt : x = 0 → mAl X Q mid t L st D) (kf : ¬ (x = 0) → mAl X Q mid (pc + 3) L st D) : mAl X Q mid pc L (.int x :: st) D := by
  by_cases hc : x = 0
  · exact al_inl hm hf (q := (t, L, st, D)) (by unfold mStep mBr; dsimp only; rw [show mTo pc off = some t from ht]; simp [hc]) (kt hc)
  · exact al_inl hm hf (q := (pc + 3, L, st, D)) (by unfold mStep mBr; dsimp only; rw [show mTo pc off = some t from ht]; simp [hc]) (kf hc)
theorem y_icmp_eq {x y : Int32} {off : Int} {t : Nat} (hm : mMet mid = some row) (hf : mFetch mid pc = some (.if_icmp .eq off, ex)) (ht : mTo pc off = some t) (kt : x = y → mAl X Q mid t L st D) (kf : ¬ (x = y) → mAl X Q mid (pc + 3) L st D) : mAl X Q mid pc L (.int y :: .int x :: st) D := by
  by_cases hc : x = y
  · exact al_inl hm hf (q := (t, L, st, D)) (by unfold mStep mBr; dsimp only; rw [show mTo pc off = some t from ht]; simp [hc]) (kt hc)
  · exact al_inl hm hf (q := (pc + 3, L, st, D)) (by unfold mStep mBr; dsimp only; rw [show mTo pc off = some t from ht]; simp [hc]) (kf hc)
theorem y_if_ne {x : Int32} {off : Int} {t : Nat} (hm : mMet mid = some row) (hf : mFetch mid pc = some (.ifCond .ne off, ex)) (ht : mTo pc off = some t) (kt : ¬ x = 0 → mAl X Q mid t L st D) (kf : x = 0 → mAl X Q mid (pc + 3) L st D) : mAl X Q mid pc L (.int x :: st) D := by
  by_cases hc : x = 0
  · exact al_inl hm hf (q := (pc + 3, L, st, D)) (by unfold mStep mBr; dsimp only; rw [show mTo pc off = some t from ht]; simp [hc]) (kf hc)
  · exact al_inl hm hf (q := (t, L, st, D)) (by unfold mStep mBr; dsimp only; rw [show mTo pc off = some t from ht]; simp [hc]) (kt hc)
theorem y_icmp_ne {x y : Int32} {off : Int} {t : Nat} (hm : mMet mid = some row) (hf : mFetch mid pc = some (.if_icmp .ne off, ex)) (ht : mTo pc off = some t) (kt : ¬ x = y → mAl X Q mid t L st D) (kf : x = y → mAl X Q mid (pc + 3) L st D) : mAl X Q mid pc L (.int y :: .int x :: st) D := by
  by_cases hc : x = y
  · exact al_inl hm hf (q := (pc + 3, L, st, D)) (by unfold mStep mBr; dsimp only; rw [show mTo pc off = some t from ht]; simp [hc]) (kf hc)
  · exact al_inl hm hf (q := (t, L, st, D)) (by unfold mStep mBr; dsimp only; rw [show mTo pc off = some t from ht]; simp [hc]) (kt hc)
theorem y_if_lt {x : Int32} {off : Int} {t : Nat} (hm : mMet mid = some row) (hf : mFetch mid pc = some (.ifCond .lt off, ex)) (ht : mTo pc off = some t) (kt : x < 0 → mAl X Q mid t L st D) (kf : ¬ (x < 0) → mAl X Q mid (pc + 3) L st D) : mAl X Q mid pc L (.int x :: st) D := by
  by_cases hc : x < 0
  · exact al_inl hm hf (q := (t, L, st, D)) (by unfold mStep mBr; dsimp only; rw [show mTo pc off = some t from ht]; simp [hc]) (kt hc)
  · exact al_inl hm hf (q := (pc + 3, L, st, D)) (by unfold mStep mBr; dsimp only; rw [show mTo pc off = some t from ht]; simp [hc]) (kf hc)
theorem y_icmp_lt {x y : Int32} {off : Int} {t : Nat} (hm : mMet mid = some row) (hf : mFetch mid pc = some (.if_icmp .lt off, ex)) (ht : mTo pc off = some t) (kt : x < y → mAl X Q mid t L st D) (kf : ¬ (x < y) → mAl X Q mid (pc + 3) L st D) : mAl X Q mid pc L (.int y :: .int x :: st) D := by
  by_cases hc : x < y
  · exact al_inl hm hf (q := (t, L, st, D)) (by unfold mStep mBr; dsimp only; rw [show mTo pc off = some t from ht]; simp [hc]) (kt hc)
  · exact al_inl hm hf (q := (pc + 3, L, st, D)) (by unfold mStep mBr; dsimp only; rw [show mTo pc off = some t from ht]; simp [hc]) (kf hc)
theorem y_if_ge {x : Int32} {off : Int} {t : Nat} (hm : mMet mid = some row) (hf : mFetch mid pc = some (.ifCond .ge off, ex)) (ht : mTo pc off = some t) (kt : 0 ≤ x → mAl X Q mid t L st D) (kf : ¬ (0 ≤ x) → mAl X Q mid (pc + 3) L st D) : mAl X Q mid pc L (.int x :: st) D := by
  by_cases hc : 0 ≤ x
  · exact al_inl hm hf (q := (t, L, st, D)) (by unfold mStep mBr; dsimp only; rw [show mTo pc off = some t from ht]; simp [hc]) (kt hc)
  · exact al_inl hm hf (q := (pc + 3, L, st, D)) (by unfold mStep mBr; dsimp only; rw [show mTo pc off = some t from ht]; simp [hc]) (kf hc)
theorem y_icmp_ge {x y : Int32} {off : Int} {t : Nat} (hm : mMet mid = some row) (hf : mFetch mid pc = some (.if_icmp .ge off, ex)) (ht : mTo pc off = some t) (kt : y ≤ x → mAl X Q mid t L st D) (kf : ¬ (y ≤ x) → mAl X Q mid (pc + 3) L st D) : mAl X Q mid pc L (.int y :: .int x :: st) D := by
  by_cases hc : y ≤ x
  · exact al_inl hm hf (q := (t, L, st, D)) (by unfold mStep mBr; dsimp only; rw [show mTo pc off = some t from ht]; simp [hc]) (kt hc)
  · exact al_inl hm hf (q := (pc + 3, L, st, D)) (by unfold mStep mBr; dsimp only; rw [show mTo pc off = some t from ht]; simp [hc]) (kf hc)
theorem y_if_gt {x : Int32} {off : Int} {t : Nat} (hm : mMet mid = some row) (hf : mFetch mid pc = some (.ifCond .gt off, ex)) (ht : mTo pc off = some t) (kt : 0 < x → mAl X Q mid t L st D) (kf : ¬ (0 < x) → mAl X Q mid (pc + 3) L st D) : mAl X Q mid pc L (.int x :: st) D := by
  by_cases hc : 0 < x
  · exact al_inl hm hf (q := (t, L, st, D)) (by unfold mStep mBr; dsimp only; rw [show mTo pc off = some t from ht]; simp [hc]) (kt hc)
  · exact al_inl hm hf (q := (pc + 3, L, st, D)) (by unfold mStep mBr; dsimp only; rw [show mTo pc off = some t from ht]; simp [hc]) (kf hc)
theorem y_icmp_gt {x y : Int32} {off : Int} {t : Nat} (hm : mMet mid = some row) (hf : mFetch mid pc = some (.if_icmp .gt off, ex)) (ht : mTo pc off = some t) (kt : y < x → mAl X Q mid t L st D) (kf : ¬ (y < x) → mAl X Q mid (pc + 3) L st D) : mAl X Q mid pc L (.int y :: .int x :: st) D := by
  by_cases hc : y < x
  · exact al_inl hm hf (q := (t, L, st, D)) (by unfold mStep mBr; dsimp only; rw [show mTo pc off = some t from ht]; simp [hc]) (kt hc)
  · exact al_inl hm hf (q := (pc + 3, L, st, D)) (by unfold mStep mBr; dsimp only; rw [show mTo pc off = some t from ht]; simp [hc]) (kf hc)
theorem y_if_le {x : Int32} {off : Int} {t : Nat} (hm : mMet mid = some row) (hf : mFetch mid pc = some (.ifCond .le off, ex)) (ht : mTo pc off = some t) (kt : x ≤ 0 → mAl X Q mid t L st D) (kf : ¬ (x ≤ 0) → mAl X Q mid (pc + 3) L st D) : mAl X Q mid pc L (.int x :: st) D := by
  by_cases hc : x ≤ 0
  · exact al_inl hm hf (q := (t, L, st, D)) (by unfold mStep mBr; dsimp only; rw [show mTo pc off = some t from ht]; simp [hc]) (kt hc)
  · exact al_inl hm hf (q := (pc + 3, L, st, D)) (by unfold mStep mBr; dsimp only; rw [show mTo pc off = some t from ht]; simp [hc]) (kf hc)
theorem y_icmp_le {x y : Int32} {off : Int} {t : Nat} (hm : mMet mid = some row) (hf : mFetch mid pc = some (.if_icmp .le off, ex)) (ht : mTo pc off = some t) (kt : x ≤ y → mAl X Q mid t L st D) (kf : ¬ (x ≤ y) → mAl X Q mid (pc + 3) L st D) : mAl X Q mid pc L (.int y :: .int x :: st) D := by
  by_cases hc : x ≤ y
  · exact al_inl hm hf (q := (t, L, st, D)) (by unfold mStep mBr; dsimp only; rw [show mTo pc off = some t from ht]; simp [hc]) (kt hc)
  · exact al_inl hm hf (q := (pc + 3, L, st, D)) (by unfold mStep mBr; dsimp only; rw [show mTo pc off = some t from ht]; simp [hc]) (kf hc)
theorem y_goto {off : Int} {t : Nat} (hm : mMet mid = some row) (hf : mFetch mid pc = some (.goto off, ex)) (ht : mTo pc off = some t) (k : mAl X Q mid t L st D) : mAl X Q mid pc L st D := al_inl hm hf (q := (t, L, st, D)) (by unfold mStep mGo; dsimp only; rw [show mTo pc off = some t from ht]; rfl) k
theorem y_tsOut {x : Int32} {dflt lo hi : Int} {offs : Array Int} {t : Nat} (hm : mMet mid = some row) (hf : mFetch mid pc = some (.tableswitch dflt lo hi offs, ex)) (hx : x.toInt < lo ∨ hi < x.toInt) (ht : mTo pc dflt = some t) (k : mAl X Q mid t L st D) : mAl X Q mid pc L (.int x :: st) D := al_inl hm hf (q := (t, L, st, D)) (by unfold mStep mGo; dsimp only; rw [if_pos hx, show mTo pc dflt = some t from ht]; rfl) k
theorem y_tsIn {x : Int32} {dflt lo hi off : Int} {offs : Array Int} {t : Nat} (hm : mMet mid = some row) (hf : mFetch mid pc = some (.tableswitch dflt lo hi offs, ex)) (hx : ¬ (x.toInt < lo ∨ hi < x.toInt)) (ho : offs[(x.toInt - lo).toNat]? = some off) (ht : mTo pc off = some t) (k : mAl X Q mid t L st D) : mAl X Q mid pc L (.int x :: st) D := al_inl hm hf (q := (t, L, st, D)) (by unfold mStep mGo; dsimp only; rw [if_neg hx, ho]; dsimp only; rw [show mTo pc off = some t from ht]; rfl) k
theorem y_ts {x : Int32} {dflt lo hi : Int} {offs : Array Int} (hm : mMet mid = some row) (hf : mFetch mid pc = some (.tableswitch dflt lo hi offs, ex)) (hD : (x.toInt < lo ∨ hi < x.toInt) → ∃ t, mTo pc dflt = some t ∧ mAl X Q mid t L st D) (hI : ∀ i : Nat, x.toInt = lo + i → (i : Int) ≤ hi - lo → ∃ off t, offs[i]? = some off ∧ mTo pc off = some t ∧ mAl X Q mid t L st D) : mAl X Q mid pc L (.int x :: st) D := by
  by_cases hx : x.toInt < lo ∨ hi < x.toInt
  · obtain ⟨t, h1, h2⟩ := hD hx
    exact y_tsOut hm hf hx h1 h2
  · obtain ⟨off, t, h1, h2, h3⟩ := hI (x.toInt - lo).toNat (by omega) (by omega)
    exact y_tsIn hm hf hx h1 h2 h3
theorem y_getf {i idx j kd a b : Nat} {z : Int} {v : Value} (hm : mMet mid = some row) (hf : mFetch mid pc = some (.getfield idx, 3, j, kd, a, b, z)) (hv : mGet D i a b = some v) (k : mAl X Q mid (pc + 3) L (v :: st) D) : mAl X Q mid pc L (.ref i :: st) D := al_inl hm hf (q := (pc + 3, L, v :: st, D)) (by unfold mStep; dsimp only; rw [hv]; rfl) k
theorem y_putf {i idx j kd a b : Nat} {z : Int} {v : Value} {D1 : mHp} (hm : mMet mid = some row) (hf : mFetch mid pc = some (.putfield idx, 3, j, kd, a, b, z)) (hv : mPut row kd D i a b v = some D1) (k : mAl X Q mid (pc + 3) L st D1) : mAl X Q mid pc L (v :: .ref i :: st) D := al_inl hm hf (q := (pc + 3, L, st, D1)) (by unfold mStep; dsimp only; rw [hv]; rfl) k
theorem y_gets {idx : Nat} (hm : mMet mid = some row) (hf : mFetch mid pc = some (.getstatic idx, ex)) (k : mAl X Q mid (pc + 3) L (.ref 1000100 :: st) D) : mAl X Q mid pc L st D := al_inl hm hf (q := (pc + 3, L, .ref 1000100 :: st, D)) (by rfl) k
theorem y_iald {i : Nat} {j : Int32} {v : Value} (hm : mMet mid = some row) (hf : mFetch mid pc = some (.iaload, ex)) (hv : mLd X 0 D i j = some v) (k : mAl X Q mid (pc + 1) L (v :: st) D) : mAl X Q mid pc L (.int j :: .ref i :: st) D := al_inl hm hf (q := (pc + 1, L, v :: st, D)) (by unfold mStep; dsimp only; rw [hv]; rfl) k
theorem y_bald {i : Nat} {j : Int32} {v : Value} (hm : mMet mid = some row) (hf : mFetch mid pc = some (.baload, ex)) (hv : mLd X 1 D i j = some v) (k : mAl X Q mid (pc + 1) L (v :: st) D) : mAl X Q mid pc L (.int j :: .ref i :: st) D := al_inl hm hf (q := (pc + 1, L, v :: st, D)) (by unfold mStep; dsimp only; rw [hv]; rfl) k
theorem y_aald {i : Nat} {j : Int32} {v : Value} (hm : mMet mid = some row) (hf : mFetch mid pc = some (.aaload, ex)) (hv : mLdq D i j = some v) (k : mAl X Q mid (pc + 1) L (v :: st) D) : mAl X Q mid pc L (.int j :: .ref i :: st) D := al_inl hm hf (q := (pc + 1, L, v :: st, D)) (by unfold mStep; dsimp only; rw [hv]; rfl) k
theorem y_iast {i : Nat} {j x : Int32} {D1 : mHp} (hm : mMet mid = some row) (hf : mFetch mid pc = some (.iastore, ex)) (hv : mStI 0 D i j x = some D1) (k : mAl X Q mid (pc + 1) L st D1) : mAl X Q mid pc L (.int x :: .int j :: .ref i :: st) D := al_inl hm hf (q := (pc + 1, L, st, D1)) (by unfold mStep; dsimp only; rw [hv]; rfl) k
theorem y_bast {i : Nat} {j x : Int32} {D1 : mHp} (hm : mMet mid = some row) (hf : mFetch mid pc = some (.bastore, ex)) (hv : mStI 1 D i j x = some D1) (k : mAl X Q mid (pc + 1) L st D1) : mAl X Q mid pc L (.int x :: .int j :: .ref i :: st) D := al_inl hm hf (q := (pc + 1, L, st, D1)) (by unfold mStep; dsimp only; rw [hv]; rfl) k
theorem y_alen {i : Nat} {n : Int32} (hm : mMet mid = some row) (hf : mFetch mid pc = some (.arraylength, ex)) (hv : mLen X D i = some n) (k : mAl X Q mid (pc + 1) L (.int n :: st) D) : mAl X Q mid pc L (.ref i :: st) D := al_inl hm hf (q := (pc + 1, L, .int n :: st, D)) (by unfold mStep; dsimp only; rw [hv]; rfl) k
theorem y_callS {idx len j kd a b : Nat} {z : Int} {as r : List Value} {rv : Option Value} {D1 : mHp} (hm : mMet mid = some row) (hf : mFetch mid pc = some (.invokestatic idx, len, j, kd, a, b, z)) (hs : mCall (.invokestatic idx, len, j, kd, a, b, z) false pc L st D = some (.inr (.inr (a, as, r)))) (hc : mT X a as D rv D1) (k : mAl X Q mid (pc + 3) L (rv.toList ++ r) D1) : mAl X Q mid pc L st D := al_call hm hf (x := (a, as, r)) hs hc k
theorem y_callV {idx len j kd a b : Nat} {z : Int} {as r : List Value} {rv : Option Value} {D1 : mHp} (hm : mMet mid = some row) (hf : mFetch mid pc = some (.invokevirtual idx, len, j, kd, a, b, z)) (hs : mCall (.invokevirtual idx, len, j, kd, a, b, z) true pc L st D = some (.inr (.inr (a, as, r)))) (hc : mT X a as D rv D1) (k : mAl X Q mid (pc + 3) L (rv.toList ++ r) D1) : mAl X Q mid pc L st D := al_call hm hf (x := (a, as, r)) hs hc k
theorem y_callI {idx len j kd a b : Nat} {z : Int} {as r : List Value} {rv : Option Value} {D1 : mHp} (hm : mMet mid = some row) (hf : mFetch mid pc = some (.invokespecial idx, len, j, kd, a, b, z)) (hs : mCall (.invokespecial idx, len, j, kd, a, b, z) true pc L st D = some (.inr (.inr (a, as, r)))) (hc : mT X a as D rv D1) (k : mAl X Q mid (pc + 3) L (rv.toList ++ r) D1) : mAl X Q mid pc L st D := al_call hm hf (x := (a, as, r)) hs hc k
theorem y_lib {idx len j kd a b : Nat} {z : Int} {q : Nat × mLoc × List Value × mHp} (hm : mMet mid = some row) (hf : mFetch mid pc = some (.invokestatic idx, len, j, kd, a, b, z)) (hs : mCall (.invokestatic idx, len, j, kd, a, b, z) false pc L st D = some (.inl q)) (k : mAl X Q mid q.1 q.2.1 q.2.2.1 q.2.2.2) : mAl X Q mid pc L st D := al_inl hm hf hs k
theorem y_libV {idx len j kd a b : Nat} {z : Int} {q : Nat × mLoc × List Value × mHp} (hm : mMet mid = some row) (hf : mFetch mid pc = some (.invokevirtual idx, len, j, kd, a, b, z)) (hs : mCall (.invokevirtual idx, len, j, kd, a, b, z) true pc L st D = some (.inl q)) (k : mAl X Q mid q.1 q.2.1 q.2.2.1 q.2.2.2) : mAl X Q mid pc L st D := al_inl hm hf hs k
theorem y_libI {idx len j kd a b : Nat} {z : Int} {q : Nat × mLoc × List Value × mHp} (hm : mMet mid = some row) (hf : mFetch mid pc = some (.invokespecial idx, len, j, kd, a, b, z)) (hs : mCall (.invokespecial idx, len, j, kd, a, b, z) true pc L st D = some (.inl q)) (k : mAl X Q mid q.1 q.2.1 q.2.2.1 q.2.2.2) : mAl X Q mid pc L st D := al_inl hm hf hs k
theorem y_iret {v : Int32} {ty : FieldType} (hm : mMet mid = some row) (hf : mFetch mid pc = some (.ireturn, ex)) (hty : row.2.2.2.2.1 = some ty) (hn : narrow ty (.int v) = .int v) (hq : Q (some (.int v)) D) : mAl X Q mid pc L [.int v] D := al_ret hm hf (v := some (.int v)) (by unfold mStep; dsimp only; rw [hty]; dsimp only; rw [decide_eq_true hn]; rfl) hq
theorem y_lret {v : Int64} (hm : mMet mid = some row) (hf : mFetch mid pc = some (.lreturn, ex)) (hty : row.2.2.2.2.1 = some .long) (hq : Q (some (.long v)) D) : mAl X Q mid pc L [.long v] D := al_ret hm hf (v := some (.long v)) (by unfold mStep; dsimp only; rw [hty]; rfl) hq
theorem y_aret {v : Nat} {C : String} (hm : mMet mid = some row) (hf : mFetch mid pc = some (.areturn, ex)) (hty : row.2.2.2.2.1 = some (.object C)) (hq : Q (some (.ref v)) D) : mAl X Q mid pc L [.ref v] D := al_ret hm hf (v := some (.ref v)) (by unfold mStep; dsimp only; rw [hty]) hq
theorem y_ret (hm : mMet mid = some row) (hf : mFetch mid pc = some (.return_, ex)) (hty : row.2.2.2.2.1 = none) (hq : Q none D) : mAl X Q mid pc L [] D := al_ret hm hf (v := none) (by unfold mStep; dsimp only; rw [hty]; rfl) hq
end AL
section AC
variable {X : mSc} {Q : Option Value → mHp → Prop} {mid pc : Nat} {L : mLoc} {st : List Value} {M : mM} {row : mRow} {as : List Value}
theorem y_cSe {idx len j kd a b : Nat} {z : Int} {as r : List Value} {R : Int32 → Prop} (hm : mMet mid = some row) (hf : mFetch mid pc = some (.invokestatic idx, len, j, kd, a, b, z)) (hs : mCall (.invokestatic idx, len, j, kd, a, b, z) false pc L st (con M) = some (.inr (.inr (a, as, r)))) (hc : ∃ v, mT X a as (con M) (some (.int v)) (con M) ∧ R v) (k : ∀ v, R v → mAl X Q mid (pc + 3) L (.int v :: r) (con M)) : mAl X Q mid pc L st (con M) := by
  obtain ⟨v, h1, h2⟩ := hc
  exact y_callS hm hf hs h1 (k v h2)
theorem y_cSi {idx len j kd a b : Nat} {z : Int} {as r : List Value} {P : Int32 → mM → Prop} (hm : mMet mid = some row) (hf : mFetch mid pc = some (.invokestatic idx, len, j, kd, a, b, z)) (hs : mCall (.invokestatic idx, len, j, kd, a, b, z) false pc L st (con M) = some (.inr (.inr (a, as, r)))) (hc : ∃ v M', mT X a as (con M) (some (.int v)) (con M') ∧ P v M') (k : ∀ v M', P v M' → mAl X Q mid (pc + 3) L (.int v :: r) (con M')) : mAl X Q mid pc L st (con M) := by
  obtain ⟨v, M', h1, h2⟩ := hc
  exact y_callS hm hf hs h1 (k v M' h2)
theorem y_cSv {idx len j kd a b : Nat} {z : Int} {as r : List Value} {P : mM → Prop} (hm : mMet mid = some row) (hf : mFetch mid pc = some (.invokestatic idx, len, j, kd, a, b, z)) (hs : mCall (.invokestatic idx, len, j, kd, a, b, z) false pc L st (con M) = some (.inr (.inr (a, as, r)))) (hc : ∃ M', mT X a as (con M) none (con M') ∧ P M') (k : ∀ M', P M' → mAl X Q mid (pc + 3) L r (con M')) : mAl X Q mid pc L st (con M) := by
  obtain ⟨M', h1, h2⟩ := hc
  exact y_callS hm hf hs h1 (k M' h2)
theorem y_cVe {idx len j kd a b : Nat} {z : Int} {as r : List Value} {R : Int32 → Prop} (hm : mMet mid = some row) (hf : mFetch mid pc = some (.invokevirtual idx, len, j, kd, a, b, z)) (hs : mCall (.invokevirtual idx, len, j, kd, a, b, z) true pc L st (con M) = some (.inr (.inr (a, as, r)))) (hc : ∃ v, mT X a as (con M) (some (.int v)) (con M) ∧ R v) (k : ∀ v, R v → mAl X Q mid (pc + 3) L (.int v :: r) (con M)) : mAl X Q mid pc L st (con M) := by
  obtain ⟨v, h1, h2⟩ := hc
  exact y_callV hm hf hs h1 (k v h2)
theorem y_cVi {idx len j kd a b : Nat} {z : Int} {as r : List Value} {P : Int32 → mM → Prop} (hm : mMet mid = some row) (hf : mFetch mid pc = some (.invokevirtual idx, len, j, kd, a, b, z)) (hs : mCall (.invokevirtual idx, len, j, kd, a, b, z) true pc L st (con M) = some (.inr (.inr (a, as, r)))) (hc : ∃ v M', mT X a as (con M) (some (.int v)) (con M') ∧ P v M') (k : ∀ v M', P v M' → mAl X Q mid (pc + 3) L (.int v :: r) (con M')) : mAl X Q mid pc L st (con M) := by
  obtain ⟨v, M', h1, h2⟩ := hc
  exact y_callV hm hf hs h1 (k v M' h2)
theorem y_cVv {idx len j kd a b : Nat} {z : Int} {as r : List Value} {P : mM → Prop} (hm : mMet mid = some row) (hf : mFetch mid pc = some (.invokevirtual idx, len, j, kd, a, b, z)) (hs : mCall (.invokevirtual idx, len, j, kd, a, b, z) true pc L st (con M) = some (.inr (.inr (a, as, r)))) (hc : ∃ M', mT X a as (con M) none (con M') ∧ P M') (k : ∀ M', P M' → mAl X Q mid (pc + 3) L r (con M')) : mAl X Q mid pc L st (con M) := by
  obtain ⟨M', h1, h2⟩ := hc
  exact y_callV hm hf hs h1 (k M' h2)
theorem y_cIe {idx len j kd a b : Nat} {z : Int} {as r : List Value} {R : Int32 → Prop} (hm : mMet mid = some row) (hf : mFetch mid pc = some (.invokespecial idx, len, j, kd, a, b, z)) (hs : mCall (.invokespecial idx, len, j, kd, a, b, z) true pc L st (con M) = some (.inr (.inr (a, as, r)))) (hc : ∃ v, mT X a as (con M) (some (.int v)) (con M) ∧ R v) (k : ∀ v, R v → mAl X Q mid (pc + 3) L (.int v :: r) (con M)) : mAl X Q mid pc L st (con M) := by
  obtain ⟨v, h1, h2⟩ := hc
  exact y_callI hm hf hs h1 (k v h2)
theorem y_cIi {idx len j kd a b : Nat} {z : Int} {as r : List Value} {P : Int32 → mM → Prop} (hm : mMet mid = some row) (hf : mFetch mid pc = some (.invokespecial idx, len, j, kd, a, b, z)) (hs : mCall (.invokespecial idx, len, j, kd, a, b, z) true pc L st (con M) = some (.inr (.inr (a, as, r)))) (hc : ∃ v M', mT X a as (con M) (some (.int v)) (con M') ∧ P v M') (k : ∀ v M', P v M' → mAl X Q mid (pc + 3) L (.int v :: r) (con M')) : mAl X Q mid pc L st (con M) := by
  obtain ⟨v, M', h1, h2⟩ := hc
  exact y_callI hm hf hs h1 (k v M' h2)
theorem y_cIv {idx len j kd a b : Nat} {z : Int} {as r : List Value} {P : mM → Prop} (hm : mMet mid = some row) (hf : mFetch mid pc = some (.invokespecial idx, len, j, kd, a, b, z)) (hs : mCall (.invokespecial idx, len, j, kd, a, b, z) true pc L st (con M) = some (.inr (.inr (a, as, r)))) (hc : ∃ M', mT X a as (con M) none (con M') ∧ P M') (k : ∀ M', P M' → mAl X Q mid (pc + 3) L r (con M')) : mAl X Q mid pc L st (con M) := by
  obtain ⟨M', h1, h2⟩ := hc
  exact y_callI hm hf hs h1 (k M' h2)
end AC
