section
/-! ===== the simulation ===== -/
/-- whatever step it is, the world doesn't shrink -/
def mPr2 (D : mHp) (o : Option mRes) : Prop := ∀ q : Nat × mLoc × List Value × mHp, o = some (.inl q) → D.length ≤ q.2.2.2.length ∧ mSl D ≤ mSl q.2.2.2
theorem mPr2_none {D : mHp} : mPr2 D none := fun _ h => by cases h
theorem mPr2_inr {D : mHp} {x} : mPr2 D (some (.inr x)) := fun _ h => by cases h
theorem mPr2_nx {D D' : mHp} {pc : Nat} {L : mLoc} {st : List Value} (h1 : D.length ≤ D'.length) (h2 : mSl D ≤ mSl D') : mPr2 D (mNx pc L st D') := fun q h => by
  obtain rfl := mNx_eq h
  exact ⟨h1, h2⟩
theorem mPr2_nx0 {D : mHp} {pc : Nat} {L : mLoc} {st : List Value} : mPr2 D (mNx pc L st D) := mPr2_nx (Nat.le_refl _) (Nat.le_refl _)
theorem mPr2_go {D : mHp} {pc : Nat} {off : Int} {L : mLoc} {st : List Value} : mPr2 D (mGo pc off L st D) := fun q h => by
  obtain ⟨t, -, rfl⟩ := mGo_eq h
  exact ⟨Nat.le_refl _, Nat.le_refl _⟩
theorem mPr2_br {D : mHp} {b : Bool} {pc : Nat} {off : Int} {L : mLoc} {st : List Value} : mPr2 D (mBr b pc off L st D) := fun q h => by
  obtain ⟨t, -, rfl⟩ := mBr_eq h
  exact ⟨Nat.le_refl _, Nat.le_refl _⟩
theorem mPr2_cond {D : mHp} {b : Bool} {o : Option mRes} (h : mPr2 D o) : mPr2 D (cond b o none) := fun q hq => h q (mCond_eq hq).2
theorem mPr2_bind {α : Type} {D : mHp} {o : Option α} {f : α → Option mRes} (h : ∀ a, o = some a → mPr2 D (f a)) : mPr2 D (o.bind f) := fun q hq => by
  obtain ⟨a, h1, h2⟩ := mBind_eq hq
  exact h a h1 q h2
theorem mPr2_set {D : mHp} {i : Nat} {c c' : va_E} {pc : Nat} {L : mLoc} {st : List Value} (hD : D[i]? = some c) (hz : mSz c' = mSz c) : mPr2 D (mNx pc L st (D.set i c')) :=
  mPr2_nx (by rw [List.length_set]; exact Nat.le_refl _) (by rw [mSl_set hD hz]; exact Nat.le_refl _)
theorem mPr2_app {D E : mHp} {pc : Nat} {L : mLoc} {st : List Value} : mPr2 D (mNx pc L st (D ++ E)) :=
  mPr2_nx (by rw [List.length_append]; omega) (by rw [mSl_app]; omega)
theorem mPr2_call {e : mEnt} {v : Bool} {pc : Nat} {L : mLoc} {st : List Value} {D : mHp} : mPr2 D (mCall e v pc L st D) := by
  unfold mCall
  split
  · split
    · exact mPr2_cond mPr2_nx0
    · exact mPr2_none
  · split
    · split
      · rename_i hD1
        exact mPr2_cond (mPr2_set hD1 rfl)
      · exact mPr2_none
    · exact mPr2_none
  · split
    · split
      · exact mPr2_cond mPr2_nx0
      · exact mPr2_none
    · exact mPr2_none
  · split
    · split
      · exact mPr2_cond mPr2_nx0
      · exact mPr2_none
    · exact mPr2_none
  · split
    · exact mPr2_cond mPr2_nx0
    · exact mPr2_none
  · split
    · exact mPr2_cond mPr2_nx0
    · exact mPr2_none
  · exact mPr2_cond mPr2_inr
theorem mPr2_put {row : mRow} {kd : Nat} {D : mHp} {i a b : Nat} {v : Value} {pc : Nat} {L : mLoc} {st : List Value} : mPr2 D ((mPut row kd D i a b v).bind fun D1 => mNx pc L st D1) := mPr2_bind fun D1 h => by
  obtain ⟨fs, hD, -, -, -, -, rfl⟩ := mPut_eq h
  exact mPr2_set hD (mSz_obj a b fs v)
theorem mPr2_sti {t : Nat} {D : mHp} {i : Nat} {j x : Int32} {pc : Nat} {L : mLoc} {st : List Value} : mPr2 D ((mStI t D i j x).bind fun D1 => mNx pc L st D1) := mPr2_bind fun D1 h => by
  obtain ⟨n, f, hD, -, rfl⟩ := mStI_eq h
  exact mPr2_set hD rfl
theorem mPr2_stq {D : mHp} {i v : Nat} {j : Int32} {pc : Nat} {L : mLoc} {st : List Value} : mPr2 D ((mStQ D i j v).bind fun D1 => mNx pc L st D1) := mPr2_bind fun D1 h => by
  obtain ⟨t, n, f, hD, -, -, rfl⟩ := mStQ_eq h
  exact mPr2_set hD rfl
theorem mStep_mono {X : mSc} {row : mRow} {e : mEnt} {pc : Nat} {L : mLoc} {st : List Value} {D : mHp} : mPr2 D (mStep X row e pc L st D) := by
  unfold mStep
  split
  all_goals (repeat' (first | exact mPr2_none | exact mPr2_nx0 | exact mPr2_go | exact mPr2_br | exact mPr2_app | exact mPr2_call | exact mPr2_put | exact mPr2_sti | exact mPr2_stq | exact mPr2_inr | apply mPr2_cond | (refine mPr2_bind fun _ _ => ?_) | split))
theorem mRun_mono {X : mSc} : ∀ (n mid pc : Nat) (L : mLoc) (st : List Value) (D : mHp) (z : Option Value × mHp), mRun X n mid pc L st D = some z → D.length ≤ z.2.length ∧ mSl D ≤ mSl z.2 := by
  intro n
  induction n with
  | zero => intro mid pc L st D z h; cases h
  | succ n ih =>
    intro mid pc L st D z h
    unfold mRun at h
    split at h
    · split at h
      · rename_i q hq
        obtain ⟨h1, h2⟩ := mStep_mono q hq
        obtain ⟨h3, h4⟩ := ih _ _ _ _ _ _ h
        exact ⟨Nat.le_trans h1 h3, Nat.le_trans h2 h4⟩
      · cases h
        exact ⟨Nat.le_refl _, Nat.le_refl _⟩
      · split at h
        · obtain ⟨-, h⟩ := mCond_eq h
          split at h
          · rename_i z1 hz1
            obtain ⟨h1, h2⟩ := ih _ _ _ _ _ _ hz1
            obtain ⟨h3, h4⟩ := ih _ _ _ _ _ _ h
            exact ⟨Nat.le_trans h1 h3, Nat.le_trans h2 h4⟩
          · cases h
        · cases h
      · cases h
    · cases h
section MSI
variable {p : Program} {l : Launch} {e : Env} {R : Room} {s : State} {m : MethodId} {args : Array Value} {below : List Frame} {meth : Method} {c : Code} {Q : State → Prop} {G : mG} {row : mRow} {d0 s0 : Nat} {pc : Nat} {L : mLoc} {st : List Value} {D : mHp} {q : Nat × mLoc × List Value × mHp}
theorem mLen_of {i : Instr} {n : Nat} (h : mLnk' i n = true) (hi : mLnk' i n = Nat.beq n (mLn i)) : n = mLn i := Nat.eq_of_beq_eq_true (hi ▸ h)

set_option maxHeartbeats 4000000 in
theorem m_step {X : mSc} {en : mEnt} (hG : G.2.2.2.2 = X) (HS : mSO l G) (C : mCx p R s m args meth c G row d0) (hlD : D.length ≤ 1000000) (hlq : q.2.2.2.length ≤ 1000000) (hrc : q.2.2.2.length ≤ R.cells + d0) (hrs : mSl q.2.2.2 ≤ R.slots + s0)
    (hd : decode row.2.2.1 pc = .ok (en.1, en.2.1)) (he : mEck row en = true) (h : mStep X row en pc L st D = some (.inl q)) (k : mK p l e R s m args below meth c Q G row.2.2.2.1 d0 s0 q.1 q.2.1 q.2.2.1 q.2.2.2) : mK p l e R s m args below meth c Q G row.2.2.2.1 d0 s0 pc L st D := by
  obtain ⟨ins, len, j, kind, a, b, z⟩ := en
  have hlen : mLnk' ins len = true := by
    unfold mEck at he
    rw [Bool.and_eq_true] at he
    exact he.1
  cases ins with
  | iconst n =>
    obtain rfl := mLen_of hlen rfl
    exact r_iconst C hd h k
  | bipush n =>
    obtain rfl := mLen_of hlen rfl
    exact r_bipush C hd h k
  | sipush n =>
    obtain rfl := mLen_of hlen rfl
    exact r_sipush C hd h k
  | lconst n =>
    obtain rfl := mLen_of hlen rfl
    exact r_lconst C hd h k
  | iload_n i =>
    obtain rfl := mLen_of hlen rfl
    exact r_iload_n C hd h k
  | iload i =>
    obtain rfl := mLen_of hlen rfl
    exact r_iload C hd h k
  | lload_n i =>
    obtain rfl := mLen_of hlen rfl
    exact r_lload_n C hd h k
  | lload i =>
    obtain rfl := mLen_of hlen rfl
    exact r_lload C hd h k
  | aload_n i =>
    obtain rfl := mLen_of hlen rfl
    exact r_aload_n C hd h k
  | aload i =>
    obtain rfl := mLen_of hlen rfl
    exact r_aload C hd h k
  | istore_n i =>
    obtain rfl := mLen_of hlen rfl
    exact r_istore_n C hd h k
  | istore i =>
    obtain rfl := mLen_of hlen rfl
    exact r_istore C hd h k
  | lstore_n i =>
    obtain rfl := mLen_of hlen rfl
    exact r_lstore_n C hd h k
  | lstore i =>
    obtain rfl := mLen_of hlen rfl
    exact r_lstore C hd h k
  | astore_n i =>
    obtain rfl := mLen_of hlen rfl
    exact r_astore_n C hd h k
  | astore i =>
    obtain rfl := mLen_of hlen rfl
    exact r_astore C hd h k
  | iinc i n =>
    obtain rfl := mLen_of hlen rfl
    exact r_iinc C hd h k
  | iadd =>
    obtain rfl := mLen_of hlen rfl
    exact r_iadd C hd h k
  | isub =>
    obtain rfl := mLen_of hlen rfl
    exact r_isub C hd h k
  | imul =>
    obtain rfl := mLen_of hlen rfl
    exact r_imul C hd h k
  | iand =>
    obtain rfl := mLen_of hlen rfl
    exact r_iand C hd h k
  | ior =>
    obtain rfl := mLen_of hlen rfl
    exact r_ior C hd h k
  | ixor =>
    obtain rfl := mLen_of hlen rfl
    exact r_ixor C hd h k
  | idiv =>
    obtain rfl := mLen_of hlen rfl
    exact r_idiv C hd h k
  | irem =>
    obtain rfl := mLen_of hlen rfl
    exact r_irem C hd h k
  | ishl =>
    obtain rfl := mLen_of hlen rfl
    exact r_ishl C hd h k
  | ishr =>
    obtain rfl := mLen_of hlen rfl
    exact r_ishr C hd h k
  | iushr =>
    obtain rfl := mLen_of hlen rfl
    exact r_iushr C hd h k
  | i2l =>
    obtain rfl := mLen_of hlen rfl
    exact r_i2l C hd h k
  | i2b =>
    obtain rfl := mLen_of hlen rfl
    exact r_i2b C hd h k
  | i2s =>
    obtain rfl := mLen_of hlen rfl
    exact r_i2s C hd h k
  | ladd =>
    obtain rfl := mLen_of hlen rfl
    exact r_ladd C hd h k
  | lmul =>
    obtain rfl := mLen_of hlen rfl
    exact r_lmul C hd h k
  | lcmp =>
    obtain rfl := mLen_of hlen rfl
    exact r_lcmp C hd h k
  | dup =>
    obtain rfl := mLen_of hlen rfl
    exact r_dup C hd h k
  | pop =>
    obtain rfl := mLen_of hlen rfl
    exact r_pop C hd h k
  | dup2 =>
    obtain rfl := mLen_of hlen rfl
    exact r_dup2 C hd h k
  | pop2 =>
    obtain rfl := mLen_of hlen rfl
    exact r_pop2 C hd h k
  | goto off =>
    obtain rfl := mLen_of hlen rfl
    exact r_goto C hd h k
  | iaload =>
    obtain rfl := mLen_of hlen rfl
    exact r_iaload hG C hlD hd h k
  | baload =>
    obtain rfl := mLen_of hlen rfl
    exact r_baload C hlD hd h k
  | aaload =>
    obtain rfl := mLen_of hlen rfl
    exact r_aaload C hlD hd h k
  | iastore =>
    obtain rfl := mLen_of hlen rfl
    exact r_iastore C hlD hd h k
  | bastore =>
    obtain rfl := mLen_of hlen rfl
    exact r_bastore C hlD hd h k
  | aastore =>
    obtain rfl := mLen_of hlen rfl
    exact r_aastore C hlD hd h k
  | arraylength =>
    obtain rfl := mLen_of hlen rfl
    exact r_arraylength hG C hlD hd h k
  | ifCond cd off =>
    obtain rfl := mLen_of hlen rfl
    cases cd
    case eq => exact r_if_eq C hd h k
    case ne => exact r_if_ne C hd h k
    case lt => exact r_if_lt C hd h k
    case ge => exact r_if_ge C hd h k
    case gt => exact r_if_gt C hd h k
    case le => exact r_if_le C hd h k
  | if_icmp cd off =>
    obtain rfl := mLen_of hlen rfl
    cases cd
    case eq => exact r_icmp_eq C hd h k
    case ne => exact r_icmp_ne C hd h k
    case lt => exact r_icmp_lt C hd h k
    case ge => exact r_icmp_ge C hd h k
    case gt => exact r_icmp_gt C hd h k
    case le => exact r_icmp_le C hd h k
  | tableswitch dflt lo hi offs => exact r_tsw C hd h k
  | getfield idx =>
    obtain rfl := mLen_of hlen rfl
    obtain ⟨hkd, hL0, hrm⟩ := mEck_at he rfl
    exact r_getfield C hlD hkd hL0 hd h k
  | putfield idx =>
    obtain rfl := mLen_of hlen rfl
    obtain ⟨hkd, hL0, hrm⟩ := mEck_at he rfl
    exact r_putfield C hlD hkd hL0 hd h k
  | getstatic idx =>
    obtain rfl := mLen_of hlen rfl
    obtain ⟨hkd, hL0, hrm⟩ := mEck_at he rfl
    exact r_getstatic C hkd hL0 hd h k
  | ldc idx =>
    obtain rfl := mLen_of hlen rfl
    obtain ⟨hkd, hL0, hrm⟩ := mEck_at he rfl
    exact r_ldc C hL0 hd h k
  | ldc_w idx =>
    obtain rfl := mLen_of hlen rfl
    obtain ⟨hkd, hL0, hrm⟩ := mEck_at he rfl
    exact r_ldc_w C hL0 hd h k
  | new idx =>
    obtain rfl := mLen_of hlen rfl
    obtain ⟨hkd, hL0, hrm⟩ := mEck_at he rfl
    have hq := mNx_eq h
    have e1 : q.2.2.2 = D ++ [.inr (a, mDf a)] := by rw [hq]
    have e2 : q.2.2.2.length = D.length + 1 := by rw [e1]; simp
    exact r_new C (by omega) (by omega) (by rw [← e1]; exact hrs) hkd hL0 hd h k
  | anewarray idx =>
    obtain rfl := mLen_of hlen rfl
    obtain ⟨hkd, hL0, hrm⟩ := mEck_at he rfl
    exact r_anewa C hlq hrc hrs hkd hL0 hd h k
  | newarray at_ =>
    obtain rfl := mLen_of hlen rfl
    cases at_
    case int => exact r_newa (t := 0) (Or.inl ⟨rfl, rfl⟩) C hlq hrc hrs hd h k
    case byte => exact r_newa (t := 1) (Or.inr ⟨rfl, rfl⟩) C hlq hrc hrs hd h k
    all_goals exact absurd h (by simp [mStep])
  | multianewarray idx dims =>
    obtain rfl := mLen_of hlen rfl
    obtain ⟨hkd, hL0, hrm⟩ := mEck_at he rfl
    by_cases h2 : dims = 2
    · subst h2
      exact r_mnewa C hlq hrc hrs hkd hL0 hd h k
    · exfalso
      unfold mStep at h
      split at h
      all_goals (first | (simp_all; done) | contradiction)
  | invokestatic idx =>
    obtain rfl := mLen_of hlen rfl
    obtain ⟨hkd, hL0, hrm⟩ := mEck_at he rfl
    have hmono := mStep_mono q h
    simp only [mKd, Bool.or_eq_true] at hkd
    rcases hkd with (((hkd | hkd) | hkd) | hkd) | hkd
    · have hkd := Nat.eq_of_beq_eq_true hkd
      subst hkd
      have hrm : mRm row 12 a = true := by
        rcases hrm with h9 | h9
        · cases h9
        · exact h9
      exact absurd (mCond_eq h).2 (by intro h9; cases h9)
    · have hkd := Nat.eq_of_beq_eq_true hkd
      subst hkd
      have hrm : mRm row 13 a = true := by
        rcases hrm with h9 | h9
        · cases h9
        · exact h9
      exact absurd (mCond_eq h).2 (by intro h9; cases h9)
    · have hkd := Nat.eq_of_beq_eq_true hkd
      subst hkd
      have hrm : mRm row 21 a = true := by
        rcases hrm with h9 | h9
        · cases h9
        · exact h9
      exact c_cpy C hlD hrm hL0 hd h k
    · have hkd := Nat.eq_of_beq_eq_true hkd
      subst hkd
      have hrm : mRm row 24 a = true := by
        rcases hrm with h9 | h9
        · cases h9
        · exact h9
      exact c_max C (by omega) (by omega) hrm hL0 hd h k
    · have hkd := Nat.eq_of_beq_eq_true hkd
      subst hkd
      have hrm : mRm row 25 a = true := by
        rcases hrm with h9 | h9
        · cases h9
        · exact h9
      exact c_min C (by omega) (by omega) hrm hL0 hd h k
  | invokevirtual idx =>
    obtain rfl := mLen_of hlen rfl
    obtain ⟨hkd, hL0, hrm⟩ := mEck_at he rfl
    have hmono := mStep_mono q h
    simp only [mKd, Bool.or_eq_true] at hkd
    rcases hkd with ((hkd | hkd) | hkd) | hkd
    · have hkd := Nat.eq_of_beq_eq_true hkd
      subst hkd
      have hrm : mRm row 10 a = true := by
        rcases hrm with h9 | h9
        · cases h9
        · exact h9
      exact absurd (mCond_eq h).2 (by intro h9; cases h9)
    · have hkd := Nat.eq_of_beq_eq_true hkd
      subst hkd
      have hrm : mRm row 11 a = true := by
        rcases hrm with h9 | h9
        · cases h9
        · exact h9
      exact absurd (mCond_eq h).2 (by intro h9; cases h9)
    · have hkd := Nat.eq_of_beq_eq_true hkd
      subst hkd
      have hrm : mRm row 22 a = true := by
        rcases hrm with h9 | h9
        · cases h9
        · exact h9
      exact c_len HS C (by omega) (by omega) hrm hL0 hd h k
    · have hkd := Nat.eq_of_beq_eq_true hkd
      subst hkd
      have hrm : mRm row 23 a = true := by
        rcases hrm with h9 | h9
        · cases h9
        · exact h9
      exact c_chr HS C (by omega) (by omega) hrm hL0 hd h k
  | invokespecial idx =>
    obtain rfl := mLen_of hlen rfl
    obtain ⟨hkd, hL0, hrm⟩ := mEck_at he rfl
    have hmono := mStep_mono q h
    simp only [mKd, Bool.or_eq_true] at hkd
    rcases hkd with (hkd | hkd) | hkd
    · have hkd := Nat.eq_of_beq_eq_true hkd
      subst hkd
      have hrm : mRm row 14 a = true := by
        rcases hrm with h9 | h9
        · cases h9
        · exact h9
      exact absurd (mCond_eq h).2 (by intro h9; cases h9)
    · have hkd := Nat.eq_of_beq_eq_true hkd
      subst hkd
      have hrm : mRm row 15 a = true := by
        rcases hrm with h9 | h9
        · cases h9
        · exact h9
      exact absurd (mCond_eq h).2 (by intro h9; cases h9)
    · have hkd := Nat.eq_of_beq_eq_true hkd
      subst hkd
      have hrm : mRm row 20 a = true := by
        rcases hrm with h9 | h9
        · cases h9
        · exact h9
      exact c_obj C hrm hL0 hd h k
  | ireturn =>
    exfalso
    unfold mStep at h
    dsimp only at h
    repeat' split at h
    all_goals (first | cases h | (obtain ⟨-, h⟩ := mCond_eq h; cases h))
  | lreturn =>
    exfalso
    unfold mStep at h
    dsimp only at h
    repeat' split at h
    all_goals (first | cases h | (obtain ⟨-, h⟩ := mCond_eq h; cases h))
  | areturn =>
    exfalso
    unfold mStep at h
    dsimp only at h
    repeat' split at h
    all_goals (first | cases h | (obtain ⟨-, h⟩ := mCond_eq h; cases h))
  | return_ =>
    exfalso
    unfold mStep at h
    dsimp only at h
    repeat' split at h
    all_goals (first | cases h | (obtain ⟨-, h⟩ := mCond_eq h; cases h))
  | _ => exact absurd h (by simp [mStep])
end MSI
end
section
/-! ===== the simulation: a run of the small machine is a walk of the real one ===== -/
def mPr3 (en : mEnt) (row : mRow) (st : List Value) (D : mHp) (pc : Nat) (L : mLoc) (o : Option mRes) : Prop :=
  (∀ v, o = some (.inr (.inl v)) → (en.1 = .ireturn ∧ ∃ (x : Int32) (ty : FieldType), st = [.int x] ∧ row.2.2.2.2.1 = some ty ∧ narrow ty (.int x) = .int x ∧ v = some (.int x)) ∨ (en.1 = .lreturn ∧ ∃ x : Int64, st = [.long x] ∧ row.2.2.2.2.1 = some .long ∧ v = some (.long x))
    ∨ (en.1 = .areturn ∧ ∃ (x : Nat) (C : String), st = [.ref x] ∧ row.2.2.2.2.1 = some (.object C) ∧ v = some (.ref x)) ∨ (en.1 = .return_ ∧ st = [] ∧ row.2.2.2.2.1 = none ∧ v = none)) ∧
  (∀ x, o = some (.inr (.inr x)) → ((∃ idx, en.1 = .invokestatic idx) ∧ mCall en false pc L st D = some (.inr (.inr x))) ∨ (((∃ idx, en.1 = .invokevirtual idx) ∨ (∃ idx, en.1 = .invokespecial idx)) ∧ mCall en true pc L st D = some (.inr (.inr x))))
section MP3
variable {en : mEnt} {row : mRow} {st : List Value} {D : mHp} {pc : Nat} {L : mLoc}
theorem mPr3_none : mPr3 en row st D pc L none := ⟨fun _ h => (by cases h), fun _ h => (by cases h)⟩
theorem mPr3_nx {pc' : Nat} {L' : mLoc} {st' : List Value} {D' : mHp} : mPr3 en row st D pc L (mNx pc' L' st' D') := ⟨fun _ h => (by simp [mNx] at h), fun _ h => (by simp [mNx] at h)⟩
theorem mPr3_go {pc' : Nat} {off : Int} {L' : mLoc} {st' : List Value} {D' : mHp} : mPr3 en row st D pc L (mGo pc' off L' st' D') := ⟨fun _ h => (by simp [mGo] at h), fun _ h => (by simp [mGo] at h)⟩
theorem mPr3_br {b : Bool} {pc' : Nat} {off : Int} {L' : mLoc} {st' : List Value} {D' : mHp} : mPr3 en row st D pc L (mBr b pc' off L' st' D') := ⟨fun _ h => (by simp [mBr] at h), fun _ h => (by simp [mBr] at h)⟩
theorem mPr3_cond {b : Bool} {o : Option mRes} (h : b = true → mPr3 en row st D pc L o) : mPr3 en row st D pc L (cond b o none) := by
  cases b with
  | true => exact h rfl
  | false => exact mPr3_none
theorem mPr3_bind {α : Type} {o : Option α} {f : α → Option mRes} (h : ∀ a, o = some a → mPr3 en row st D pc L (f a)) : mPr3 en row st D pc L (o.bind f) := by
  cases o with
  | none => exact mPr3_none
  | some a => exact h a rfl
theorem mCall_no {v : Bool} (x : Option Value) (h : mCall en v pc L st D = some (.inr (.inl x))) : False := by
  unfold mCall at h
  repeat' split at h
  all_goals (first | cases h | (have h9 := (mCond_eq h).2; simp [mNx] at h9))
end MP3
set_option maxHeartbeats 4000000 in
theorem mStep_out {X : mSc} {row : mRow} {en : mEnt} {pc : Nat} {L : mLoc} {st : List Value} {D : mHp} : mPr3 en row st D pc L (mStep X row en pc L st D) := by
  unfold mStep
  split
  all_goals (try (repeat' (first | exact mPr3_none | exact mPr3_nx | exact mPr3_go | exact mPr3_br | (refine mPr3_cond fun hcnd => ?_) | (refine mPr3_bind fun _ _ => ?_) | split)))
  all_goals (first
    | exact ⟨fun v h => (mCall_no v h).elim, fun x h => Or.inl ⟨⟨_, by assumption⟩, h⟩⟩
    | exact ⟨fun v h => (mCall_no v h).elim, fun x h => Or.inr ⟨Or.inl ⟨_, by assumption⟩, h⟩⟩
    | exact ⟨fun v h => (mCall_no v h).elim, fun x h => Or.inr ⟨Or.inr ⟨_, by assumption⟩, h⟩⟩
    | exact ⟨fun v h => Or.inl ⟨by assumption, _, _, rfl, by assumption, of_decide_eq_true hcnd, (by cases h; rfl)⟩, fun _ h => (by cases h)⟩
    | exact ⟨fun v h => Or.inr (Or.inl ⟨by assumption, _, rfl, of_decide_eq_true hcnd, (by cases h; rfl)⟩), fun _ h => (by cases h)⟩
    | exact ⟨fun v h => Or.inr (Or.inr (Or.inl ⟨by assumption, _, _, rfl, by assumption, (by cases h; rfl)⟩)), fun _ h => (by cases h)⟩
    | exact ⟨fun v h => Or.inr (Or.inr (Or.inr ⟨by assumption, rfl, of_decide_eq_true hcnd, (by cases h; rfl)⟩)), fun _ h => (by cases h)⟩)
theorem mCall_eq {en : mEnt} {v : Bool} {pc : Nat} {L : mLoc} {st : List Value} {D : mHp} {x : Nat × List Value × List Value} (h : mCall en v pc L st D = some (.inr (.inr x))) :
    x = (en.2.2.2.2.1, (st.take en.2.2.2.2.2.1).reverse, st.drop en.2.2.2.2.2.1) ∧ en.2.2.2.2.2.1 ≤ st.length ∧ mC1 (st.take en.2.2.2.2.2.1) = true ∧ mWt (st.drop en.2.2.2.2.2.1) ≤ 8 ∧ (v = true → mRcv D (st.take en.2.2.2.2.2.1).reverse en.2.2.2.2.1 = true) ∧ en.2.2.2.1 ≠ 20 ∧ en.2.2.2.1 ≠ 21 ∧ en.2.2.2.1 ≠ 22 ∧ en.2.2.2.1 ≠ 23 ∧ en.2.2.2.1 ≠ 24 ∧ en.2.2.2.1 ≠ 25 := by
  unfold mCall at h
  split at h
  · split at h
    · have h9 := (mCond_eq h).2; simp [mNx] at h9
    · cases h
  · split at h
    · split at h
      · have h9 := (mCond_eq h).2; simp [mNx] at h9
      · cases h
    · cases h
  · split at h
    · split at h
      · have h9 := (mCond_eq h).2; simp [mNx] at h9
      · cases h
    · cases h
  · split at h
    · split at h
      · have h9 := (mCond_eq h).2; simp [mNx] at h9
      · cases h
    · cases h
  · split at h
    · have h9 := (mCond_eq h).2; simp [mNx] at h9
    · cases h
  · split at h
    · have h9 := (mCond_eq h).2; simp [mNx] at h9
    · cases h
  · obtain ⟨h1, h2⟩ := mCond_eq h
    simp only [Bool.and_eq_true, Bool.or_eq_true, Bool.not_eq_true'] at h1
    refine ⟨?_, Nat.le_of_ble_eq_true h1.1.1.1, h1.1.1.2, Nat.le_of_ble_eq_true h1.1.2, fun hv => ?_, by assumption, by assumption, by assumption, by assumption, by assumption, by assumption⟩
    · simp only [Option.some.injEq, Sum.inr.injEq] at h2
      exact h2.symm
    · rcases h1.2 with h3 | h3
      · rw [hv] at h3; cases h3
      · exact h3
theorem lv_args1 : ∀ (vs : List Value) (k i : Nat) (v : Value), (∀ w ∈ vs, w.category = 1) → vs[i]? = some v → (k + i, v) ∈ lv_args k vs := by
  intro vs
  induction vs with
  | nil => intro k i v _ h; simp at h
  | cons w vs ih =>
    intro k i v hc h
    have hw : w.category = 1 := hc w List.mem_cons_self
    have e : lv_args k (w :: vs) = (k, w) :: lv_args (k + 1) vs := by
      show (k, w) :: lv_args (if w.category = 2 then k + 2 else k + 1) vs = _
      rw [if_neg (by omega)]
    rw [e]
    cases i with
    | zero =>
      simp only [List.getElem?_cons_zero, Option.some.injEq] at h
      subst h
      exact List.mem_cons_self
    | succ i =>
      simp only [List.getElem?_cons_succ] at h
      have := ih (k + 1) i v (fun u hu => hc u (List.mem_cons_of_mem _ hu)) h
      rw [show k + 1 + i = k + (i + 1) by omega] at this
      exact List.mem_cons_of_mem _ this
theorem lg_sl1 : ∀ (vs : List Value), (∀ w ∈ vs, w.category = 1) → (lg_sl vs).length = vs.length := by
  intro vs
  induction vs with
  | nil => intro _; rfl
  | cons w vs ih =>
    intro hc
    have hw : w.category = 1 := hc w List.mem_cons_self
    have h1 := ih (fun u hu => hc u (List.mem_cons_of_mem _ hu))
    unfold lg_sl at h1 ⊢
    rw [List.flatMap_cons, List.length_append, h1, if_neg (by omega)]
    simp
    omega
theorem mC1_cat {as : List Value} (h : mC1 as = true) : ∀ w ∈ as, w.category = 1 := fun w hw => Nat.eq_of_beq_eq_true (List.all_eq_true.mp h w hw)
theorem mEnv_LR {G : mG} {as : List Value} {n : Nat} {ls : Array Slot} (hc : ∀ w ∈ as, w.category = 1) (hn : as.length ≤ n) (hl : lv_has ls n (lv_args 0 (as.map (mV G)))) : mLR G ls n (mEnv n as) := by
  refine ⟨by simp [mEnv]; omega, hl.1, hl.2.1, fun i v hi => ?_⟩
  have hi2 : as[i]? = some v := by
    unfold mEnv at hi
    by_cases hlt : i < as.length
    · rw [List.getElem?_append_left (by rw [List.length_map]; exact hlt), List.getElem?_map] at hi
      cases ha : as[i]? with
      | none => rw [ha] at hi; cases hi
      | some w =>
        rw [ha] at hi
        simp only [Option.map_some, Option.some.injEq] at hi
        rw [hi]
    · rw [List.getElem?_append_right (by rw [List.length_map]; omega), List.getElem?_replicate] at hi
      split at hi <;> simp at hi
  have := lv_args1 (as.map (mV G)) 0 i (mV G v) (fun w hw => by
    obtain ⟨u, hu, rfl⟩ := List.mem_map.mp hw
    rw [mV_cat]
    exact hc u hu) (by rw [List.getElem?_map, hi2]; rfl)
  rw [Nat.zero_add] at this
  exact hl.2.2 _ this
section MSF
variable {p : Program} {l : Launch} {e : Env} {R : Room} {s : State} {m : MethodId} {args : Array Value} {below : List Frame} {meth : Method} {c : Code} {Q : State → Prop} {G : mG} {row : mRow} {d0 s0 : Nat} {pc : Nat} {L : mLoc} {st : List Value} {D : mHp} {r : Option Value}
theorem m_ret {X : mSc} {en : mEnt} (C : mCx p R s m args meth c G row d0) (hret : meth.sig.returnType = row.2.2.2.2.1) (hlk : meth.locks = false) (hd : decode row.2.2.1 pc = .ok (en.1, en.2.1)) (he : mEck row en = true) (h : mStep X row en pc L st D = some (.inr (.inl r))) :
    mK p l e R s m args below meth c (MQ below (mQc G r D) args s (D.length - d0) (mSl D - s0) (mA G)) G row.2.2.2.1 d0 s0 pc L st D := by
  intro ls H locs cells slots hL hP hS hc hs
  obtain ⟨hx, hb, hml, hown, hts, hE, -, hz, hfr, hlo⟩ := C
  have ec : cells = D.length - d0 := by omega
  have es : slots = mSl D - s0 := by omega
  subst ec
  subst es
  have hlen : mLnk' en.1 en.2.1 = true := by
    unfold mEck at he
    rw [Bool.and_eq_true] at he
    exact he.1
  have hend : ∀ t : State, t.heap = H → s.WarmedH t.vm → mQc G r D args s (.returned (r.map (mV G))) t := fun t ht hW => ⟨rfl, by rw [ht]; exact hP, hS.F ht⟩
  rcases mStep_out.1 r h with ⟨h1, x, ty, rfl, hty, hn, rfl⟩ | ⟨h1, x, rfl, hty, rfl⟩ | ⟨h1, x, Cn, rfl, hty, rfl⟩ | ⟨h1, rfl, hty, rfl⟩
  · rw [h1] at hd hlen
    rw [mLen_of hlen rfl] at hd
    exact W.zret hx hb (hret.trans hty) hn hend hS.2.2 hd hlk
  · rw [h1] at hd hlen
    rw [mLen_of hlen rfl] at hd
    exact W.lret hx hb (hret.trans hty) hend hS.2.2 hd hlk
  · rw [h1] at hd hlen
    rw [mLen_of hlen rfl] at hd
    exact W.aret hx hb (hret.trans hty) (Or.inl ⟨Cn, rfl⟩) (Or.inr ⟨_, rfl⟩) hend hS.2.2 hd hlk
  · rw [h1] at hd hlen
    rw [mLen_of hlen rfl] at hd
    exact W.vret hx hb (hret.trans hty) hend hS.2.2 hd hlk
end MSF
end
section
theorem mNi_ck : mLT.all (fun q => !(Nat.beq q.2.2.1 14 || Nat.beq q.2.2.1 15) || match mMet q.2.2.2.1 with
    | some r => decide (r.2.2.2.2.1 = none)
    | none => true) = true := by decide +kernel
def mSimAt (l : Launch) (G : mG) (X : mSc) (n : Nat) : Prop :=
  ∀ (mid pc : Nat) (L : mLoc) (st : List Value) (D : mHp) (r : Option Value) (Df : mHp), mRun X n mid pc L st D = some (r, Df) → Df.length ≤ 1000000 →
  ∀ (p : Program) (e : Env) (R : Room) (s : State) (m : MethodId) (args : Array Value) (below : List Frame) (meth : Method) (c : Code) (Q : State → Prop) (row : mRow) (d0 s0 : Nat), mMet mid = some row → mCx p R s m args meth c G row d0 → Df.length ≤ R.cells + d0 → mSl Df ≤ R.slots + s0 →
  (∀ (pc : Nat) (L : mLoc) (st : List Value) (en : mEnt), mStep X row en pc L st Df = some (.inr (.inl r)) → decode row.2.2.1 pc = .ok (en.1, en.2.1) → mEck row en = true → mK p l e R s m args below meth c Q G row.2.2.2.1 d0 s0 pc L st Df) →
  mK p l e R s m args below meth c Q G row.2.2.2.1 d0 s0 pc L st D
/-- a method's contract out of the run of its body -/
theorem m_met {l : Launch} {G : mG} {X : mSc} {n : Nat} (ih : mSimAt l G X n) {mid : Nat} {row : mRow} {as : List Value} {D : mHp} {r : Option Value} {D' : mHp} (hr : mMet mid = some row) (h5 : row.1 ≠ 5) (h6 : Nat.ble row.1 6 = true) (hc : ∀ w ∈ as, w.category = 1) (hn : as.length ≤ row.2.2.2.1)
    (h : mRun X n mid 0 (mEnv row.2.2.2.1 as) [] D = some (r, D')) (hlim : D'.length ≤ 1000000) : mMt l G row as D r D' := by
  obtain ⟨hpl, hcl, -, -, -⟩ := mM_at hr h6 h5
  obtain ⟨hle, hls⟩ := mRun_mono _ _ _ _ _ _ _ h
  refine Met.ofW (cc := row.2.2.1) (maxL := row.2.2.2.1) (ret := row.2.2.2.2.1) hpl rfl ?_
  intro p e s m args below meth c s₁ B hml hv
  obtain ⟨rfl, hsz, hP, hE⟩ := hv
  have hts := atoms_spec (ws := Cond.code row.2.1 row.2.2.1 row.2.2.2.1 row.2.2.2.2.1 :: mGW) B.pre
  have hown : s.vm.findClass row.2.1.cls = some m.cls := findClass_of_methodNamed B.named
  have hnm : meth.name = row.2.1.name := (name_of_methodNamed B.named B.method).1
  have hcm : ∀ w ∈ as.map (mV G), w.category = 1 := fun w hw => by
    obtain ⟨u, hu, rfl⟩ := List.mem_map.mp hw
    rw [mV_cat]
    exact hc u hu
  have hl := lv_entry (as.map (mV G)) (n := row.2.2.2.1) (by rw [lg_sl1 _ hcm, List.length_map]; exact hn)
  rw [lg_entry_eq]
  generalize (lg_sl (as.map (mV G)) ++ List.replicate (row.2.2.2.1 - (lg_sl (as.map (mV G))).length) Slot.unset).toArray = ls at hl ⊢
  have C : mCx p ({ frames := row.2.2.2.2.2.1, cells := D'.length - D.length, slots := mSl D' - mSl D, locals := row.2.2.2.2.2.2 }) s m (as.map (mV G)).toArray meth c G row D.length :=
    ⟨B.exec, B.bytes, hml, by rw [← hcl]; exact hown, fun w hw => hts w (List.mem_cons_of_mem _ hw), hE, fun e => hnm.trans e, hsz, Nat.le_refl _, Nat.le_refl _⟩
  have K := ih mid 0 (mEnv row.2.2.2.1 as) [] D r D' h hlim p e _ s m (as.map (mV G)).toArray below meth c (MQ below (mQc G r D') (as.map (mV G)).toArray s (D'.length - D.length) (mSl D' - mSl D) (mA G)) row D.length (mSl D) hr C (by show _ ≤ (D'.length - D.length) + D.length; omega) (by show _ ≤ (mSl D' - mSl D) + mSl D; omega)
    (fun pc L st en hst hd he => m_ret C B.returns B.notSynchronized hd he hst)
  exact K ls s.heap [] 0 0 (mEnv_LR hc hn hl) hP va_S.rf (by omega) (by omega)
theorem m_sim (l : Launch) (G : mG) (X : mSc) (hG : G.2.2.2.2 = X) (HS : mSO l G) : ∀ n, mSimAt l G X n := by
  intro n
  induction n with
  | zero => intro mid pc L st D r Df h; cases h
  | succ n ih =>
    intro mid pc L st D r Df h hlim p e R s m args below meth c Q row d0 s0 hrow C hrc hrs hend
    unfold mRun at h
    rw [hrow] at h
    cases hf : mFetch mid pc with
    | none => rw [hf] at h; cases h
    | some en =>
      rw [hf] at h
      dsimp only at h
      obtain ⟨hd, he⟩ := mCk_at (mCk_all mid (mMet_lt hrow)) hrow hf
      cases hst : mStep X row en pc L st D with
      | none => rw [hst] at h; cases h
      | some res =>
        rw [hst] at h
        cases res with
        | inl q =>
          dsimp only at h
          obtain ⟨h1, h2⟩ := mRun_mono _ _ _ _ _ _ _ h
          obtain ⟨h3, h4⟩ := mStep_mono q hst
          dsimp only at h1 h2
          exact m_step hG HS C (by omega) (by omega) (by omega) (by omega) hd he hst (ih mid q.1 q.2.1 q.2.2.1 q.2.2.2 r Df h hlim p e R s m args below meth c Q row d0 s0 hrow C hrc hrs hend)
        | inr res =>
          cases res with
          | inl v =>
            dsimp only at h
            cases h
            exact hend pc L st en hst hd he
          | inr x =>
            dsimp only at h
            cases hm : mMet x.1 with
            | none => rw [hm] at h; cases h
            | some rr =>
              rw [hm] at h
              dsimp only at h
              obtain ⟨hnb, h⟩ := mCond_eq h
              have hnb := Nat.le_of_ble_eq_true hnb
              split at h
              · rename_i z hz
                obtain ⟨r1, D1⟩ := z
                dsimp only at h
                obtain ⟨h1, h2⟩ := mRun_mono _ _ _ _ _ _ _ hz
                obtain ⟨h3, h4⟩ := mRun_mono _ _ _ _ _ _ _ h
                dsimp only at h1 h2 h3 h4
                have k := ih mid (pc + 3) L (r1.toList ++ x.2.2) D1 r Df h hlim p e R s m args below meth c Q row d0 s0 hrow C hrc hrs hend
                rcases mStep_out.2 x hst with ⟨⟨idx, hi⟩, hcall⟩ | ⟨hi, hcall⟩
                · obtain ⟨hx, hb1, hc1, hwt, -, n0, n1, n2, n3, n4, n5⟩ := mCall_eq hcall
                  subst hx
                  obtain ⟨ins, len, j, kind, a, b, z⟩ := en
                  dsimp only at hi
                  subst hi
                  obtain ⟨hkd, hL0, hrm⟩ := mEck_at he rfl
                  have hlen : len = 3 := by
                    unfold mEck at he
                    rw [Bool.and_eq_true] at he
                    exact mLen_of he.1 rfl
                  subst hlen
                  simp only [mKd, Bool.or_eq_true] at hkd
                  have hk : kind = 12 ∨ kind = 13 := by
                    rcases hkd with (((hkd | hkd) | hkd) | hkd) | hkd
                    · exact Or.inl (Nat.eq_of_beq_eq_true hkd)
                    · exact Or.inr (Nat.eq_of_beq_eq_true hkd)
                    · exact absurd (Nat.eq_of_beq_eq_true hkd) n1
                    · exact absurd (Nat.eq_of_beq_eq_true hkd) n4
                    · exact absurd (Nat.eq_of_beq_eq_true hkd) n5
                  have hrm' : mRm row kind a = true := by
                    rcases hrm with h9 | h9
                    · have := Nat.blt_eq.mp h9
                      dsimp only at this
                      omega
                    · exact h9
                  obtain ⟨rr', hrr', -, -, r5, r6⟩ := mRm_at (by omega) hrm'
                  have e9 : rr' = rr := Option.some.inj (hrr'.symm.trans hm)
                  subst e9
                  exact c_static hk C (by omega) (by omega) h1 h2 hrm' hL0 hd hb1 hwt (fun row' hrow' => by
                    have e8 : row' = rr' := Option.some.inj (hrow'.symm.trans hm)
                    subst e8
                    refine m_met ih hm r5 r6 (fun w hw => mC1_cat hc1 w (List.mem_reverse.mp hw)) hnb hz (by omega)) k
                · obtain ⟨hx, hb1, hc1, hwt, hrv, n0, n1, n2, n3, n4, n5⟩ := mCall_eq hcall
                  subst hx
                  obtain ⟨ins, len, j, kind, a, b, z⟩ := en
                  dsimp only at hi
                  have hfin : ∀ idx, mKi ins = some idx → (kind = 10 ∨ kind = 11 ∨ kind = 14 ∨ kind = 15) → (((kind = 10 ∨ kind = 11) ∧ decode row.2.2.1 pc = .ok (.invokevirtual idx, 3)) ∨ ((kind = 14 ∨ kind = 15) ∧ decode row.2.2.1 pc = .ok (.invokespecial idx, 3))) → mK p l e R s m args below meth c Q G row.2.2.2.1 d0 s0 pc L st D := by
                    intro idx hki hk hd2
                    obtain ⟨hkd, hL0, hrm⟩ := mEck_at he hki
                    dsimp only at hL0 hrm
                    have hrm' : mRm row kind a = true := by
                      rcases hrm with h9 | h9
                      · have := Nat.blt_eq.mp h9
                        omega
                      · exact h9
                    obtain ⟨rr', hrr', -, -, r5, r6⟩ := mRm_at (by omega) hrm'
                    have e9 : rr' = rr := Option.some.inj (hrr'.symm.trans hm)
                    subst e9
                    refine c_inst hk C (by omega) (by omega) h1 h2 (by omega) hrm' hL0 ?_ hb1 hwt (hrv rfl) (fun row' hrow' => by
                      have e8 : row' = rr' := Option.some.inj (hrow'.symm.trans hm)
                      subst e8
                      exact m_met ih hm r5 r6 (fun w hw => mC1_cat hc1 w (List.mem_reverse.mp hw)) hnb hz (by omega)) k
                    rcases hd2 with h9 | ⟨h9, h8⟩
                    · exact Or.inl h9
                    · refine Or.inr ⟨h9, h8, fun row' hrow' => ?_⟩
                      have hq := List.all_eq_true.mp mNi_ck _ (List.mem_of_getElem? hL0)
                      rw [hrow'] at hq
                      rcases h9 with rfl | rfl
                      · simpa using hq
                      · simpa using hq
                  rcases hi with ⟨idx, hi⟩ | ⟨idx, hi⟩
                  · subst hi
                    have hlen : len = 3 := by
                      unfold mEck at he
                      rw [Bool.and_eq_true] at he
                      exact mLen_of he.1 rfl
                    subst hlen
                    obtain ⟨hkd, -, -⟩ := mEck_at he rfl
                    simp only [mKd, Bool.or_eq_true] at hkd
                    have hk : kind = 10 ∨ kind = 11 := by
                      rcases hkd with ((hkd | hkd) | hkd) | hkd
                      · exact Or.inl (Nat.eq_of_beq_eq_true hkd)
                      · exact Or.inr (Nat.eq_of_beq_eq_true hkd)
                      · exact absurd (Nat.eq_of_beq_eq_true hkd) n2
                      · exact absurd (Nat.eq_of_beq_eq_true hkd) n3
                    exact hfin idx rfl (by omega) (Or.inl ⟨hk, hd⟩)
                  · subst hi
                    have hlen : len = 3 := by
                      unfold mEck at he
                      rw [Bool.and_eq_true] at he
                      exact mLen_of he.1 rfl
                    subst hlen
                    obtain ⟨hkd, -, -⟩ := mEck_at he rfl
                    simp only [mKd, Bool.or_eq_true] at hkd
                    have hk : kind = 14 ∨ kind = 15 := by
                      rcases hkd with (hkd | hkd) | hkd
                      · exact Or.inl (Nat.eq_of_beq_eq_true hkd)
                      · exact Or.inr (Nat.eq_of_beq_eq_true hkd)
                      · exact absurd (Nat.eq_of_beq_eq_true hkd) n0
                    exact hfin idx rfl (by omega) (Or.inr ⟨hk, hd⟩)
              · cases h
end
section
/-! ===== the law's entry: what the Statement gives of the start ===== -/
noncomputable def mTm (t : Nat) : Term := .string "EnvyRust$TextReader" (mTk.getD t 0)
noncomputable def mTv (t : Nat) : Term := .field (mTm t) "java/lang/String" "value" "[B"
noncomputable def mNwd (q : Nat × Nat × Nat × Nat) : Cond := match q.2.1 with
  | 0 => .exactly (mTm q.2.2.1) "java/lang/String"
  | 1 => .eq (.field (mTm q.2.2.1) "java/lang/String" "coder" "B") (.int 0)
  | 2 => .arrayOf (mTv q.2.2.1) .byte
  | 3 => .eq (.length (mTv q.2.2.1)) (.int (Int32.ofNat (mTx.getD q.2.2.1 []).length))
  | 4 => .eq (.elem (mTv q.2.2.1) (.int (Int32.ofNat q.2.2.2))) (.int (nI ((mTx.getD q.2.2.1 []).getD q.2.2.2 0)))
  | _ => .eq (mTm q.2.2.1) (.string "EnvyRustModel" q.2.2.2)
theorem mNr_wk : mWalk 0 (flatC (Jvm.Cond.and given_1 narrow_1)) (mNr.map fun q => (q.1, mNwd q)) = true := by decide +kernel
def mNrHas (k t j : Nat) : Nat × Nat × Nat × Nat → Bool := fun q => Nat.beq q.2.1 k && Nat.beq q.2.2.1 t && Nat.beq q.2.2.2 j
theorem mNr_ck : ((List.range 15).all fun t => mNr.any (mNrHas 0 t 0) && mNr.any (mNrHas 1 t 0) && mNr.any (mNrHas 2 t 0) && mNr.any (mNrHas 3 t 0) && mNr.any (mNrHas 5 t (mTk4.getD t 0)) && ((List.range (mTx.getD t []).length).all fun j => mNr.any (mNrHas 4 t j)) && Nat.blt (mTx.getD t []).length 100) = true := by decide +kernel
theorem mNr_at {k t j : Nat} (h : mNr.any (mNrHas k t j) = true) : ∃ i, mNwd (i, k, t, j) ∈ flatC (Jvm.Cond.and given_1 narrow_1) := by
  obtain ⟨q, hq, h1⟩ := List.any_eq_true.mp h
  simp only [mNrHas, Bool.and_eq_true] at h1
  have hm := mWalk_spec mNr_wk _ (List.mem_map.mpr ⟨q, hq, rfl⟩)
  obtain ⟨i, k', t', j'⟩ := q
  have e1 := Nat.eq_of_beq_eq_true h1.1.1
  have e2 := Nat.eq_of_beq_eq_true h1.1.2
  have e3 := Nat.eq_of_beq_eq_true h1.2
  dsimp only at e1 e2 e3
  subst e1
  subst e2
  subst e3
  exact ⟨i, hm⟩
/-- a text's reference: by its place in either class -/
theorem mLT_str : mLT.all (fun q => !Nat.beq q.2.2.1 3 || (Nat.beq q.1 1 && Nat.beq q.2.1 (mTk.getD q.2.2.2.2.1 0)) || (Nat.beq q.1 4 && Nat.beq q.2.1 (mTk4.getD q.2.2.2.2.1 0))) = true := by decide +kernel
theorem mEq_ref {args : Array Value} {s : State} {t u : Term} {a : Nat} (h : (Cond.eq t u).before args s = true) (ht : t.eval args s none [] s = some (.ref a)) : u.eval args s none [] s = some (.ref a) := by
  cases hu : u.eval args s none [] s with
  | none => simp [Cond.before, Cond.holds, Cond.value, ht, hu] at h
  | some w =>
    simp only [Cond.before, Cond.holds, Cond.value, ht, hu] at h
    cases w <;> simp_all
section MST
variable {s : State} {b L : Nat} {xs : Nat → Int32}
theorem mTxt_all (hgv : (Jvm.Cond.and given_1 narrow_1).before #[Value.ref b] s = true) (A : Nat → Prop) (hA : ∀ a : Nat, a < s.heap.size → ¬ A a) : ∀ t : Nat, ∃ q : Nat × Nat, t < 15 → (mTm t).eval #[Value.ref b] s none [] s = some (.ref q.1) ∧ va_O "java/lang/String" q.1 A s s.heap ∧ va_OF "java/lang/String" "coder" "B" (.int 0) q.1 A s s.heap ∧ va_OF "java/lang/String" "value" "[B" (.ref q.2) q.1 A s s.heap ∧
    va_T .byte q.2 (mTx.getD t []).length (fun j => .int (nI ((mTx.getD t []).getD j 0))) A s s.heap ∧ (Term.string "EnvyRustModel" (mTk4.getD t 0)).eval #[Value.ref b] s none [] s = some (.ref q.1) := by
  intro t
  by_cases ht : t < 15
  · have hfl := flat_of_before _ hgv
    have hck := List.all_eq_true.mp mNr_ck t (List.mem_range.mpr ht)
    simp only [Bool.and_eq_true] at hck
    obtain ⟨⟨⟨⟨⟨⟨h0, h1⟩, h2⟩, h3⟩, h5⟩, h4⟩, h6⟩ := hck
    obtain ⟨i0, w0⟩ := mNr_at h0
    obtain ⟨i1, w1⟩ := mNr_at h1
    obtain ⟨i2, w2⟩ := mNr_at h2
    obtain ⟨i3, w3⟩ := mNr_at h3
    obtain ⟨i5, w5⟩ := mNr_at h5
    obtain ⟨a, c, cA, kA, q1, q2, q3, q4, q5, q6, -⟩ := Cond.exactly_spec (args := #[Value.ref b]) (first := s) (o := none) (s := s) (idx := []) (t := mTm t) (cls := "java/lang/String") (hfl _ w0)
    have h6 := Nat.blt_eq.mp h6
    obtain ⟨v, hv, hT⟩ := va_Tof (tm := mTv t) (ty := .byte) (N := (mTx.getD t []).length) (f := fun j => .int (nI ((mTx.getD t []).getD j 0))) (A := A) (by omega) (hfl _ w2) (va_eqt (hfl _ w3)) (fun j hj => by
      obtain ⟨i4, w4⟩ := mNr_at (List.all_eq_true.mp h4 j (List.mem_range.mpr hj))
      exact va_eqt (hfl _ w4)) hA
    exact ⟨(a, v), fun _ => ⟨q1, ⟨cA, q3, q5, by rw [q6]; exact q2, hA a (Array.getElem?_eq_some_iff.mp q3).1⟩, vk_OFof q1 (va_eqt (hfl _ w1)) hA, vk_OFof q1 hv hA, hT, mEq_ref (hfl _ w5) q1⟩⟩
  · exact ⟨(0, 0), fun h => absurd h ht⟩
theorem mArrC_spec {args : Array Value} {type : FieldType} (h : (Cond.arrayClass type).before args s = true) : ∃ (c : ClassId) (k : Class) (comp : ClassId), s.vm.findClass ("[" ++ type.toString) = some c ∧ s.vm.classes[c]? = some k ∧ k.kind = .array comp type := by
  obtain ⟨c, k, comp, h1, h2, h3⟩ := Cond.arrayClass_spec h
  exact ⟨c, k, comp, h1, h2, h3⟩
theorem mKn_all {args : Array Value} (hts : ∀ w ∈ lw_tbl, w.before args s = true) : ∃ (dC : Nat → ClassId) (dI : Nat → Nat → Nat), ∀ (k : Nat) (q : vw_C), vwCl[k]? = some q → u_Kn s q.1 q.2.1 q.2.2 (dC k) (dI k) := by
  have h0 : ∀ a : Nat, ∃ x : ClassId × (Nat → Nat), a < 5 → u_Kn s (mNm a) (mFT a) (mFN a) x.1 x.2 := by
    intro a
    by_cases ha : a < 5
    · obtain ⟨c, iS, h⟩ := u_known (C := mNm a) (T := mFT a) (N := mFN a) (n := mFN a) (fun w hw => hts w (List.mem_filter.mp hw).1) (mU_in ha) (hts _ (List.mem_filter.mp (mNI_in ha).1).1)
      exact ⟨(c, iS), fun _ => h⟩
    · exact ⟨(0, fun _ => 0), fun h => absurd h ha⟩
  obtain ⟨f, hf⟩ := Classical.axiomOfChoice h0
  refine ⟨fun k => (f k).1, fun k => (f k).2, fun k q hq => ?_⟩
  have hk : k < 5 := (List.getElem?_eq_some_iff.mp hq).1
  rw [mCl_ok hk] at hq
  cases hq
  exact hf k hk
theorem mAO_w : Cond.arrayOver (.object "EnvyRust$Sheet") ∈ tables_1 ∧ Cond.arrayOver (.object "java/lang/String") ∈ tables_1 ∧ Cond.arrayOver (.array .int) ∈ tables_1 := ⟨by decide +kernel, by decide +kernel, by decide +kernel⟩
theorem mArr_all {args : Array Value} (hts : ∀ w ∈ lw_tbl, w.before args s = true) : ∃ tc : Nat → ClassId, ∀ (k : Nat) (q : ClassId × FieldType), ([(tc 0, .int), (tc 1, .byte), (tc 2, .object "EnvyRust$Sheet"), (tc 3, .array .int), (tc 4, .object "java/lang/String")] : List (ClassId × FieldType))[k]? = some q → ArrOfT s q.1 q.2 ∧ va_RA s q.1 q.2 := by
  have prim : ∀ ty : FieldType, (ty = .int ∨ ty = .byte) → (Cond.arrayClass ty).before args s = true → ∃ c : ClassId, ArrOfT s c ty ∧ va_RA s c ty := by
    intro ty hty h
    obtain ⟨c, k, comp, h1, h2, h3⟩ := mArrC_spec h
    refine ⟨c, fun n z => ⟨fun q hq => (by cases hq), k, h2, comp, h3⟩, ?_⟩
    rcases hty with rfl | rfl <;> exact h1
  have obj : ∀ C : String, (Cond.arrayOver (.object C)).before args s = true → ∃ c : ClassId, ArrOfT s c (.object C) ∧ va_RA s c (.object C) := by
    intro C h
    obtain ⟨comp, c, k, h1, -, h3, h4, h5⟩ := Cond.arrayOver_spec h
    exact ⟨c, fun n z => ⟨fun q hq => (by cases hq), k, h3, comp, h4⟩, k, comp, h3, h4, h1, h5⟩
  have arr : (Cond.arrayOver (.array .int)).before args s = true → ∃ c : ClassId, ArrOfT s c (.array .int) ∧ va_RA s c (.array .int) := by
    intro h
    obtain ⟨comp, c, k, h1, h3, h4, h5⟩ := Cond.arrayOver_specA h
    exact ⟨c, fun n z => ⟨fun q hq => (by cases hq), k, h3, comp, h4⟩, h5⟩
  obtain ⟨c0, k0⟩ := prim .int (Or.inl rfl) (hts _ (List.mem_filter.mp mAC_i).1)
  obtain ⟨c1, k1⟩ := prim .byte (Or.inr rfl) (hts _ (List.mem_filter.mp mAC_b).1)
  obtain ⟨c2, k2⟩ := obj "EnvyRust$Sheet" (hts _ (mTb_in mAO_w.1))
  obtain ⟨c3, k3⟩ := arr (hts _ (mTb_in mAO_w.2.2))
  obtain ⟨c4, k4⟩ := obj "java/lang/String" (hts _ (mTb_in mAO_w.2.1))
  refine ⟨fun k => match k with
    | 0 => c0
    | 1 => c1
    | 2 => c2
    | 3 => c3
    | _ => c4, fun k q hq => ?_⟩
  match k, hq with
  | 0, hq => cases hq; exact k0
  | 1, hq => cases hq; exact k1
  | 2, hq => cases hq; exact k2
  | 3, hq => cases hq; exact k3
  | 4, hq => cases hq; exact k4
  | k + 5, hq => simp at hq
theorem mST_w : Cond.laysStatic "EnvyRust" "KIND_ABOVE" "[I" ∈ tables_1 ∧ Cond.initialized "EnvyRust" ∈ tables_1 ∧ Cond.laysStatic "java/lang/String" "COMPACT_STRINGS" "Z" ∈ tables_1 ∧ Cond.initialized "java/lang/String" ∈ tables_1 ∧ Cond.laysStatic "jdk/internal/util/Preconditions" "SIOOBE_FORMATTER" "Ljava/util/function/BiFunction;" ∈ tables_1 ∧ Cond.initialized "jdk/internal/util/Preconditions" ∈ tables_1 :=
  ⟨by decide +kernel, by decide +kernel, by decide +kernel, by decide +kernel, by decide +kernel, by decide +kernel⟩
def mKst : Term := .static "EnvyRust" "KIND_ABOVE" "[I"
noncomputable def mNA : List Cond := [.arrayOf mKst .int, .eq (.length mKst) (.int (Int32.ofNat 7)), .eq (.static "java/lang/String" "COMPACT_STRINGS" "Z") (.int 1), .isRef (.static "jdk/internal/util/Preconditions" "SIOOBE_FORMATTER" "Ljava/util/function/BiFunction;")] ++ (List.range 7).map (fun j => Cond.eq (.elem mKst (.int (Int32.ofNat j))) (.int (mKA j)))
theorem mNA_w : mNA.all (fun w => decide (w ∈ flatC (Jvm.Cond.and given_1 narrow_1))) = true := by decide +kernel
theorem mStart_E (hts : ∀ w ∈ lw_tbl, w.before #[Value.ref b] s = true) (hX : va_X b L xs s s.heap) (hbl : b < s.heap.size) (hL : L ≤ 3072) (hgv : (Jvm.Cond.and given_1 narrow_1).before #[Value.ref b] s = true) :
    ∃ G : mG, G.1 = s.heap.size ∧ G.2.2.2.2 = (L, xs) ∧ G.2.1 200 = b ∧ mE G s s.heap := by
  have hA : ∀ a : Nat, a < s.heap.size → ¬ (fun q : Nat => s.heap.size ≤ q) a := fun a h => Nat.not_le.mpr h
  have hfl := flat_of_before _ hgv
  have hna : ∀ w ∈ mNA, w.before #[Value.ref b] s = true := fun w hw => hfl _ (of_decide_eq_true (List.all_eq_true.mp mNA_w w hw))
  obtain ⟨tx, htx⟩ := Classical.axiomOfChoice (mTxt_all hgv _ hA)
  obtain ⟨dC, dI, hKn⟩ := mKn_all hts
  obtain ⟨tc, htc⟩ := mArr_all hts
  obtain ⟨ka, hka, hkT⟩ := va_Tof (tm := mKst) (ty := .int) (N := 7) (f := fun j => .int (mKA j)) (A := fun q : Nat => s.heap.size ≤ q) (by decide) (hna _ (by simp [mNA])) (va_eqt (hna _ (by simp [mNA]))) (fun j hj => va_eqt (hna _ (List.mem_append_right _ (List.mem_map.mpr ⟨j, List.mem_range.mpr hj, rfl⟩)))) hA
  let ro : Nat → Nat := fun i => if i = 100 then ka else if i = 200 then b else if 300 ≤ i then (tx (i - 300)).2 else (tx i).1
  have ro1 : ∀ t, t < 15 → ro t = (tx t).1 := fun t ht => by
    show (if t = 100 then ka else if t = 200 then b else if 300 ≤ t then _ else _) = _
    rw [if_neg (by omega), if_neg (by omega), if_neg (by omega)]
  have ro3 : ∀ t, t < 15 → ro (300 + t) = (tx t).2 := fun t ht => by
    show (if 300 + t = 100 then ka else if 300 + t = 200 then b else if 300 ≤ 300 + t then (tx (300 + t - 300)).2 else _) = _
    rw [if_neg (by omega), if_neg (by omega), if_pos (by omega), Nat.add_sub_cancel_left]
  refine ⟨(s.heap.size, ro, (dC, dI), tc, (L, xs)), rfl, rfl, rfl, ⟨hKn, fun k q hq => htc k q hq⟩, fun w hw => ?_, ⟨hts _ (mTb_in mAO_w.1), hts _ (mTb_in mAO_w.2.1), hts _ (mTb_in mAO_w.2.2)⟩, fun t ht => ?_, fun q hq hk => ?_, ?_, hkT, ?_, ?_, ?_⟩
  · have hm := List.mem_filter.mp hw
    have hk := hm.2
    unfold mNest at hk
    split at hk
    · exact va_Nw.of rfl (hts _ hm.1)
    · exact va_Nw.of rfl (hts _ hm.1)
    · cases hk
  · show va_O "java/lang/String" (ro t) _ s s.heap ∧ va_OF "java/lang/String" "coder" "B" (.int 0) (ro t) _ s s.heap ∧ va_OF "java/lang/String" "value" "[B" (.ref (ro (300 + t))) (ro t) _ s s.heap ∧ va_T .byte (ro (300 + t)) _ _ _ s s.heap
    rw [ro1 t ht, ro3 t ht]
    obtain ⟨-, h1, h2, h3, h4, -⟩ := htx t ht
    exact ⟨h1, h2, h3, h4⟩
  · obtain ⟨hw, hck⟩ := mLT_at (q := q) (List.getElem?_of_mem hq).choose_spec
    obtain ⟨oc, idx, kd, a, bb, z⟩ := q
    dsimp only at hk
    subst hk
    simp only [mLck] at hck
    have hb15 : bb < 15 := Nat.blt_eq.mp hck
    have hs := List.all_eq_true.mp mLT_str _ hq
    simp only [Bool.or_eq_true, Bool.and_eq_true] at hs
    obtain ⟨h0, -, -, -, -, h5⟩ := htx bb hb15
    refine vk_R.of (A := #[Value.ref b]) (hts _ (mTb_in hw)) ?_
    show (Term.string (mNm oc) idx).eval #[Value.ref b] s none [] s = some (.ref (ro bb))
    rw [ro1 bb hb15]
    rcases hs with (hs | ⟨e1, e2⟩) | ⟨e1, e2⟩
    · cases hs
    · have e1 := Nat.eq_of_beq_eq_true e1
      have e2 := Nat.eq_of_beq_eq_true e2
      subst e1
      rw [e2]
      exact h0
    · have e1 := Nat.eq_of_beq_eq_true e1
      have e2 := Nat.eq_of_beq_eq_true e2
      subst e1
      rw [e2]
      exact h5
  · exact va_Zref (hts _ (mTb_in mST_w.1)) (hts _ (mTb_in mST_w.2.1)) hka hA
  · obtain ⟨scr, h1, h2, h3, h4, h5⟩ := hX
    exact ⟨scr, h1, h2, h3, by show L ≤ _; omega, by rw [h4] <;> rfl, fun j hj => h5 j hj, hA b hbl⟩
  · exact va_Zof (hts _ (mTb_in mST_w.2.2.1)) (hts _ (mTb_in mST_w.2.2.2.1)) (va_eqt (hna _ (by simp [mNA]))) hA
  · exact va_Zqof (hts _ (mTb_in mST_w.2.2.2.2.1)) (hts _ (mTb_in mST_w.2.2.2.2.2)) (hna _ (by simp [mNA])) hA
end MST
end
section
/-! ===== the texts' own members, walked: mSO ===== -/
def tyCod : MethodName := ⟨"java/lang/String", "coder", "()B"⟩
def tyLat : MethodName := ⟨"java/lang/String", "isLatin1", "()Z"⟩
def tyChk : MethodName := ⟨"java/lang/String", "checkIndex", "(II)V"⟩
def tyLch : MethodName := ⟨"java/lang/StringLatin1", "charAt", "([BI)C"⟩
def tyPre : MethodName := ⟨"jdk/internal/util/Preconditions", "checkIndex", "(IILjava/util/function/BiFunction;)I"⟩
theorem t_codes : Cond.code tyCod prog_9_method_152_code 1 (some .byte) ∈ tables_1 ∧ Cond.code tyLat prog_9_method_154_code 1 (some .boolean) ∈ tables_1 ∧ Cond.code tyChk prog_9_method_155_code 2 none ∈ tables_1 ∧ Cond.code tyLch prog_10_method_2_code 2 (some .char) ∈ tables_1 ∧ Cond.code tyPre prog_13_method_11_code 3 (some .int) ∈ tables_1 :=
  ⟨mM_code (show mMet mIdCod = some (8, tyCod, prog_9_method_152_code, 1, some .byte, 0, 0) from rfl) (by decide), mM_code (show mMet mIdLat = some (8, tyLat, prog_9_method_154_code, 1, some .boolean, 0, 0) from rfl) (by decide), mM_code (show mMet mIdChk = some (8, tyChk, prog_9_method_155_code, 2, none, 0, 0) from rfl) (by decide), mM_code (show mMet mIdLch = some (9, tyLch, prog_10_method_2_code, 2, some .char, 0, 0) from rfl) (by decide), mM_code (show mMet mIdPre = some (11, tyPre, prog_13_method_11_code, 3, some .int, 0, 0) from rfl) (by decide)⟩
noncomputable def tWs : List Cond := [.fieldLink "java/lang/String" 9 "java/lang/String" "value" "[B", .fieldLink "java/lang/String" 15 "java/lang/String" "coder" "B", .fieldLink "java/lang/String" 38 "java/lang/String" "COMPACT_STRINGS" "Z", .fieldLink "java/lang/String" 1053 "jdk/internal/util/Preconditions" "SIOOBE_FORMATTER" "Ljava/util/function/BiFunction;",
  .methodLink "java/lang/String" 335 tyCod, .instanceMethod tyCod, .selects "java/lang/String" tyCod tyCod, .methodLink "java/lang/String" 492 tyLat, .instanceMethod tyLat, .selects "java/lang/String" tyLat tyLat,
  .methodLink "java/lang/String" 495 tyLch, .static tyLch, .initialized "java/lang/StringLatin1", .methodLink "java/lang/StringLatin1" 9 tyChk, .static tyChk, .initialized "java/lang/String", .methodLink "java/lang/String" 1059 tyPre, .static tyPre, .initialized "jdk/internal/util/Preconditions"]
theorem tWs_ok : tWs.all (fun w => decide (w ∈ tables_1) && goodWord w) = true := by decide +kernel
theorem tWs_gw {w : Cond} (h : w ∈ tWs) : w ∈ mGW := by
  have h1 := List.all_eq_true.mp tWs_ok w h
  rw [Bool.and_eq_true, decide_eq_true_eq] at h1
  exact mTb_gw h1.1 h1.2
theorem tTx_lt : mTx.all (fun x => x.all fun k => Nat.blt k 128) = true := by decide +kernel
theorem tNi_ck : (List.range 128).all (fun k => decide ((nI k) &&& (Int16.ofInt 255).toInt32 = nI k) && decide (((nI k).toUInt32 % 65536).toInt32 = nI k) && decide (narrow .char (.int (nI k)) = .int (nI k))) = true := by decide +kernel
theorem tTx_at {t : Nat} (j : Nat) : (mTx.getD t []).getD j 0 < 128 := by
  rw [List.getD_eq_getElem?_getD, List.getD_eq_getElem?_getD]
  cases h1 : mTx[t]? with
  | none => simp
  | some x =>
    cases h2 : x[j]? with
    | none => simp [h2]
    | some k =>
      have h3 := List.all_eq_true.mp (List.all_eq_true.mp tTx_lt x (List.mem_of_getElem? h1)) k (List.mem_of_getElem? h2)
      simpa [h2] using h3
theorem tNi {k : Nat} (h : k < 128) : (nI k) &&& (Int16.ofInt 255).toInt32 = nI k ∧ ((nI k).toUInt32 % 65536).toInt32 = nI k ∧ narrow .char (.int (nI k)) = .int (nI k) := by
  have h1 := List.all_eq_true.mp tNi_ck k (List.mem_range.mpr h)
  simp only [Bool.and_eq_true, decide_eq_true_eq] at h1
  exact ⟨h1.1.1, h1.1.2, h1.2⟩
def tQ (v : Option Value) : Array Value → State → Outcome → State → Prop := fun _ st oc u => oc = .returned v ∧ u.heap = st.heap
/-- where the walk of such a member stands -/
def tCx (p : Program) (s : State) (m : MethodId) (args : Array Value) (meth : Method) (c : Code) (G : mG) (cls : String) (cc : ByteArray) (nL : Nat) (ret : Option FieldType) : Prop :=
  p.tables.exec = Jvm.exec ∧ c.code = cc ∧ c.maxLocals = nL ∧ s.vm.findClass cls = some m.cls ∧ (∀ w ∈ mGW, w.before args s = true) ∧ mE G s s.heap ∧ meth.sig.returnType = ret ∧ meth.locks = false
theorem t_met {l : Launch} {y : MethodName} {bytes : ByteArray} {maxL : Nat} {ret : Option FieldType} {rm : Room} {G : mG} {as : List Value} {v : Option Value} (hpl : plainName y.cls = true) (hc : ∀ w ∈ as, w.category = 1) (hn : as.length ≤ maxL)
    (body : ∀ (p : Program) (e : Env) (s : State) (m : MethodId) (below : List Frame) (meth : Method) (c : Code) (ls : Array Slot), tCx p s m as.toArray meth c G y.cls bytes maxL ret → ls.size = maxL → (∀ (i : Nat) (v : Value), as[i]? = some v → ls[i]? = some (.val v)) →
      W p l e rm s m as.toArray below meth c s.heap [] 0 0 (MQ below (tQ v) as.toArray s 0 0 (fun _ => False)) (F0 m 0 ls [])) :
    Met l y (Cond.code y bytes maxL ret :: mGW) rm (va_Pc as (fun U => mE G U U.heap)) (tQ v) 0 0 (fun _ => False) := by
  refine Met.ofW (cc := bytes) (maxL := maxL) (ret := ret) hpl rfl ?_
  intro p e s m args below meth c s₁ B hml hv
  obtain ⟨rfl, hE⟩ := hv
  have hts := atoms_spec (ws := Cond.code y bytes maxL ret :: mGW) B.pre
  have hl := lv_entry as (n := maxL) (by rw [lg_sl1 _ hc]; exact hn)
  rw [lg_entry_eq]
  have hl2 : ((lg_sl as ++ List.replicate (maxL - (lg_sl as).length) Slot.unset).toArray).size = maxL := hl.1
  refine body p e s m below meth c _ ⟨B.exec, B.bytes, hml, findClass_of_methodNamed B.named, fun w hw => hts w (List.mem_cons_of_mem _ hw), hE, B.returns, B.notSynchronized⟩ hl2 (fun i v hi => ?_)
  have := lv_args1 as 0 i v hc hi
  rw [Nat.zero_add] at this
  exact hl.2.2 _ this
section TXR
variable {p : Program} {l : Launch} {e : Env} {R : Room} {s : State} {m : MethodId} {args : Array Value} {below : List Frame} {meth : Method} {c : Code} {Q : State → Prop} {H : Heap} {locs : List Loc} {cells slots : Nat} {pc : Nat} {ls : Array Slot}
theorem m_run1 {v : Option Value} {st0 rest : List Value} (run : va_Run p l e R s m args below meth c H locs cells slots 0 0 (F0 m pc ls st0) rest (fun st oc u => oc = .returned v ∧ u.heap = st.heap) (fun _ => False)) (k : W p l e R s m args below meth c H locs cells slots Q (F0 m (pc + 3) ls (v.toList ++ rest))) : W p l e R s m args below meth c H locs cells slots Q (F0 m pc ls st0) := by
  intro T hT X
  obtain ⟨v', st₀, t, T', L', h0, X', hL', e1, e2, ⟨hv, hh⟩, st⟩ := run T hT X
  cases hv
  have hLn : L' = [] := List.eq_nil_iff_forall_not_mem.mpr fun q hq => hL' q hq
  subst hLn
  rw [List.append_nil] at X'
  obtain ⟨t2, a1, b1⟩ := k T' (by rw [e1, hh, h0]) X'
  exact ⟨t2, st t2 a1, b1⟩
end TXR
section TXW
variable {p : Program} {l : Launch} {e : Env} {R : Room} {s : State} {m : MethodId} {args : Array Value} {below : List Frame} {meth : Method} {c : Code} {Q : State → Prop} {G : mG} {pc : Nat} {ls : Array Slot} {rest : List Value} {cls : String} {cc : ByteArray} {nL : Nat} {ret : Option FieldType} {t : Nat}
theorem tCx.w (C : tCx p s m args meth c G cls cc nL ret) {w : Cond} (h : w ∈ tWs) : w.before args s = true := C.2.2.2.2.1 w (tWs_gw h)
theorem t_ret (C : tCx p s m args meth c G cls cc nL ret) {v : Int32} {ty : FieldType} (hty : ret = some ty) (hn : narrow ty (.int v) = .int v) (hd : decode cc pc = .ok (.ireturn, 1)) : W p l e R s m args below meth c s.heap [] 0 0 (MQ below (tQ (some (.int v))) args s 0 0 (fun _ => False)) (F0 m pc ls [.int v]) :=
  W.zret C.1 C.2.1 (C.2.2.2.2.2.2.1.trans hty) hn (fun t ht _ => ⟨rfl, ht⟩) (fun _ h => by cases h) hd C.2.2.2.2.2.2.2
theorem t_getf (C : tCx p s m args meth c G "java/lang/String" cc nL ret) (ht : t < 15) {idx : Nat} {n d : String} {v : Value} (hw : Cond.fieldLink "java/lang/String" idx "java/lang/String" n d ∈ tWs) (hv : va_OF "java/lang/String" n d v (G.2.1 t) (mA G) s s.heap) (hd : decode cc pc = .ok (.getfield idx, 3))
    (k : W p l e R s m args below meth c s.heap [] 0 0 Q (F0 m (pc + 3) ls (v :: rest))) : W p l e R s m args below meth c s.heap [] 0 0 Q (F0 m pc ls (.ref (G.2.1 t) :: rest)) :=
  vk_getf C.1 C.2.1 hv va_S.rf C.2.2.2.1 (C.w hw) (fun _ h => h) hd k
theorem t_comp (C : tCx p s m args meth c G "java/lang/String" cc nL ret) (hd : decode cc pc = .ok (.getstatic 38, 3))
    (k : W p l e R s m args below meth c s.heap [] 0 0 Q (F0 m (pc + 3) ls (.int 1 :: rest))) : W p l e R s m args below meth c s.heap [] 0 0 Q (F0 m pc ls rest) :=
  va_gets C.1 C.2.1 C.2.2.2.2.2.1.2.2.2.2.2.2.2.2.1 va_S.rf C.2.2.2.1 (C.w (by simp [tWs])) (fun _ h => h) hd k
/-- a call of such a member -/
theorem t_callV (C : tCx p s m args meth c G cls cc nL ret) (ht : t < 15) {y : MethodName} {bytes : ByteArray} {maxL n idx : Nat} {r2 : Option FieldType} {rm : Room} {As : List Value} {v : Option Value} (hM : Met l y (Cond.code y bytes maxL r2 :: mGW) rm (va_Pc (.ref (G.2.1 t) :: As) (fun U => mE G U U.heap)) (tQ v) 0 0 (fun _ => False))
    (hcode : Cond.code y bytes maxL r2 ∈ tables_1) (hy : y.cls = "java/lang/String") (hl : Cond.methodLink cls idx y ∈ tWs) (hi : Cond.instanceMethod y ∈ tWs) (hs : Cond.selects "java/lang/String" y y ∈ tWs) (hrm : rm.cells = 0 ∧ rm.slots = 0 ∧ rm.frames + 1 ≤ R.frames ∧ 8 + (maxL + 11) + rm.locals ≤ R.locals) (hn : As.length = n)
    (h9 : (parseMethodDescriptor y.desc).map (fun d => d.parameters.length) = some n) (hsz : ls.size = nL) (hwt : (rest.map fun v => v.category).sum ≤ 8) (hd : decode cc pc = .ok (.invokevirtual idx, 3))
    (k : W p l e R s m args below meth c s.heap [] 0 0 Q (F0 m (pc + 3) ls (v.toList ++ rest))) : W p l e R s m args below meth c s.heap [] 0 0 Q (F0 m pc ls (As.reverse ++ .ref (G.2.1 t) :: rest)) := by
  have hE := C.2.2.2.2.2.1
  have hts := C.2.2.2.2.1
  refine m_run1 (va_runV (As := As) (C := "java/lang/String") (n := n) (Ts := mGW) ⟨C.1, C.2.1, C.2.2.1, C.2.2.2.1, hts⟩ hM
        ⟨⟨hrm.1, hrm.2.1, hrm.2.2.1, hrm.2.2.2, pay_in hts (mGood_c hcode rfl), List.mem_cons_self, hts _ (mTb_gw hcode rfl), by rw [hy]; exact C.w (by simp [tWs]), by rw [hy]; exact ⟨by decide +kernel, by decide +kernel⟩, fun sig hsig => by
          rw [hsig] at h9
          exact (Option.some.inj h9).symm, C.w hl⟩, C.w hi, C.w hs⟩
        ⟨fun a U g mk hq => ⟨hq.1, mE_calling hq.2⟩, mStr_recv hE ht va_S.rf, fun U hU hW => ⟨rfl, mE_call hE hW hU va_S.rf⟩⟩ rfl hn hsz rfl (lv_room hwt) hd ⟨Nat.zero_le _, Nat.zero_le _⟩) k
theorem t_callS (C : tCx p s m args meth c G cls cc nL ret) {y : MethodName} {bytes : ByteArray} {maxL n idx : Nat} {r2 : Option FieldType} {rm : Room} {As : List Value} {v : Option Value} (hM : Met l y (Cond.code y bytes maxL r2 :: mGW) rm (va_Pc As (fun U => mE G U U.heap)) (tQ v) 0 0 (fun _ => False))
    (hcode : Cond.code y bytes maxL r2 ∈ tables_1) (hy : y.cls ≠ "java/lang/invoke/MethodHandle" ∧ y.cls ≠ "java/lang/invoke/VarHandle") (hl : Cond.methodLink cls idx y ∈ tWs) (hi : Cond.static y ∈ tWs) (hini : Cond.initialized y.cls ∈ tWs) (hrm : rm.cells = 0 ∧ rm.slots = 0 ∧ rm.frames + 1 ≤ R.frames ∧ 8 + (maxL + 11) + rm.locals ≤ R.locals) (hn : As.length = n)
    (h9 : (parseMethodDescriptor y.desc).map (fun d => d.parameters.length) = some n) (hsz : ls.size = nL) (hwt : (rest.map fun v => v.category).sum ≤ 8) (hd : decode cc pc = .ok (.invokestatic idx, 3))
    (k : W p l e R s m args below meth c s.heap [] 0 0 Q (F0 m (pc + 3) ls (v.toList ++ rest))) : W p l e R s m args below meth c s.heap [] 0 0 Q (F0 m pc ls (As.reverse ++ rest)) := by
  have hE := C.2.2.2.2.2.1
  have hts := C.2.2.2.2.1
  refine m_run1 (va_runS (As := As) (n := n) (Ts := mGW) ⟨C.1, C.2.1, C.2.2.1, C.2.2.2.1, hts⟩ hM
        ⟨⟨hrm.1, hrm.2.1, hrm.2.2.1, hrm.2.2.2, pay_in hts (mGood_c hcode rfl), List.mem_cons_self, hts _ (mTb_gw hcode rfl), C.w hini, hy, fun sig hsig => by
          rw [hsig] at h9
          exact (Option.some.inj h9).symm, C.w hl⟩, C.w hi⟩
        ⟨fun a U g mk hq => ⟨hq.1, mE_calling hq.2⟩, fun U hU hW => ⟨rfl, mE_call hE hW hU va_S.rf⟩⟩ rfl hn hsz rfl (lv_room hwt) hd ⟨Nat.zero_le _, Nat.zero_le _⟩) k
end TXW
theorem t_cod (l : Launch) (G : mG) {t : Nat} (ht : t < 15) : Met l tyCod (Cond.code tyCod prog_9_method_152_code 1 (some .byte) :: mGW) ({ frames := 0, cells := 0, slots := 0, locals := 0 }) (va_Pc [.ref (G.2.1 t)] (fun U => mE G U U.heap)) (tQ (some (.int 0))) 0 0 (fun _ => False) := by
  refine t_met (by decide +kernel) (by simp [Value.category]) (by simp) ?_
  intro p e s m below meth c ls C hsz hls
  replace C : tCx p s m _ meth c G "java/lang/String" _ _ _ := C
  have h0 := hls 0 _ rfl
  refine t_comp C (by decide +kernel) ?_
  refine lv_if_eq (tgt := 13) C.1 C.2.1 (off := 10) (by decide +kernel) rfl (fun h => by cases h) (fun _ => ?_)
  refine lv_aload_n C.1 C.2.1 (k := 0) (by decide +kernel) rfl h0 ?_
  refine t_getf C ht (idx := 15) (by simp [tWs]) (C.2.2.2.2.2.1.2.2.2.1 t ht).2.1 (by decide +kernel) ?_
  refine lv_goto (tgt := 14) C.1 C.2.1 (off := 4) (by decide +kernel) rfl ?_
  exact t_ret C rfl rfl (by decide +kernel)
theorem t_lat (l : Launch) (G : mG) {t : Nat} (ht : t < 15) : Met l tyLat (Cond.code tyLat prog_9_method_154_code 1 (some .boolean) :: mGW) ({ frames := 0, cells := 0, slots := 0, locals := 0 }) (va_Pc [.ref (G.2.1 t)] (fun U => mE G U U.heap)) (tQ (some (.int 1))) 0 0 (fun _ => False) := by
  refine t_met (by decide +kernel) (by simp [Value.category]) (by simp) ?_
  intro p e s m below meth c ls C hsz hls
  replace C : tCx p s m _ meth c G "java/lang/String" _ _ _ := C
  have h0 := hls 0 _ rfl
  refine t_comp C (by decide +kernel) ?_
  refine lv_if_eq (tgt := 17) C.1 C.2.1 (off := 14) (by decide +kernel) rfl (fun h => by cases h) (fun _ => ?_)
  refine lv_aload_n C.1 C.2.1 (k := 0) (by decide +kernel) rfl h0 ?_
  refine t_getf C ht (idx := 15) (by simp [tWs]) (C.2.2.2.2.2.1.2.2.2.1 t ht).2.1 (by decide +kernel) ?_
  refine lv_if_ne (tgt := 17) C.1 C.2.1 (off := 7) (by decide +kernel) rfl (fun h => absurd rfl h) (fun _ => ?_)
  refine lv_iconst C.1 C.2.1 (n := 1) (v := 1) (by decide +kernel) rfl ?_
  refine lv_goto (tgt := 18) C.1 C.2.1 (off := 4) (by decide +kernel) rfl ?_
  exact t_ret C rfl rfl (by decide +kernel)
theorem t_pre (l : Launch) (G : mG) {k : Int32} {N : Nat} (hk : vp_in k N) (hN : N ≤ 1000) (x : Value) (hx : x.category = 1) : Met l tyPre (Cond.code tyPre prog_13_method_11_code 3 (some .int) :: mGW) ({ frames := 0, cells := 0, slots := 0, locals := 0 }) (va_Pc [.int k, .int (Int32.ofNat N), x] (fun U => mE G U U.heap)) (tQ (some (.int k))) 0 0 (fun _ => False) := by
  refine t_met (by decide +kernel) (by simpa [Value.category] using hx) (by simp) ?_
  intro p e s m below meth c ls C hsz hls
  replace C : tCx p s m _ meth c G "jdk/internal/util/Preconditions" _ _ _ := C
  have h0 := hls 0 _ rfl
  have h1 := hls 1 _ rfl
  have g0 : ¬ k < 0 := fun h => hk (Or.inl h)
  have g1 : k.toNatClampNeg < N := Nat.not_le.mp fun h => hk (Or.inr h)
  refine lv_iload_n C.1 C.2.1 (k := 0) (by decide +kernel) rfl h0 ?_
  refine lv_if_lt (tgt := 9) C.1 C.2.1 (off := 8) (by decide +kernel) rfl (fun h => absurd h g0) (fun _ => ?_)
  refine lv_iload_n C.1 C.2.1 (k := 0) (by decide +kernel) rfl h0 ?_
  refine lv_iload_n C.1 C.2.1 (k := 1) (by decide +kernel) rfl h1 ?_
  refine lv_icmp_lt (tgt := 16) C.1 C.2.1 (off := 10) (by decide +kernel) rfl (fun _ => ?_) (fun h => absurd ?_ h)
  · refine lv_iload_n C.1 C.2.1 (k := 0) (by decide +kernel) rfl h0 ?_
    exact t_ret C rfl rfl (by decide +kernel)
  · have e1 : (Int32.ofNat N).toInt = (N : Int) := Int32.toInt_ofNat_of_lt (by omega)
    rw [Int32.lt_iff_toInt_lt, e1]
    have e2 : k.toInt = (k.toNatClampNeg : Int) := by
      have h3 : (0 : Int) ≤ k.toInt := by
        have := Int32.not_lt.mp g0
        simpa using Int32.le_iff_toInt_le.mp this
      show k.toInt = ((k.toInt.toNat : Nat) : Int)
      omega
    omega
theorem t_chk (l : Launch) (G : mG) {k : Int32} {N : Nat} (hk : vp_in k N) (hN : N ≤ 1000) : Met l tyChk (Cond.code tyChk prog_9_method_155_code 2 none :: mGW) ({ frames := 1, cells := 0, slots := 0, locals := 22 }) (va_Pc [.int k, .int (Int32.ofNat N)] (fun U => mE G U U.heap)) (tQ none) 0 0 (fun _ => False) := by
  refine t_met (by decide +kernel) (by simp [Value.category]) (by simp) ?_
  intro p e s m below meth c ls C hsz hls
  replace C : tCx p s m _ meth c G "java/lang/String" _ _ _ := C
  have h0 := hls 0 _ rfl
  have h1 := hls 1 _ rfl
  have key : ∀ x : Value, x.category = 1 → va_Z "jdk/internal/util/Preconditions" "SIOOBE_FORMATTER" "Ljava/util/function/BiFunction;" x (mA G) s s.heap → W p l e ({ frames := 1, cells := 0, slots := 0, locals := 22 }) s m #[.int k, .int (Int32.ofNat N)] below meth c s.heap [] 0 0 (MQ below (tQ none) #[.int k, .int (Int32.ofNat N)] s 0 0 (fun _ => False)) (F0 m 2 ls [.int (Int32.ofNat N), .int k]) := by
    intro x hx hz
    refine va_gets C.1 C.2.1 hz va_S.rf C.2.2.2.1 (C.w (w := Cond.fieldLink "java/lang/String" 1053 "jdk/internal/util/Preconditions" "SIOOBE_FORMATTER" "Ljava/util/function/BiFunction;") (by simp [tWs])) (fun _ h => h) (by decide +kernel) ?_
    refine t_callS (As := [.int k, .int (Int32.ofNat N), x]) (rest := []) C (t_pre l G hk hN x hx) t_codes.2.2.2.2 ⟨by decide +kernel, by decide +kernel⟩ (idx := 1059) (by simp [tWs]) (by simp [tWs]) (by simp [tWs, tyPre]) ⟨rfl, rfl, by decide, by decide⟩ rfl (n := 3) (by decide +kernel) hsz (by decide) (by decide +kernel) ?_
    refine lv_pop C.1 C.2.1 (by decide +kernel) rfl ?_
    exact W.vret C.1 C.2.1 C.2.2.2.2.2.2.1 (fun t ht _ => ⟨rfl, ht⟩) (fun _ h => by cases h) (by decide +kernel) C.2.2.2.2.2.2.2
  refine lv_iload_n C.1 C.2.1 (k := 0) (by decide +kernel) rfl h0 ?_
  refine lv_iload_n C.1 C.2.1 (k := 1) (by decide +kernel) rfl h1 ?_
  rcases C.2.2.2.2.2.1.2.2.2.2.2.2.2.2.2 with hz | ⟨q, hz⟩
  · exact key _ rfl hz
  · exact key _ rfl hz
theorem t_lch (l : Launch) (G : mG) {t : Nat} (ht : t < 15) {k : Int32} (hk : vp_in k (mTx.getD t []).length) (hN : (mTx.getD t []).length ≤ 1000) : Met l tyLch (Cond.code tyLch prog_10_method_2_code 2 (some .char) :: mGW) ({ frames := 2, cells := 0, slots := 0, locals := 43 }) (va_Pc [.ref (G.2.1 (300 + t)), .int k] (fun U => mE G U U.heap)) (tQ (some (.int (nI ((mTx.getD t []).getD k.toNatClampNeg 0))))) 0 0 (fun _ => False) := by
  refine t_met (by decide +kernel) (by simp [Value.category]) (by simp) ?_
  intro p e s m below meth c ls C hsz hls
  replace C : tCx p s m _ meth c G "java/lang/StringLatin1" _ _ _ := C
  have h0 := hls 0 _ rfl
  have h1 := hls 1 _ rfl
  have hT := (C.2.2.2.2.2.1.2.2.2.1 t ht).2.2.2
  obtain ⟨n1, n2, n3⟩ := tNi (tTx_at (t := t) k.toNatClampNeg)
  refine lv_iload_n C.1 C.2.1 (k := 1) (by decide +kernel) rfl h1 ?_
  refine lv_aload_n C.1 C.2.1 (k := 0) (by decide +kernel) rfl h0 ?_
  refine va_tlen C.1 C.2.1 hT va_S.rf rfl (by decide +kernel) ?_
  refine t_callS (As := [.int k, .int (Int32.ofNat (mTx.getD t []).length)]) (rest := []) C (t_chk l G hk hN) t_codes.2.2.1 ⟨by decide +kernel, by decide +kernel⟩ (idx := 9) (by simp [tWs]) (by simp [tWs]) (by simp [tWs, tyChk]) ⟨rfl, rfl, by decide, by decide⟩ rfl (n := 2) (by decide +kernel) hsz (by decide) (by decide +kernel) ?_
  refine lv_aload_n C.1 C.2.1 (k := 0) (by decide +kernel) rfl h0 ?_
  refine lv_iload_n C.1 C.2.1 (k := 1) (by decide +kernel) rfl h1 ?_
  refine va_tb C.1 C.2.1 hT va_S.rf hk rfl (by decide +kernel) ?_
  refine lv_sipush C.1 C.2.1 (n := 255) (by decide +kernel) rfl ?_
  refine lv_iand C.1 C.2.1 (by decide +kernel) ?_
  rw [n1]
  refine lv_i2c C.1 C.2.1 (by decide +kernel) n2 ?_
  exact t_ret C rfl n3 (by decide +kernel)
theorem mTx_short : mTx.all (fun x => Nat.ble x.length 1000) = true := by decide +kernel
theorem mTx_le (t : Nat) : (mTx.getD t []).length ≤ 1000 := by
  rw [List.getD_eq_getElem?_getD]
  cases h1 : mTx[t]? with
  | none => simp
  | some x => exact Nat.le_of_ble_eq_true (List.all_eq_true.mp mTx_short x (List.mem_of_getElem? h1))
theorem tSh_ck : (List.range 15).all (fun t => decide ((Int32.ofNat (mTx.getD t []).length) >>> ((0 : Int32) &&& 31) = nI (mTx.getD t []).length)) = true := by decide +kernel
theorem tSh {t : Nat} (ht : t < 15) : (Int32.ofNat (mTx.getD t []).length) >>> ((0 : Int32) &&& 31) = nI (mTx.getD t []).length := of_decide_eq_true (List.all_eq_true.mp tSh_ck t (List.mem_range.mpr ht))
theorem m_so (l : Launch) (G : mG) : mSO l G := by
  refine ⟨fun t ht => ?_, fun t ht k hk => ?_⟩
  · refine t_met (by decide +kernel) (by simp [Value.category]) (by simp) ?_
    intro p e s m below meth c ls C hsz hls
    replace C : tCx p s m _ meth c G "java/lang/String" _ _ _ := C
    have h0 := hls 0 _ rfl
    obtain ⟨-, -, hV, hT⟩ := C.2.2.2.2.2.1.2.2.2.1 t ht
    refine lv_aload_n C.1 C.2.1 (k := 0) (by decide +kernel) rfl h0 ?_
    refine t_getf C ht (idx := 9) (by simp [tWs]) hV (by decide +kernel) ?_
    refine va_tlen C.1 C.2.1 hT va_S.rf rfl (by decide +kernel) ?_
    refine lv_aload_n C.1 C.2.1 (k := 0) (by decide +kernel) rfl h0 ?_
    refine t_callV (As := []) C ht (t_cod l G ht) t_codes.1 rfl (idx := 335) (by simp [tWs]) (by simp [tWs]) (by simp [tWs]) ⟨rfl, rfl, by decide, by decide⟩ rfl (n := 0) (by decide +kernel) hsz (by show _ ≤ 8; simp [Value.category]) (by decide +kernel) ?_
    refine lv_ishr C.1 C.2.1 (by decide +kernel) ?_
    have e1 : (Int32.ofNat (mTx.getD t []).length) >>> ((0 : Int32) &&& 31) = nI (mTx.getD t []).length := tSh ht
    rw [e1]
    exact t_ret C rfl rfl (by decide +kernel)
  · refine t_met (by decide +kernel) (by simp [Value.category]) (by simp) ?_
    intro p e s m below meth c ls C hsz hls
    replace C : tCx p s m _ meth c G "java/lang/String" _ _ _ := C
    have h0 := hls 0 _ rfl
    have h1 := hls 1 _ rfl
    obtain ⟨-, -, hV, hT⟩ := C.2.2.2.2.2.1.2.2.2.1 t ht
    refine lv_aload_n C.1 C.2.1 (k := 0) (by decide +kernel) rfl h0 ?_
    refine t_callV (As := []) C ht (t_lat l G ht) t_codes.2.1 rfl (idx := 492) (by simp [tWs]) (by simp [tWs]) (by simp [tWs]) ⟨rfl, rfl, by decide, by decide⟩ rfl (n := 0) (by decide +kernel) hsz (by decide) (by decide +kernel) ?_
    refine lv_if_eq (tgt := 16) C.1 C.2.1 (off := 12) (by decide +kernel) rfl (fun h => by cases h) (fun _ => ?_)
    refine lv_aload_n C.1 C.2.1 (k := 0) (by decide +kernel) rfl h0 ?_
    refine t_getf C ht (idx := 9) (by simp [tWs]) hV (by decide +kernel) ?_
    refine lv_iload_n C.1 C.2.1 (k := 1) (by decide +kernel) rfl h1 ?_
    refine t_callS (As := [.ref (G.2.1 (300 + t)), .int k]) (rest := []) C (t_lch l G ht hk (mTx_le t)) t_codes.2.2.2.1 ⟨by decide +kernel, by decide +kernel⟩ (idx := 495) (by simp [tWs]) (by simp [tWs]) (by simp [tWs, tyLch]) ⟨rfl, rfl, by decide, by decide⟩ rfl (n := 2) (by decide +kernel) hsz (by decide) (by decide +kernel) ?_
    exact t_ret C rfl (tNi (tTx_at _)).2.2 (by decide +kernel)
end
