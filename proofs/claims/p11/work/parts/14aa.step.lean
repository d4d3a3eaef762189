/-! ===== the simulation ===== -/
/-- whatever step it is, the world doesn't shrink -/
def mPr2 (D : mHp) (o : Option mRes) : Prop := ∀ q : Nat × mLoc × List Value × mHp, o = some (.inl q) → D.length ≤ q.2.2.2.length ∧ mSl D ≤ mSl q.2.2.2
theorem mPr2_none {D : mHp} : mPr2 D none := fun _ h => by cases h
theorem mPr2_inr {D : mHp} {x} : mPr2 D (some (.inr x)) := fun _ h => by cases h
theorem mPr2_nx {D D' : mHp} {pc : Nat} {L : mLoc} {st : List Value} (h1 : D.length ≤ D'.length) (h2 : mSl D ≤ mSl D') : mPr2 D (mNx pc L st D') := fun q h => by
  obtain rfl := mNx_eq h
  exact ⟨h1, h2⟩
theorem mPr2_nx0 {D : mHp} {pc : Nat} {L : mLoc} {st : List Value} : mPr2 D (mNx pc L st D) := mPr2_nx (Nat.le_refl _) (Nat.le_refl _)
theorem mPr2_go {D : mHp} {pc : Nat} {off : Int} {L : mLoc} {st : List Value} : mPr2 D (mGo pc off L st D) := fun q h => by
  obtain ⟨t, -, rfl⟩ := mGo_eq h
  exact ⟨Nat.le_refl _, Nat.le_refl _⟩
theorem mPr2_br {D : mHp} {b : Bool} {pc : Nat} {off : Int} {L : mLoc} {st : List Value} : mPr2 D (mBr b pc off L st D) := fun q h => by
  obtain ⟨t, -, rfl⟩ := mBr_eq h
  exact ⟨Nat.le_refl _, Nat.le_refl _⟩
theorem mPr2_cond {D : mHp} {b : Bool} {o : Option mRes} (h : mPr2 D o) : mPr2 D (cond b o none) := fun q hq => h q (mCond_eq hq).2
theorem mPr2_bind {α : Type} {D : mHp} {o : Option α} {f : α → Option mRes} (h : ∀ a, o = some a → mPr2 D (f a)) : mPr2 D (o.bind f) := fun q hq => by
  obtain ⟨a, h1, h2⟩ := mBind_eq hq
  exact h a h1 q h2
theorem mPr2_set {D : mHp} {i : Nat} {c c' : va_E} {pc : Nat} {L : mLoc} {st : List Value} (hD : D[i]? = some c) (hz : mSz c' = mSz c) : mPr2 D (mNx pc L st (D.set i c')) :=
  mPr2_nx (by rw [List.length_set]; exact Nat.le_refl _) (by rw [mSl_set hD hz]; exact Nat.le_refl _)
theorem mPr2_app {D E : mHp} {pc : Nat} {L : mLoc} {st : List Value} : mPr2 D (mNx pc L st (D ++ E)) :=
  mPr2_nx (by rw [List.length_append]; omega) (by rw [mSl_app]; omega)
theorem mPr2_call {e : mEnt} {v : Bool} {pc : Nat} {L : mLoc} {st : List Value} {D : mHp} : mPr2 D (mCall e v pc L st D) := by
  unfold mCall
  split
  · split
    · exact mPr2_cond mPr2_nx0
    · exact mPr2_none
  · split
    · split
      · rename_i hD1
        exact mPr2_cond (mPr2_set hD1 rfl)
      · exact mPr2_none
    · exact mPr2_none
  · split
    · split
      · exact mPr2_cond mPr2_nx0
      · exact mPr2_none
    · exact mPr2_none
  · split
    · split
      · exact mPr2_cond mPr2_nx0
      · exact mPr2_none
    · exact mPr2_none
  · split
    · exact mPr2_cond mPr2_nx0
    · exact mPr2_none
  · split
    · exact mPr2_cond mPr2_nx0
    · exact mPr2_none
  · exact mPr2_cond mPr2_inr
theorem mPr2_put {row : mRow} {kd : Nat} {D : mHp} {i a b : Nat} {v : Value} {pc : Nat} {L : mLoc} {st : List Value} : mPr2 D ((mPut row kd D i a b v).bind fun D1 => mNx pc L st D1) := mPr2_bind fun D1 h => by
  obtain ⟨fs, hD, -, -, -, -, rfl⟩ := mPut_eq h
  exact mPr2_set hD (mSz_obj a b fs v)
theorem mPr2_sti {t : Nat} {D : mHp} {i : Nat} {j x : Int32} {pc : Nat} {L : mLoc} {st : List Value} : mPr2 D ((mStI t D i j x).bind fun D1 => mNx pc L st D1) := mPr2_bind fun D1 h => by
  obtain ⟨n, f, hD, -, rfl⟩ := mStI_eq h
  exact mPr2_set hD rfl
theorem mPr2_stq {D : mHp} {i v : Nat} {j : Int32} {pc : Nat} {L : mLoc} {st : List Value} : mPr2 D ((mStQ D i j v).bind fun D1 => mNx pc L st D1) := mPr2_bind fun D1 h => by
  obtain ⟨t, n, f, hD, -, -, rfl⟩ := mStQ_eq h
  exact mPr2_set hD rfl
theorem mStep_mono {X : mSc} {row : mRow} {e : mEnt} {pc : Nat} {L : mLoc} {st : List Value} {D : mHp} : mPr2 D (mStep X row e pc L st D) := by
  unfold mStep
  split
  all_goals (repeat' (first | exact mPr2_none | exact mPr2_nx0 | exact mPr2_go | exact mPr2_br | exact mPr2_app | exact mPr2_call | exact mPr2_put | exact mPr2_sti | exact mPr2_stq | exact mPr2_inr | apply mPr2_cond | (refine mPr2_bind fun _ _ => ?_) | split))
theorem mRun_mono {X : mSc} : ∀ (n mid pc : Nat) (L : mLoc) (st : List Value) (D : mHp) (z : Option Value × mHp), mRun X n mid pc L st D = some z → D.length ≤ z.2.length ∧ mSl D ≤ mSl z.2 := by
  intro n
  induction n with
  | zero => intro mid pc L st D z h; cases h
  | succ n ih =>
    intro mid pc L st D z h
    unfold mRun at h
    split at h
    · split at h
      · rename_i q hq
        obtain ⟨h1, h2⟩ := mStep_mono q hq
        obtain ⟨h3, h4⟩ := ih _ _ _ _ _ _ h
        exact ⟨Nat.le_trans h1 h3, Nat.le_trans h2 h4⟩
      · cases h
        exact ⟨Nat.le_refl _, Nat.le_refl _⟩
      · split at h
        · obtain ⟨-, h⟩ := mCond_eq h
          split at h
          · rename_i z1 hz1
            obtain ⟨h1, h2⟩ := ih _ _ _ _ _ _ hz1
            obtain ⟨h3, h4⟩ := ih _ _ _ _ _ _ h
            exact ⟨Nat.le_trans h1 h3, Nat.le_trans h2 h4⟩
          · cases h
        · cases h
      · cases h
    · cases h
section MSI
variable {p : Program} {l : Launch} {e : Env} {R : Room} {s : State} {m : MethodId} {args : Array Value} {below : List Frame} {meth : Method} {c : Code} {Q : State → Prop} {G : mG} {row : mRow} {d0 s0 : Nat} {pc : Nat} {L : mLoc} {st : List Value} {D : mHp} {q : Nat × mLoc × List Value × mHp}
theorem mLen_of {i : Instr} {n : Nat} (h : mLnk' i n = true) (hi : mLnk' i n = Nat.beq n (mLn i)) : n = mLn i := Nat.eq_of_beq_eq_true (hi ▸ h)

set_option maxHeartbeats 4000000 in
theorem m_step {X : mSc} {en : mEnt} (hG : G.2.2.2.2 = X) (HS : mSO l G) (C : mCx p R s m args meth c G row d0) (hlD : D.length ≤ 1000000) (hlq : q.2.2.2.length ≤ 1000000) (hrc : q.2.2.2.length ≤ R.cells + d0) (hrs : mSl q.2.2.2 ≤ R.slots + s0)
    (hd : decode row.2.2.1 pc = .ok (en.1, en.2.1)) (he : mEck row en = true) (h : mStep X row en pc L st D = some (.inl q)) (k : mK p l e R s m args below meth c Q G row.2.2.2.1 d0 s0 q.1 q.2.1 q.2.2.1 q.2.2.2) : mK p l e R s m args below meth c Q G row.2.2.2.1 d0 s0 pc L st D := by
  obtain ⟨ins, len, j, kind, a, b, z⟩ := en
  have hlen : mLnk' ins len = true := by
    unfold mEck at he
    rw [Bool.and_eq_true] at he
    exact he.1
  cases ins with
  | iconst n =>
    obtain rfl := mLen_of hlen rfl
    exact r_iconst C hd h k
  | bipush n =>
    obtain rfl := mLen_of hlen rfl
    exact r_bipush C hd h k
  | sipush n =>
    obtain rfl := mLen_of hlen rfl
    exact r_sipush C hd h k
  | lconst n =>
    obtain rfl := mLen_of hlen rfl
    exact r_lconst C hd h k
  | iload_n i =>
    obtain rfl := mLen_of hlen rfl
    exact r_iload_n C hd h k
  | iload i =>
    obtain rfl := mLen_of hlen rfl
    exact r_iload C hd h k
  | lload_n i =>
    obtain rfl := mLen_of hlen rfl
    exact r_lload_n C hd h k
  | lload i =>
    obtain rfl := mLen_of hlen rfl
    exact r_lload C hd h k
  | aload_n i =>
    obtain rfl := mLen_of hlen rfl
    exact r_aload_n C hd h k
  | aload i =>
    obtain rfl := mLen_of hlen rfl
    exact r_aload C hd h k
  | istore_n i =>
    obtain rfl := mLen_of hlen rfl
    exact r_istore_n C hd h k
  | istore i =>
    obtain rfl := mLen_of hlen rfl
    exact r_istore C hd h k
  | lstore_n i =>
    obtain rfl := mLen_of hlen rfl
    exact r_lstore_n C hd h k
  | lstore i =>
    obtain rfl := mLen_of hlen rfl
    exact r_lstore C hd h k
  | astore_n i =>
    obtain rfl := mLen_of hlen rfl
    exact r_astore_n C hd h k
  | astore i =>
    obtain rfl := mLen_of hlen rfl
    exact r_astore C hd h k
  | iinc i n =>
    obtain rfl := mLen_of hlen rfl
    exact r_iinc C hd h k
  | iadd =>
    obtain rfl := mLen_of hlen rfl
    exact r_iadd C hd h k
  | isub =>
    obtain rfl := mLen_of hlen rfl
    exact r_isub C hd h k
  | imul =>
    obtain rfl := mLen_of hlen rfl
    exact r_imul C hd h k
  | iand =>
    obtain rfl := mLen_of hlen rfl
    exact r_iand C hd h k
  | ior =>
    obtain rfl := mLen_of hlen rfl
    exact r_ior C hd h k
  | ixor =>
    obtain rfl := mLen_of hlen rfl
    exact r_ixor C hd h k
  | idiv =>
    obtain rfl := mLen_of hlen rfl
    exact r_idiv C hd h k
  | irem =>
    obtain rfl := mLen_of hlen rfl
    exact r_irem C hd h k
  | ishl =>
    obtain rfl := mLen_of hlen rfl
    exact r_ishl C hd h k
  | ishr =>
    obtain rfl := mLen_of hlen rfl
    exact r_ishr C hd h k
  | iushr =>
    obtain rfl := mLen_of hlen rfl
    exact r_iushr C hd h k
  | i2l =>
    obtain rfl := mLen_of hlen rfl
    exact r_i2l C hd h k
  | i2b =>
    obtain rfl := mLen_of hlen rfl
    exact r_i2b C hd h k
  | i2s =>
    obtain rfl := mLen_of hlen rfl
    exact r_i2s C hd h k
  | ladd =>
    obtain rfl := mLen_of hlen rfl
    exact r_ladd C hd h k
  | lmul =>
    obtain rfl := mLen_of hlen rfl
    exact r_lmul C hd h k
  | lcmp =>
    obtain rfl := mLen_of hlen rfl
    exact r_lcmp C hd h k
  | dup =>
    obtain rfl := mLen_of hlen rfl
    exact r_dup C hd h k
  | pop =>
    obtain rfl := mLen_of hlen rfl
    exact r_pop C hd h k
  | dup2 =>
    obtain rfl := mLen_of hlen rfl
    exact r_dup2 C hd h k
  | pop2 =>
    obtain rfl := mLen_of hlen rfl
    exact r_pop2 C hd h k
  | goto off =>
    obtain rfl := mLen_of hlen rfl
    exact r_goto C hd h k
  | iaload =>
    obtain rfl := mLen_of hlen rfl
    exact r_iaload hG C hlD hd h k
  | baload =>
    obtain rfl := mLen_of hlen rfl
    exact r_baload C hlD hd h k
  | aaload =>
    obtain rfl := mLen_of hlen rfl
    exact r_aaload C hlD hd h k
  | iastore =>
    obtain rfl := mLen_of hlen rfl
    exact r_iastore C hlD hd h k
  | bastore =>
    obtain rfl := mLen_of hlen rfl
    exact r_bastore C hlD hd h k
  | aastore =>
    obtain rfl := mLen_of hlen rfl
    exact r_aastore C hlD hd h k
  | arraylength =>
    obtain rfl := mLen_of hlen rfl
    exact r_arraylength hG C hlD hd h k
  | ifCond cd off =>
    obtain rfl := mLen_of hlen rfl
    cases cd
    case eq => exact r_if_eq C hd h k
    case ne => exact r_if_ne C hd h k
    case lt => exact r_if_lt C hd h k
    case ge => exact r_if_ge C hd h k
    case gt => exact r_if_gt C hd h k
    case le => exact r_if_le C hd h k
  | if_icmp cd off =>
    obtain rfl := mLen_of hlen rfl
    cases cd
    case eq => exact r_icmp_eq C hd h k
    case ne => exact r_icmp_ne C hd h k
    case lt => exact r_icmp_lt C hd h k
    case ge => exact r_icmp_ge C hd h k
    case gt => exact r_icmp_gt C hd h k
    case le => exact r_icmp_le C hd h k
  | tableswitch dflt lo hi offs => exact r_tsw C hd h k
  | getfield idx =>
    obtain rfl := mLen_of hlen rfl
    obtain ⟨hkd, hL0, hrm⟩ := mEck_at he rfl
    exact r_getfield C hlD hkd hL0 hd h k
  | putfield idx =>
    obtain rfl := mLen_of hlen rfl
    obtain ⟨hkd, hL0, hrm⟩ := mEck_at he rfl
    exact r_putfield C hlD hkd hL0 hd h k
  | getstatic idx =>
    obtain rfl := mLen_of hlen rfl
    obtain ⟨hkd, hL0, hrm⟩ := mEck_at he rfl
    exact r_getstatic C hkd hL0 hd h k
  | ldc idx =>
    obtain rfl := mLen_of hlen rfl
    obtain ⟨hkd, hL0, hrm⟩ := mEck_at he rfl
    exact r_ldc C hL0 hd h k
  | ldc_w idx =>
    obtain rfl := mLen_of hlen rfl
    obtain ⟨hkd, hL0, hrm⟩ := mEck_at he rfl
    exact r_ldc_w C hL0 hd h k
  | new idx =>
    obtain rfl := mLen_of hlen rfl
    obtain ⟨hkd, hL0, hrm⟩ := mEck_at he rfl
    have hq := mNx_eq h
    have e1 : q.2.2.2 = D ++ [.inr (a, mDf a)] := by rw [hq]
    have e2 : q.2.2.2.length = D.length + 1 := by rw [e1]; simp
    exact r_new C (by omega) (by omega) (by rw [← e1]; exact hrs) hkd hL0 hd h k
  | anewarray idx =>
    obtain rfl := mLen_of hlen rfl
    obtain ⟨hkd, hL0, hrm⟩ := mEck_at he rfl
    exact r_anewa C hlq hrc hrs hkd hL0 hd h k
  | newarray at_ =>
    obtain rfl := mLen_of hlen rfl
    cases at_
    case int => exact r_newa (t := 0) (Or.inl ⟨rfl, rfl⟩) C hlq hrc hrs hd h k
    case byte => exact r_newa (t := 1) (Or.inr ⟨rfl, rfl⟩) C hlq hrc hrs hd h k
    all_goals exact absurd h (by simp [mStep])
  | multianewarray idx dims =>
    obtain rfl := mLen_of hlen rfl
    obtain ⟨hkd, hL0, hrm⟩ := mEck_at he rfl
    by_cases h2 : dims = 2
    · subst h2
      exact r_mnewa C hlq hrc hrs hkd hL0 hd h k
    · exfalso
      unfold mStep at h
      split at h
      all_goals (first | (simp_all; done) | contradiction)
  | invokestatic idx =>
    obtain rfl := mLen_of hlen rfl
    obtain ⟨hkd, hL0, hrm⟩ := mEck_at he rfl
    have hmono := mStep_mono q h
    simp only [mKd, Bool.or_eq_true] at hkd
    rcases hkd with (((hkd | hkd) | hkd) | hkd) | hkd
    · have hkd := Nat.eq_of_beq_eq_true hkd
      subst hkd
      have hrm : mRm row 12 a = true := by
        rcases hrm with h9 | h9
        · cases h9
        · exact h9
      exact absurd (mCond_eq h).2 (by intro h9; cases h9)
    · have hkd := Nat.eq_of_beq_eq_true hkd
      subst hkd
      have hrm : mRm row 13 a = true := by
        rcases hrm with h9 | h9
        · cases h9
        · exact h9
      exact absurd (mCond_eq h).2 (by intro h9; cases h9)
    · have hkd := Nat.eq_of_beq_eq_true hkd
      subst hkd
      have hrm : mRm row 21 a = true := by
        rcases hrm with h9 | h9
        · cases h9
        · exact h9
      exact c_cpy C hlD hrm hL0 hd h k
    · have hkd := Nat.eq_of_beq_eq_true hkd
      subst hkd
      have hrm : mRm row 24 a = true := by
        rcases hrm with h9 | h9
        · cases h9
        · exact h9
      exact c_max C (by omega) (by omega) hrm hL0 hd h k
    · have hkd := Nat.eq_of_beq_eq_true hkd
      subst hkd
      have hrm : mRm row 25 a = true := by
        rcases hrm with h9 | h9
        · cases h9
        · exact h9
      exact c_min C (by omega) (by omega) hrm hL0 hd h k
  | invokevirtual idx =>
    obtain rfl := mLen_of hlen rfl
    obtain ⟨hkd, hL0, hrm⟩ := mEck_at he rfl
    have hmono := mStep_mono q h
    simp only [mKd, Bool.or_eq_true] at hkd
    rcases hkd with ((hkd | hkd) | hkd) | hkd
    · have hkd := Nat.eq_of_beq_eq_true hkd
      subst hkd
      have hrm : mRm row 10 a = true := by
        rcases hrm with h9 | h9
        · cases h9
        · exact h9
      exact absurd (mCond_eq h).2 (by intro h9; cases h9)
    · have hkd := Nat.eq_of_beq_eq_true hkd
      subst hkd
      have hrm : mRm row 11 a = true := by
        rcases hrm with h9 | h9
        · cases h9
        · exact h9
      exact absurd (mCond_eq h).2 (by intro h9; cases h9)
    · have hkd := Nat.eq_of_beq_eq_true hkd
      subst hkd
      have hrm : mRm row 22 a = true := by
        rcases hrm with h9 | h9
        · cases h9
        · exact h9
      exact c_len HS C (by omega) (by omega) hrm hL0 hd h k
    · have hkd := Nat.eq_of_beq_eq_true hkd
      subst hkd
      have hrm : mRm row 23 a = true := by
        rcases hrm with h9 | h9
        · cases h9
        · exact h9
      exact c_chr HS C (by omega) (by omega) hrm hL0 hd h k
  | invokespecial idx =>
    obtain rfl := mLen_of hlen rfl
    obtain ⟨hkd, hL0, hrm⟩ := mEck_at he rfl
    have hmono := mStep_mono q h
    simp only [mKd, Bool.or_eq_true] at hkd
    rcases hkd with (hkd | hkd) | hkd
    · have hkd := Nat.eq_of_beq_eq_true hkd
      subst hkd
      have hrm : mRm row 14 a = true := by
        rcases hrm with h9 | h9
        · cases h9
        · exact h9
      exact absurd (mCond_eq h).2 (by intro h9; cases h9)
    · have hkd := Nat.eq_of_beq_eq_true hkd
      subst hkd
      have hrm : mRm row 15 a = true := by
        rcases hrm with h9 | h9
        · cases h9
        · exact h9
      exact absurd (mCond_eq h).2 (by intro h9; cases h9)
    · have hkd := Nat.eq_of_beq_eq_true hkd
      subst hkd
      have hrm : mRm row 20 a = true := by
        rcases hrm with h9 | h9
        · cases h9
        · exact h9
      exact c_obj C hrm hL0 hd h k
  | ireturn =>
    exfalso
    unfold mStep at h
    dsimp only at h
    repeat' split at h
    all_goals (first | cases h | (obtain ⟨-, h⟩ := mCond_eq h; cases h))
  | lreturn =>
    exfalso
    unfold mStep at h
    dsimp only at h
    repeat' split at h
    all_goals (first | cases h | (obtain ⟨-, h⟩ := mCond_eq h; cases h))
  | areturn =>
    exfalso
    unfold mStep at h
    dsimp only at h
    repeat' split at h
    all_goals (first | cases h | (obtain ⟨-, h⟩ := mCond_eq h; cases h))
  | return_ =>
    exfalso
    unfold mStep at h
    dsimp only at h
    repeat' split at h
    all_goals (first | cases h | (obtain ⟨-, h⟩ := mCond_eq h; cases h))
  | _ => exact absurd h (by simp [mStep])
end MSI
