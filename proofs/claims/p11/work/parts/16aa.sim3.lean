theorem mNi_ck : mLT.all (fun q => !(Nat.beq q.2.2.1 14 || Nat.beq q.2.2.1 15) || match mMet q.2.2.2.1 with
    | some r => decide (r.2.2.2.2.1 = none)
    | none => true) = true := by decide +kernel
def mSimAt (l : Launch) (G : mG) (X : mSc) (n : Nat) : Prop :=
  ∀ (mid pc : Nat) (L : mLoc) (st : List Value) (D : mHp) (r : Option Value) (Df : mHp), mRun X n mid pc L st D = some (r, Df) → Df.length ≤ 1000000 →
  ∀ (p : Program) (e : Env) (R : Room) (s : State) (m : MethodId) (args : Array Value) (below : List Frame) (meth : Method) (c : Code) (Q : State → Prop) (row : mRow) (d0 s0 : Nat), mMet mid = some row → mCx p R s m args meth c G row d0 → Df.length ≤ R.cells + d0 → mSl Df ≤ R.slots + s0 →
  (∀ (pc : Nat) (L : mLoc) (st : List Value) (en : mEnt), mStep X row en pc L st Df = some (.inr (.inl r)) → decode row.2.2.1 pc = .ok (en.1, en.2.1) → mEck row en = true → mK p l e R s m args below meth c Q G row.2.2.2.1 d0 s0 pc L st Df) →
  mK p l e R s m args below meth c Q G row.2.2.2.1 d0 s0 pc L st D
/-- a method's contract out of the run of its body -/
theorem m_met {l : Launch} {G : mG} {X : mSc} {n : Nat} (ih : mSimAt l G X n) {mid : Nat} {row : mRow} {as : List Value} {D : mHp} {r : Option Value} {D' : mHp} (hr : mMet mid = some row) (h5 : row.1 ≠ 5) (h6 : Nat.ble row.1 6 = true) (hc : ∀ w ∈ as, w.category = 1) (hn : as.length ≤ row.2.2.2.1)
    (h : mRun X n mid 0 (mEnv row.2.2.2.1 as) [] D = some (r, D')) (hlim : D'.length ≤ 1000000) : mMt l G row as D r D' := by
  obtain ⟨hpl, hcl, -, -, -⟩ := mM_at hr h6 h5
  obtain ⟨hle, hls⟩ := mRun_mono _ _ _ _ _ _ _ h
  refine Met.ofW (cc := row.2.2.1) (maxL := row.2.2.2.1) (ret := row.2.2.2.2.1) hpl rfl ?_
  intro p e s m args below meth c s₁ B hml hv
  obtain ⟨rfl, hsz, hP, hE⟩ := hv
  have hts := atoms_spec (ws := Cond.code row.2.1 row.2.2.1 row.2.2.2.1 row.2.2.2.2.1 :: mGW) B.pre
  have hown : s.vm.findClass row.2.1.cls = some m.cls := findClass_of_methodNamed B.named
  have hnm : meth.name = row.2.1.name := (name_of_methodNamed B.named B.method).1
  have hcm : ∀ w ∈ as.map (mV G), w.category = 1 := fun w hw => by
    obtain ⟨u, hu, rfl⟩ := List.mem_map.mp hw
    rw [mV_cat]
    exact hc u hu
  have hl := lv_entry (as.map (mV G)) (n := row.2.2.2.1) (by rw [lg_sl1 _ hcm, List.length_map]; exact hn)
  rw [lg_entry_eq]
  generalize (lg_sl (as.map (mV G)) ++ List.replicate (row.2.2.2.1 - (lg_sl (as.map (mV G))).length) Slot.unset).toArray = ls at hl ⊢
  have C : mCx p ({ frames := row.2.2.2.2.2.1, cells := D'.length - D.length, slots := mSl D' - mSl D, locals := row.2.2.2.2.2.2 }) s m (as.map (mV G)).toArray meth c G row D.length :=
    ⟨B.exec, B.bytes, hml, by rw [← hcl]; exact hown, fun w hw => hts w (List.mem_cons_of_mem _ hw), hE, fun e => hnm.trans e, hsz, Nat.le_refl _, Nat.le_refl _⟩
  have K := ih mid 0 (mEnv row.2.2.2.1 as) [] D r D' h hlim p e _ s m (as.map (mV G)).toArray below meth c (MQ below (mQc G r D') (as.map (mV G)).toArray s (D'.length - D.length) (mSl D' - mSl D) (mA G)) row D.length (mSl D) hr C (by show _ ≤ (D'.length - D.length) + D.length; omega) (by show _ ≤ (mSl D' - mSl D) + mSl D; omega)
    (fun pc L st en hst hd he => m_ret C B.returns B.notSynchronized hd he hst)
  exact K ls s.heap [] 0 0 (mEnv_LR hc hn hl) hP va_S.rf (by omega) (by omega)
theorem m_sim (l : Launch) (G : mG) (X : mSc) (hG : G.2.2.2.2 = X) (HS : mSO l G) : ∀ n, mSimAt l G X n := by
  intro n
  induction n with
  | zero => intro mid pc L st D r Df h; cases h
  | succ n ih =>
    intro mid pc L st D r Df h hlim p e R s m args below meth c Q row d0 s0 hrow C hrc hrs hend
    unfold mRun at h
    rw [hrow] at h
    cases hf : mFetch mid pc with
    | none => rw [hf] at h; cases h
    | some en =>
      rw [hf] at h
      dsimp only at h
      obtain ⟨hd, he⟩ := mCk_at (mCk_all mid (mMet_lt hrow)) hrow hf
      cases hst : mStep X row en pc L st D with
      | none => rw [hst] at h; cases h
      | some res =>
        rw [hst] at h
        cases res with
        | inl q =>
          dsimp only at h
          obtain ⟨h1, h2⟩ := mRun_mono _ _ _ _ _ _ _ h
          obtain ⟨h3, h4⟩ := mStep_mono q hst
          dsimp only at h1 h2
          exact m_step hG HS C (by omega) (by omega) (by omega) (by omega) hd he hst (ih mid q.1 q.2.1 q.2.2.1 q.2.2.2 r Df h hlim p e R s m args below meth c Q row d0 s0 hrow C hrc hrs hend)
        | inr res =>
          cases res with
          | inl v =>
            dsimp only at h
            cases h
            exact hend pc L st en hst hd he
          | inr x =>
            dsimp only at h
            cases hm : mMet x.1 with
            | none => rw [hm] at h; cases h
            | some rr =>
              rw [hm] at h
              dsimp only at h
              obtain ⟨hnb, h⟩ := mCond_eq h
              have hnb := Nat.le_of_ble_eq_true hnb
              split at h
              · rename_i z hz
                obtain ⟨r1, D1⟩ := z
                dsimp only at h
                obtain ⟨h1, h2⟩ := mRun_mono _ _ _ _ _ _ _ hz
                obtain ⟨h3, h4⟩ := mRun_mono _ _ _ _ _ _ _ h
                dsimp only at h1 h2 h3 h4
                have k := ih mid (pc + 3) L (r1.toList ++ x.2.2) D1 r Df h hlim p e R s m args below meth c Q row d0 s0 hrow C hrc hrs hend
                rcases mStep_out.2 x hst with ⟨⟨idx, hi⟩, hcall⟩ | ⟨hi, hcall⟩
                · obtain ⟨hx, hb1, hc1, hwt, -, n0, n1, n2, n3, n4, n5⟩ := mCall_eq hcall
                  subst hx
                  obtain ⟨ins, len, j, kind, a, b, z⟩ := en
                  dsimp only at hi
                  subst hi
                  obtain ⟨hkd, hL0, hrm⟩ := mEck_at he rfl
                  have hlen : len = 3 := by
                    unfold mEck at he
                    rw [Bool.and_eq_true] at he
                    exact mLen_of he.1 rfl
                  subst hlen
                  simp only [mKd, Bool.or_eq_true] at hkd
                  have hk : kind = 12 ∨ kind = 13 := by
                    rcases hkd with (((hkd | hkd) | hkd) | hkd) | hkd
                    · exact Or.inl (Nat.eq_of_beq_eq_true hkd)
                    · exact Or.inr (Nat.eq_of_beq_eq_true hkd)
                    · exact absurd (Nat.eq_of_beq_eq_true hkd) n1
                    · exact absurd (Nat.eq_of_beq_eq_true hkd) n4
                    · exact absurd (Nat.eq_of_beq_eq_true hkd) n5
                  have hrm' : mRm row kind a = true := by
                    rcases hrm with h9 | h9
                    · have := Nat.blt_eq.mp h9
                      dsimp only at this
                      omega
                    · exact h9
                  obtain ⟨rr', hrr', -, -, r5, r6⟩ := mRm_at (by omega) hrm'
                  have e9 : rr' = rr := Option.some.inj (hrr'.symm.trans hm)
                  subst e9
                  exact c_static hk C (by omega) (by omega) h1 h2 hrm' hL0 hd hb1 hwt (fun row' hrow' => by
                    have e8 : row' = rr' := Option.some.inj (hrow'.symm.trans hm)
                    subst e8
                    refine m_met ih hm r5 r6 (fun w hw => mC1_cat hc1 w (List.mem_reverse.mp hw)) hnb hz (by omega)) k
                · obtain ⟨hx, hb1, hc1, hwt, hrv, n0, n1, n2, n3, n4, n5⟩ := mCall_eq hcall
                  subst hx
                  obtain ⟨ins, len, j, kind, a, b, z⟩ := en
                  dsimp only at hi
                  have hfin : ∀ idx, mKi ins = some idx → (kind = 10 ∨ kind = 11 ∨ kind = 14 ∨ kind = 15) → (((kind = 10 ∨ kind = 11) ∧ decode row.2.2.1 pc = .ok (.invokevirtual idx, 3)) ∨ ((kind = 14 ∨ kind = 15) ∧ decode row.2.2.1 pc = .ok (.invokespecial idx, 3))) → mK p l e R s m args below meth c Q G row.2.2.2.1 d0 s0 pc L st D := by
                    intro idx hki hk hd2
                    obtain ⟨hkd, hL0, hrm⟩ := mEck_at he hki
                    dsimp only at hL0 hrm
                    have hrm' : mRm row kind a = true := by
                      rcases hrm with h9 | h9
                      · have := Nat.blt_eq.mp h9
                        omega
                      · exact h9
                    obtain ⟨rr', hrr', -, -, r5, r6⟩ := mRm_at (by omega) hrm'
                    have e9 : rr' = rr := Option.some.inj (hrr'.symm.trans hm)
                    subst e9
                    refine c_inst hk C (by omega) (by omega) h1 h2 (by omega) hrm' hL0 ?_ hb1 hwt (hrv rfl) (fun row' hrow' => by
                      have e8 : row' = rr' := Option.some.inj (hrow'.symm.trans hm)
                      subst e8
                      exact m_met ih hm r5 r6 (fun w hw => mC1_cat hc1 w (List.mem_reverse.mp hw)) hnb hz (by omega)) k
                    rcases hd2 with h9 | ⟨h9, h8⟩
                    · exact Or.inl h9
                    · refine Or.inr ⟨h9, h8, fun row' hrow' => ?_⟩
                      have hq := List.all_eq_true.mp mNi_ck _ (List.mem_of_getElem? hL0)
                      rw [hrow'] at hq
                      rcases h9 with rfl | rfl
                      · simpa using hq
                      · simpa using hq
                  rcases hi with ⟨idx, hi⟩ | ⟨idx, hi⟩
                  · subst hi
                    have hlen : len = 3 := by
                      unfold mEck at he
                      rw [Bool.and_eq_true] at he
                      exact mLen_of he.1 rfl
                    subst hlen
                    obtain ⟨hkd, -, -⟩ := mEck_at he rfl
                    simp only [mKd, Bool.or_eq_true] at hkd
                    have hk : kind = 10 ∨ kind = 11 := by
                      rcases hkd with ((hkd | hkd) | hkd) | hkd
                      · exact Or.inl (Nat.eq_of_beq_eq_true hkd)
                      · exact Or.inr (Nat.eq_of_beq_eq_true hkd)
                      · exact absurd (Nat.eq_of_beq_eq_true hkd) n2
                      · exact absurd (Nat.eq_of_beq_eq_true hkd) n3
                    exact hfin idx rfl (by omega) (Or.inl ⟨hk, hd⟩)
                  · subst hi
                    have hlen : len = 3 := by
                      unfold mEck at he
                      rw [Bool.and_eq_true] at he
                      exact mLen_of he.1 rfl
                    subst hlen
                    obtain ⟨hkd, -, -⟩ := mEck_at he rfl
                    simp only [mKd, Bool.or_eq_true] at hkd
                    have hk : kind = 14 ∨ kind = 15 := by
                      rcases hkd with (hkd | hkd) | hkd
                      · exact Or.inl (Nat.eq_of_beq_eq_true hkd)
                      · exact Or.inr (Nat.eq_of_beq_eq_true hkd)
                      · exact absurd (Nat.eq_of_beq_eq_true hkd) n0
                    exact hfin idx rfl (by omega) (Or.inr ⟨hk, hd⟩)
              · cases h
