section CV
variable {X : mSc} {Q : Option Value → mHp → Prop} {mid pc : Nat} {L : mLoc} {st : List Value} {D D0 l l2 : mHp} {row : mRow} {ex : Nat × Nat × Nat × Nat × Nat × Int} {i k a b d n : Nat}
theorem put_hd {o o2 : va_E} {r : mHp} {kd : Nat} {v : Value} (h : mPut row kd [o] 0 a b v = some [o2]) : mPut row kd (o :: r) 0 a b v = some (o2 :: r) := by
  unfold mPut at h ⊢
  cases o with
  | inl q => cases h
  | inr o =>
    obtain ⟨c, fs⟩ := o
    have h2 : cond _ (some ([_] : mHp)) none = some [o2] := h
    obtain ⟨hB, hl⟩ := mCond_eq h2
    have e := (List.cons.inj (Option.some.inj hl)).1
    show cond _ (some (_ :: r)) none = _
    rw [hB, ← e]
    rfl
theorem get_hd {o : va_E} {r : mHp} {v : Value} (h : mGet [o] 0 a b = some v) : mGet (o :: r) 0 a b = some v := h
noncomputable def R1 : mHp := townL 1
noncomputable def R2 : mHp := R1 ++ townL 18
noncomputable def R3 : mHp := R2 ++ townL 35
noncomputable def R4 : mHp := R3 ++ [.inr (1, [.ref 53, .int 0, .int 0, .int 0, .int 0, .int 0, .int (-1)]), .inl (1, 120, .inl (fun _ => 0))]
theorem R1_l : R1.length = 17 := rfl
theorem R2_l : R2.length = 34 := by unfold R2; rw [List.length_append, R1_l]; rfl
theorem R3_l : R3.length = 51 := by unfold R3; rw [List.length_append, R2_l]; rfl
theorem R4_l : R4.length = 53 := by unfold R4; rw [List.length_append, R3_l]; rfl
theorem hd_l {o : va_E} {r : mHp} (h : r.length = n) : (o :: r).length = n + 1 := congrArg (· + 1) h
theorem hd_la {o : va_E} {r : mHp} (h : r.length = n) (g : l.length = k) : (o :: (r ++ l)).length = n + k + 1 := by rw [List.length_cons, List.length_append, h, g]
theorem e_stq {o : va_E} {r : mHp} {m : Nat} {f : Nat → Option Nat} {fs : List Value} {v q j : Nat} (hr : r.length = 53) (h : l[0]? = some (.inl (2, m, .inr (.inr (.inr (.inr f)))))) (hv : v = 54 + q) (hq : l[q]? = some (.inr (0, fs))) (hl : l.set 0 (.inl (2, m, .inr (.inr (.inr (.inr (va_up f j (some v))))))) = l2) (hj : j < m) (hm : m ≤ 1000) : mStQ (o :: (r ++ l)) 54 (nI j) v = some (o :: (r ++ l2)) := by
  have hi : (o :: r).length = 54 := by rw [List.length_cons, hr]
  show mStQ ((o :: r) ++ l) (54 + 0) (nI j) v = some ((o :: r) ++ l2)
  unfold mStQ
  rw [app_at hi, h]
  dsimp only
  have e : mAk ((o :: r) ++ l) 2 v = true := by
    show (match ((o :: r) ++ l)[v]? with
      | some (.inr (c, _)) => Nat.beq c 0
      | _ => false) = true
    rw [hv, app_at hi, hq]
    rfl
  rw [e, jI_out hj hm, jI_nat (by omega), app_set hi, hl]
  rfl
theorem hd_sn {o : va_E} {r x : mHp} (h : l ++ x = l2) : (o :: (r ++ l)) ++ x = o :: (r ++ l2) := by
  show o :: ((r ++ l) ++ x) = _
  rw [List.append_assoc, h]
theorem nw_at {c : va_E} (h : D.length = i) : (D ++ [c])[i]? = some c := by
  rw [List.getElem?_append_right (by omega), h, Nat.sub_self]
  rfl
theorem mCallN {ins : Instr} {len j kd a n pc c : Nat} {z : Int} {st as r : List Value} {rw2 : mRow} {fs : List Value} (hk : kd = 14 ∨ kd = 15) (h1 : (st.take n).reverse = .ref b :: as) (h2 : st.drop n = r) (h3 : (Nat.ble n st.length && mC1 (st.take n) && Nat.ble (mWt (st.drop n)) 8) = true) (h4 : mMet a = some rw2) (h5 : rw2.1 = c) (hD : D[b]? = some (.inr (c, fs))) :
    mCall (ins, len, j, kd, a, n, z) true pc L st D = some (.inr (.inr (a, .ref b :: as, r))) := by
  have hr : mRcv D (st.take n).reverse a = true := by
    unfold mRcv
    rw [h1]
    dsimp only
    rw [hD, h4]
    dsimp only
    rw [h5]
    exact Nat.beq_refl c
  have key : cond (Nat.ble n st.length && mC1 (st.take n) && Nat.ble (mWt (st.drop n)) 8 && (!true || mRcv D (st.take n).reverse a)) (some ((.inr (.inr (a, (st.take n).reverse, st.drop n))) : mRes)) none = some (.inr (.inr (a, .ref b :: as, r))) := by
    rw [h3, hr, h1, h2]
    rfl
  rcases hk with rfl | rfl <;> exact key
noncomputable def E66 : mHp := .inr (3, [.ref 1, .ref 18, .ref 35, .ref 52, .ref 54, .ref 55, .int 0, .ref 56, .ref 57]) :: (R4 ++ [.inl (2, 4, .inr (.inr (.inr (.inr (va_up (va_up (va_up (va_up (fun _ => none) 0 (some 58)) 1 (some 60)) 2 (some 62)) 3 (some 64)))))), .inl (0, 7, .inl (fun _ => 0)), .inl (0, 8, .inl (fun _ => 0)), .inl (0, 8, .inl (fun _ => 0)), .inr (0, [.ref 59, .int 0, .int 0]), .inl (0, 40, .inl (fun _ => 0)), .inr (0, [.ref 61, .int 0, .int 0]), .inl (0, 40, .inl (fun _ => 0)), .inr (0, [.ref 63, .int 0, .int 0]), .inl (0, 40, .inl (fun _ => 0)), .inr (0, [.ref 65, .int 0, .int 0]), .inl (0, 40, .inl (fun _ => 0))])
theorem c0 : mT X 0 [.ref 0] [.inr (3, mDf 3)] none E66 := by
  refine mT.of (row := _) rfl (Nat.le_of_ble_eq_true rfl) ?_
  have hm : mMet 0 = some _ := rfl
  refine x_aload_n hm rfl rfl ?_
  refine x_libI hm rfl rfl ?_
  dsimp only
  refine x_aload_n hm rfl rfl ?_
  refine x_new hm rfl (d := 1) (rfl) (D2 := [.inr (3, [.null, .null, .null, .null, .null, .null, .int 0, .null, .null])] ++ [.inr (2, mDf 2)]) rfl ?_
  refine x_dup hm rfl rfl ?_
  refine x_callI hm rfl (mCallN (by decide) rfl rfl rfl rfl rfl (nw_at (rfl))) (c2 (D0 := [.inr (3, [.null, .null, .null, .null, .null, .null, .int 0, .null, .null])]) (i := 1) (rfl)) ?_
  refine x_putf hm rfl (D1 := .inr (3, [.ref 1, .null, .null, .null, .null, .null, .int 0, .null, .null]) :: R1) (put_hd rfl) ?_
  refine x_aload_n hm rfl rfl ?_
  refine x_new hm rfl (d := 18) (hd_l R1_l) (D2 := (.inr (3, [.ref 1, .null, .null, .null, .null, .null, .int 0, .null, .null]) :: R1) ++ [.inr (2, mDf 2)]) rfl ?_
  refine x_dup hm rfl rfl ?_
  refine x_callI hm rfl (mCallN (by decide) rfl rfl rfl rfl rfl (nw_at (hd_l R1_l))) (c2 (D0 := (.inr (3, [.ref 1, .null, .null, .null, .null, .null, .int 0, .null, .null]) :: R1)) (i := 18) (hd_l R1_l)) ?_
  refine x_putf hm rfl (D1 := .inr (3, [.ref 1, .ref 18, .null, .null, .null, .null, .int 0, .null, .null]) :: R2) (put_hd rfl) ?_
  refine x_aload_n hm rfl rfl ?_
  refine x_new hm rfl (d := 35) (hd_l R2_l) (D2 := (.inr (3, [.ref 1, .ref 18, .null, .null, .null, .null, .int 0, .null, .null]) :: R2) ++ [.inr (2, mDf 2)]) rfl ?_
  refine x_dup hm rfl rfl ?_
  refine x_callI hm rfl (mCallN (by decide) rfl rfl rfl rfl rfl (nw_at (hd_l R2_l))) (c2 (D0 := (.inr (3, [.ref 1, .ref 18, .null, .null, .null, .null, .int 0, .null, .null]) :: R2)) (i := 35) (hd_l R2_l)) ?_
  refine x_putf hm rfl (D1 := .inr (3, [.ref 1, .ref 18, .ref 35, .null, .null, .null, .int 0, .null, .null]) :: R3) (put_hd rfl) ?_
  refine x_aload_n hm rfl rfl ?_
  refine x_new hm rfl (d := 52) (hd_l R3_l) (D2 := (.inr (3, [.ref 1, .ref 18, .ref 35, .null, .null, .null, .int 0, .null, .null]) :: R3) ++ [.inr (1, mDf 1)]) rfl ?_
  refine x_dup hm rfl rfl ?_
  refine x_callI hm rfl (mCallN (by decide) rfl rfl rfl rfl rfl (nw_at (hd_l R3_l))) (c3 (D0 := (.inr (3, [.ref 1, .ref 18, .ref 35, .null, .null, .null, .int 0, .null, .null]) :: R3)) (i := 52) (hd_l R3_l)) ?_
  refine x_putf hm rfl (D1 := .inr (3, [.ref 1, .ref 18, .ref 35, .ref 52, .null, .null, .int 0, .null, .null]) :: R4) (put_hd rfl) ?_
  refine x_aload_n hm rfl rfl ?_
  refine x_iconst hm rfl (v := nI 4) (by decide) ?_
  refine x_ana hm rfl (by decide) (d := 54) (hd_l R4_l) (D2 := .inr (3, [.ref 1, .ref 18, .ref 35, .ref 52, .null, .null, .int 0, .null, .null]) :: (R4 ++ [.inl (2, 4, .inr (.inr (.inr (.inr (fun _ => none)))))])) rfl ?_
  refine x_putf hm rfl (D1 := .inr (3, [.ref 1, .ref 18, .ref 35, .ref 52, .ref 54, .null, .int 0, .null, .null]) :: (R4 ++ [.inl (2, 4, .inr (.inr (.inr (.inr (fun _ => none)))))])) (put_hd rfl) ?_
  refine x_aload_n hm rfl rfl ?_
  refine x_bipush hm rfl (v := nI 7) (by decide) ?_
  refine x_nai hm rfl (by decide) (d := 55) (hd_la R4_l (k := 1) rfl) (D2 := .inr (3, [.ref 1, .ref 18, .ref 35, .ref 52, .ref 54, .null, .int 0, .null, .null]) :: (R4 ++ [.inl (2, 4, .inr (.inr (.inr (.inr (fun _ => none))))), .inl (0, 7, .inl (fun _ => 0))])) (hd_sn rfl) ?_
  refine x_putf hm rfl (D1 := .inr (3, [.ref 1, .ref 18, .ref 35, .ref 52, .ref 54, .ref 55, .int 0, .null, .null]) :: (R4 ++ [.inl (2, 4, .inr (.inr (.inr (.inr (fun _ => none))))), .inl (0, 7, .inl (fun _ => 0))])) (put_hd rfl) ?_
  refine x_aload_n hm rfl rfl ?_
  refine x_iconst hm rfl (v := nI 0) (by decide) ?_
  refine x_putf hm rfl (D1 := .inr (3, [.ref 1, .ref 18, .ref 35, .ref 52, .ref 54, .ref 55, .int 0, .null, .null]) :: (R4 ++ [.inl (2, 4, .inr (.inr (.inr (.inr (fun _ => none))))), .inl (0, 7, .inl (fun _ => 0))])) (put_hd rfl) ?_
  refine x_aload_n hm rfl rfl ?_
  refine x_bipush hm rfl (v := nI 8) (by decide) ?_
  refine x_nai hm rfl (by decide) (d := 56) (hd_la R4_l (k := 2) rfl) (D2 := .inr (3, [.ref 1, .ref 18, .ref 35, .ref 52, .ref 54, .ref 55, .int 0, .null, .null]) :: (R4 ++ [.inl (2, 4, .inr (.inr (.inr (.inr (fun _ => none))))), .inl (0, 7, .inl (fun _ => 0)), .inl (0, 8, .inl (fun _ => 0))])) (hd_sn rfl) ?_
  refine x_putf hm rfl (D1 := .inr (3, [.ref 1, .ref 18, .ref 35, .ref 52, .ref 54, .ref 55, .int 0, .ref 56, .null]) :: (R4 ++ [.inl (2, 4, .inr (.inr (.inr (.inr (fun _ => none))))), .inl (0, 7, .inl (fun _ => 0)), .inl (0, 8, .inl (fun _ => 0))])) (put_hd rfl) ?_
  refine x_aload_n hm rfl rfl ?_
  refine x_bipush hm rfl (v := nI 8) (by decide) ?_
  refine x_nai hm rfl (by decide) (d := 57) (hd_la R4_l (k := 3) rfl) (D2 := .inr (3, [.ref 1, .ref 18, .ref 35, .ref 52, .ref 54, .ref 55, .int 0, .ref 56, .null]) :: (R4 ++ [.inl (2, 4, .inr (.inr (.inr (.inr (fun _ => none))))), .inl (0, 7, .inl (fun _ => 0)), .inl (0, 8, .inl (fun _ => 0)), .inl (0, 8, .inl (fun _ => 0))])) (hd_sn rfl) ?_
  refine x_putf hm rfl (D1 := .inr (3, [.ref 1, .ref 18, .ref 35, .ref 52, .ref 54, .ref 55, .int 0, .ref 56, .ref 57]) :: (R4 ++ [.inl (2, 4, .inr (.inr (.inr (.inr (fun _ => none))))), .inl (0, 7, .inl (fun _ => 0)), .inl (0, 8, .inl (fun _ => 0)), .inl (0, 8, .inl (fun _ => 0))])) (put_hd rfl) ?_
  refine x_iconst hm rfl (v := nI 0) (by decide) ?_
  refine x_istore_n hm rfl rfl ?_
  refine x_iload_n hm rfl rfl ?_
  refine x_iconst hm rfl (v := nI 4) (by decide) ?_
  refine x_icmp_ge hm rfl (t := 111) rfl (fun h => absurd h (by decide)) (fun _ => ?_)
  refine x_aload_n hm rfl rfl ?_
  refine x_getf hm rfl (get_hd rfl) ?_
  refine x_iload_n hm rfl rfl ?_
  refine x_new hm rfl (d := 58) (hd_la R4_l (k := 4) rfl) (D2 := (.inr (3, [.ref 1, .ref 18, .ref 35, .ref 52, .ref 54, .ref 55, .int 0, .ref 56, .ref 57]) :: (R4 ++ [.inl (2, 4, .inr (.inr (.inr (.inr (fun _ => none))))), .inl (0, 7, .inl (fun _ => 0)), .inl (0, 8, .inl (fun _ => 0)), .inl (0, 8, .inl (fun _ => 0))])) ++ [.inr (0, mDf 0)]) rfl ?_
  refine x_dup hm rfl rfl ?_
  refine x_callI hm rfl (mCallN (by decide) rfl rfl rfl rfl rfl (nw_at (hd_la R4_l (k := 4) rfl))) (c4 (D0 := .inr (3, [.ref 1, .ref 18, .ref 35, .ref 52, .ref 54, .ref 55, .int 0, .ref 56, .ref 57]) :: (R4 ++ [.inl (2, 4, .inr (.inr (.inr (.inr (fun _ => none))))), .inl (0, 7, .inl (fun _ => 0)), .inl (0, 8, .inl (fun _ => 0)), .inl (0, 8, .inl (fun _ => 0))])) (i := 58) (hd_la R4_l (k := 4) rfl)) ?_
  rw [show ∀ z : mHp, (.inr (3, [.ref 1, .ref 18, .ref 35, .ref 52, .ref 54, .ref 55, .int 0, .ref 56, .ref 57]) :: (R4 ++ [.inl (2, 4, .inr (.inr (.inr (.inr (fun _ => none))))), .inl (0, 7, .inl (fun _ => 0)), .inl (0, 8, .inl (fun _ => 0)), .inl (0, 8, .inl (fun _ => 0))])) ++ z = .inr (3, [.ref 1, .ref 18, .ref 35, .ref 52, .ref 54, .ref 55, .int 0, .ref 56, .ref 57]) :: (R4 ++ ([.inl (2, 4, .inr (.inr (.inr (.inr (fun _ => none))))), .inl (0, 7, .inl (fun _ => 0)), .inl (0, 8, .inl (fun _ => 0)), .inl (0, 8, .inl (fun _ => 0))] ++ z)) from fun z => hd_sn rfl]
  refine x_aast hm rfl (D1 := .inr (3, [.ref 1, .ref 18, .ref 35, .ref 52, .ref 54, .ref 55, .int 0, .ref 56, .ref 57]) :: (R4 ++ [.inl (2, 4, .inr (.inr (.inr (.inr (va_up (fun _ => none) 0 (some 58)))))), .inl (0, 7, .inl (fun _ => 0)), .inl (0, 8, .inl (fun _ => 0)), .inl (0, 8, .inl (fun _ => 0)), .inr (0, [.ref 59, .int 0, .int 0]), .inl (0, 40, .inl (fun _ => 0))])) (e_stq (q := 4) R4_l rfl rfl rfl rfl (by decide) (by decide)) ?_
  refine x_iinc hm rfl rfl (v := nI 1) (by decide) rfl ?_
  rw [jI_add]
  refine x_goto hm rfl (t := 87) rfl ?_
  refine x_iload_n hm rfl rfl ?_
  refine x_iconst hm rfl (v := nI 4) (by decide) ?_
  refine x_icmp_ge hm rfl (t := 111) rfl (fun h => absurd h (by decide)) (fun _ => ?_)
  refine x_aload_n hm rfl rfl ?_
  refine x_getf hm rfl (get_hd rfl) ?_
  refine x_iload_n hm rfl rfl ?_
  refine x_new hm rfl (d := 60) (hd_la R4_l (k := 6) rfl) (D2 := (.inr (3, [.ref 1, .ref 18, .ref 35, .ref 52, .ref 54, .ref 55, .int 0, .ref 56, .ref 57]) :: (R4 ++ [.inl (2, 4, .inr (.inr (.inr (.inr (va_up (fun _ => none) 0 (some 58)))))), .inl (0, 7, .inl (fun _ => 0)), .inl (0, 8, .inl (fun _ => 0)), .inl (0, 8, .inl (fun _ => 0)), .inr (0, [.ref 59, .int 0, .int 0]), .inl (0, 40, .inl (fun _ => 0))])) ++ [.inr (0, mDf 0)]) rfl ?_
  refine x_dup hm rfl rfl ?_
  refine x_callI hm rfl (mCallN (by decide) rfl rfl rfl rfl rfl (nw_at (hd_la R4_l (k := 6) rfl))) (c4 (D0 := .inr (3, [.ref 1, .ref 18, .ref 35, .ref 52, .ref 54, .ref 55, .int 0, .ref 56, .ref 57]) :: (R4 ++ [.inl (2, 4, .inr (.inr (.inr (.inr (va_up (fun _ => none) 0 (some 58)))))), .inl (0, 7, .inl (fun _ => 0)), .inl (0, 8, .inl (fun _ => 0)), .inl (0, 8, .inl (fun _ => 0)), .inr (0, [.ref 59, .int 0, .int 0]), .inl (0, 40, .inl (fun _ => 0))])) (i := 60) (hd_la R4_l (k := 6) rfl)) ?_
  rw [show ∀ z : mHp, (.inr (3, [.ref 1, .ref 18, .ref 35, .ref 52, .ref 54, .ref 55, .int 0, .ref 56, .ref 57]) :: (R4 ++ [.inl (2, 4, .inr (.inr (.inr (.inr (va_up (fun _ => none) 0 (some 58)))))), .inl (0, 7, .inl (fun _ => 0)), .inl (0, 8, .inl (fun _ => 0)), .inl (0, 8, .inl (fun _ => 0)), .inr (0, [.ref 59, .int 0, .int 0]), .inl (0, 40, .inl (fun _ => 0))])) ++ z = .inr (3, [.ref 1, .ref 18, .ref 35, .ref 52, .ref 54, .ref 55, .int 0, .ref 56, .ref 57]) :: (R4 ++ ([.inl (2, 4, .inr (.inr (.inr (.inr (va_up (fun _ => none) 0 (some 58)))))), .inl (0, 7, .inl (fun _ => 0)), .inl (0, 8, .inl (fun _ => 0)), .inl (0, 8, .inl (fun _ => 0)), .inr (0, [.ref 59, .int 0, .int 0]), .inl (0, 40, .inl (fun _ => 0))] ++ z)) from fun z => hd_sn rfl]
  refine x_aast hm rfl (D1 := .inr (3, [.ref 1, .ref 18, .ref 35, .ref 52, .ref 54, .ref 55, .int 0, .ref 56, .ref 57]) :: (R4 ++ [.inl (2, 4, .inr (.inr (.inr (.inr (va_up (va_up (fun _ => none) 0 (some 58)) 1 (some 60)))))), .inl (0, 7, .inl (fun _ => 0)), .inl (0, 8, .inl (fun _ => 0)), .inl (0, 8, .inl (fun _ => 0)), .inr (0, [.ref 59, .int 0, .int 0]), .inl (0, 40, .inl (fun _ => 0)), .inr (0, [.ref 61, .int 0, .int 0]), .inl (0, 40, .inl (fun _ => 0))])) (e_stq (q := 6) R4_l rfl rfl rfl rfl (by decide) (by decide)) ?_
  refine x_iinc hm rfl rfl (v := nI 1) (by decide) rfl ?_
  rw [jI_add]
  refine x_goto hm rfl (t := 87) rfl ?_
  refine x_iload_n hm rfl rfl ?_
  refine x_iconst hm rfl (v := nI 4) (by decide) ?_
  refine x_icmp_ge hm rfl (t := 111) rfl (fun h => absurd h (by decide)) (fun _ => ?_)
  refine x_aload_n hm rfl rfl ?_
  refine x_getf hm rfl (get_hd rfl) ?_
  refine x_iload_n hm rfl rfl ?_
  refine x_new hm rfl (d := 62) (hd_la R4_l (k := 8) rfl) (D2 := (.inr (3, [.ref 1, .ref 18, .ref 35, .ref 52, .ref 54, .ref 55, .int 0, .ref 56, .ref 57]) :: (R4 ++ [.inl (2, 4, .inr (.inr (.inr (.inr (va_up (va_up (fun _ => none) 0 (some 58)) 1 (some 60)))))), .inl (0, 7, .inl (fun _ => 0)), .inl (0, 8, .inl (fun _ => 0)), .inl (0, 8, .inl (fun _ => 0)), .inr (0, [.ref 59, .int 0, .int 0]), .inl (0, 40, .inl (fun _ => 0)), .inr (0, [.ref 61, .int 0, .int 0]), .inl (0, 40, .inl (fun _ => 0))])) ++ [.inr (0, mDf 0)]) rfl ?_
  refine x_dup hm rfl rfl ?_
  refine x_callI hm rfl (mCallN (by decide) rfl rfl rfl rfl rfl (nw_at (hd_la R4_l (k := 8) rfl))) (c4 (D0 := .inr (3, [.ref 1, .ref 18, .ref 35, .ref 52, .ref 54, .ref 55, .int 0, .ref 56, .ref 57]) :: (R4 ++ [.inl (2, 4, .inr (.inr (.inr (.inr (va_up (va_up (fun _ => none) 0 (some 58)) 1 (some 60)))))), .inl (0, 7, .inl (fun _ => 0)), .inl (0, 8, .inl (fun _ => 0)), .inl (0, 8, .inl (fun _ => 0)), .inr (0, [.ref 59, .int 0, .int 0]), .inl (0, 40, .inl (fun _ => 0)), .inr (0, [.ref 61, .int 0, .int 0]), .inl (0, 40, .inl (fun _ => 0))])) (i := 62) (hd_la R4_l (k := 8) rfl)) ?_
  rw [show ∀ z : mHp, (.inr (3, [.ref 1, .ref 18, .ref 35, .ref 52, .ref 54, .ref 55, .int 0, .ref 56, .ref 57]) :: (R4 ++ [.inl (2, 4, .inr (.inr (.inr (.inr (va_up (va_up (fun _ => none) 0 (some 58)) 1 (some 60)))))), .inl (0, 7, .inl (fun _ => 0)), .inl (0, 8, .inl (fun _ => 0)), .inl (0, 8, .inl (fun _ => 0)), .inr (0, [.ref 59, .int 0, .int 0]), .inl (0, 40, .inl (fun _ => 0)), .inr (0, [.ref 61, .int 0, .int 0]), .inl (0, 40, .inl (fun _ => 0))])) ++ z = .inr (3, [.ref 1, .ref 18, .ref 35, .ref 52, .ref 54, .ref 55, .int 0, .ref 56, .ref 57]) :: (R4 ++ ([.inl (2, 4, .inr (.inr (.inr (.inr (va_up (va_up (fun _ => none) 0 (some 58)) 1 (some 60)))))), .inl (0, 7, .inl (fun _ => 0)), .inl (0, 8, .inl (fun _ => 0)), .inl (0, 8, .inl (fun _ => 0)), .inr (0, [.ref 59, .int 0, .int 0]), .inl (0, 40, .inl (fun _ => 0)), .inr (0, [.ref 61, .int 0, .int 0]), .inl (0, 40, .inl (fun _ => 0))] ++ z)) from fun z => hd_sn rfl]
  refine x_aast hm rfl (D1 := .inr (3, [.ref 1, .ref 18, .ref 35, .ref 52, .ref 54, .ref 55, .int 0, .ref 56, .ref 57]) :: (R4 ++ [.inl (2, 4, .inr (.inr (.inr (.inr (va_up (va_up (va_up (fun _ => none) 0 (some 58)) 1 (some 60)) 2 (some 62)))))), .inl (0, 7, .inl (fun _ => 0)), .inl (0, 8, .inl (fun _ => 0)), .inl (0, 8, .inl (fun _ => 0)), .inr (0, [.ref 59, .int 0, .int 0]), .inl (0, 40, .inl (fun _ => 0)), .inr (0, [.ref 61, .int 0, .int 0]), .inl (0, 40, .inl (fun _ => 0)), .inr (0, [.ref 63, .int 0, .int 0]), .inl (0, 40, .inl (fun _ => 0))])) (e_stq (q := 8) R4_l rfl rfl rfl rfl (by decide) (by decide)) ?_
  refine x_iinc hm rfl rfl (v := nI 1) (by decide) rfl ?_
  rw [jI_add]
  refine x_goto hm rfl (t := 87) rfl ?_
  refine x_iload_n hm rfl rfl ?_
  refine x_iconst hm rfl (v := nI 4) (by decide) ?_
  refine x_icmp_ge hm rfl (t := 111) rfl (fun h => absurd h (by decide)) (fun _ => ?_)
  refine x_aload_n hm rfl rfl ?_
  refine x_getf hm rfl (get_hd rfl) ?_
  refine x_iload_n hm rfl rfl ?_
  refine x_new hm rfl (d := 64) (hd_la R4_l (k := 10) rfl) (D2 := (.inr (3, [.ref 1, .ref 18, .ref 35, .ref 52, .ref 54, .ref 55, .int 0, .ref 56, .ref 57]) :: (R4 ++ [.inl (2, 4, .inr (.inr (.inr (.inr (va_up (va_up (va_up (fun _ => none) 0 (some 58)) 1 (some 60)) 2 (some 62)))))), .inl (0, 7, .inl (fun _ => 0)), .inl (0, 8, .inl (fun _ => 0)), .inl (0, 8, .inl (fun _ => 0)), .inr (0, [.ref 59, .int 0, .int 0]), .inl (0, 40, .inl (fun _ => 0)), .inr (0, [.ref 61, .int 0, .int 0]), .inl (0, 40, .inl (fun _ => 0)), .inr (0, [.ref 63, .int 0, .int 0]), .inl (0, 40, .inl (fun _ => 0))])) ++ [.inr (0, mDf 0)]) rfl ?_
  refine x_dup hm rfl rfl ?_
  refine x_callI hm rfl (mCallN (by decide) rfl rfl rfl rfl rfl (nw_at (hd_la R4_l (k := 10) rfl))) (c4 (D0 := .inr (3, [.ref 1, .ref 18, .ref 35, .ref 52, .ref 54, .ref 55, .int 0, .ref 56, .ref 57]) :: (R4 ++ [.inl (2, 4, .inr (.inr (.inr (.inr (va_up (va_up (va_up (fun _ => none) 0 (some 58)) 1 (some 60)) 2 (some 62)))))), .inl (0, 7, .inl (fun _ => 0)), .inl (0, 8, .inl (fun _ => 0)), .inl (0, 8, .inl (fun _ => 0)), .inr (0, [.ref 59, .int 0, .int 0]), .inl (0, 40, .inl (fun _ => 0)), .inr (0, [.ref 61, .int 0, .int 0]), .inl (0, 40, .inl (fun _ => 0)), .inr (0, [.ref 63, .int 0, .int 0]), .inl (0, 40, .inl (fun _ => 0))])) (i := 64) (hd_la R4_l (k := 10) rfl)) ?_
  rw [show ∀ z : mHp, (.inr (3, [.ref 1, .ref 18, .ref 35, .ref 52, .ref 54, .ref 55, .int 0, .ref 56, .ref 57]) :: (R4 ++ [.inl (2, 4, .inr (.inr (.inr (.inr (va_up (va_up (va_up (fun _ => none) 0 (some 58)) 1 (some 60)) 2 (some 62)))))), .inl (0, 7, .inl (fun _ => 0)), .inl (0, 8, .inl (fun _ => 0)), .inl (0, 8, .inl (fun _ => 0)), .inr (0, [.ref 59, .int 0, .int 0]), .inl (0, 40, .inl (fun _ => 0)), .inr (0, [.ref 61, .int 0, .int 0]), .inl (0, 40, .inl (fun _ => 0)), .inr (0, [.ref 63, .int 0, .int 0]), .inl (0, 40, .inl (fun _ => 0))])) ++ z = .inr (3, [.ref 1, .ref 18, .ref 35, .ref 52, .ref 54, .ref 55, .int 0, .ref 56, .ref 57]) :: (R4 ++ ([.inl (2, 4, .inr (.inr (.inr (.inr (va_up (va_up (va_up (fun _ => none) 0 (some 58)) 1 (some 60)) 2 (some 62)))))), .inl (0, 7, .inl (fun _ => 0)), .inl (0, 8, .inl (fun _ => 0)), .inl (0, 8, .inl (fun _ => 0)), .inr (0, [.ref 59, .int 0, .int 0]), .inl (0, 40, .inl (fun _ => 0)), .inr (0, [.ref 61, .int 0, .int 0]), .inl (0, 40, .inl (fun _ => 0)), .inr (0, [.ref 63, .int 0, .int 0]), .inl (0, 40, .inl (fun _ => 0))] ++ z)) from fun z => hd_sn rfl]
  refine x_aast hm rfl (D1 := .inr (3, [.ref 1, .ref 18, .ref 35, .ref 52, .ref 54, .ref 55, .int 0, .ref 56, .ref 57]) :: (R4 ++ [.inl (2, 4, .inr (.inr (.inr (.inr (va_up (va_up (va_up (va_up (fun _ => none) 0 (some 58)) 1 (some 60)) 2 (some 62)) 3 (some 64)))))), .inl (0, 7, .inl (fun _ => 0)), .inl (0, 8, .inl (fun _ => 0)), .inl (0, 8, .inl (fun _ => 0)), .inr (0, [.ref 59, .int 0, .int 0]), .inl (0, 40, .inl (fun _ => 0)), .inr (0, [.ref 61, .int 0, .int 0]), .inl (0, 40, .inl (fun _ => 0)), .inr (0, [.ref 63, .int 0, .int 0]), .inl (0, 40, .inl (fun _ => 0)), .inr (0, [.ref 65, .int 0, .int 0]), .inl (0, 40, .inl (fun _ => 0))])) (e_stq (q := 10) R4_l rfl rfl rfl rfl (by decide) (by decide)) ?_
  refine x_iinc hm rfl rfl (v := nI 1) (by decide) rfl ?_
  rw [jI_add]
  refine x_goto hm rfl (t := 87) rfl ?_
  refine x_iload_n hm rfl rfl ?_
  refine x_iconst hm rfl (v := nI 4) (by decide) ?_
  refine x_icmp_ge hm rfl (t := 111) rfl (fun _ => ?_) (fun h => absurd (by decide) h)
  refine x_ret hm rfl rfl ?_
  exact ⟨rfl, rfl⟩
end CV
