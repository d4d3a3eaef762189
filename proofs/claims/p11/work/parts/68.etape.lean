/-! ===== the tape fed and wiped ===== -/
def shb (a : Int32) (i : Nat) : Int32 := a >>> (nI 8 * nI i &&& 31)
def cvC (x : Int32) : Int32 := x.toInt8.toInt32.toInt8.toInt32
def cvR (x : Int32) : Int32 := x &&& nI 255
def fTp (cv : Int32 → Int32) (a : Int32) : Nat → Nat → (Nat → Int32) → (Nat → Int32)
  | 0, _, T => T
  | i + 1, c, T => fTp cv a i (c + 1) (put1 T c (cv (shb a i)))
def fFeed (cv : Int32 → Int32) (c : Int32) (T : Nat → Int32) (a1 a2 : Int32) : Int32 × Int32 × (Nat → Int32) :=
  if bI (nI 1 ≤ a2 ∧ a2 ≤ nI 4) = 0 then (-1000001, c, T) else if nI 120 < c + a2 then (-1000002, c, T) else (c + a2, c + a2, fTp cv a1 a2.toNatClampNeg c.toNatClampNeg T)
theorem b255 : ∀ i, i < 32 → (255#32).getLsbD i = decide (i < 8) := by decide +kernel
theorem cv_ok (x : Int32) : cvR x = cvC x &&& 255 ∧ cvC x = (cvR x).toInt8.toInt32 := by
  constructor
  · apply Int32.toBitVec_inj.mp
    apply BitVec.eq_of_getLsbD_eq
    intro i hi
    have e := b255 i hi
    have e2 : (255 : Int32).toBitVec = 255#32 := by decide +kernel
    have e3 : (nI 255).toBitVec = 255#32 := by decide +kernel
    simp only [cvR, cvC, Int32.toBitVec_and, e2, e3, BitVec.getLsbD_and, e, Int8.toBitVec_toInt32, Int32.toBitVec_toInt8, BitVec.getLsbD_signExtend, BitVec.getLsbD_setWidth]
    by_cases h : i < 8
    · simp [h, hi]
    · simp [h]
  · apply Int32.toBitVec_inj.mp
    apply BitVec.eq_of_getLsbD_eq
    intro i hi
    have e := b255 i hi
    have e7 := b255 7 (by decide)
    have e3 : (nI 255).toBitVec = 255#32 := by decide +kernel
    simp only [cvR, cvC, Int32.toBitVec_and, e3, BitVec.getLsbD_and, e, Int8.toBitVec_toInt32, Int32.toBitVec_toInt8, BitVec.getLsbD_signExtend, BitVec.getLsbD_setWidth, BitVec.msb_eq_getLsbD_last]
    by_cases h : i < 8
    · simp [h, hi]
    · simp [h, hi, e7]
def Tr (T S : Nat → Int32) : Prop := ∀ k, k < 120 → S k = T k &&& 255 ∧ T k = (S k).toInt8.toInt32
theorem Tr.put {T S : Nat → Int32} {c : Nat} {x : Int32} (h : Tr T S) : Tr (put1 T c (cvC x)) (put1 S c (cvR x)) := by
  intro k hk
  by_cases e : k = c
  · subst e
    rw [put1_s, put1_s]
    exact cv_ok x
  · rw [put1_o e, put1_o e]
    exact h k hk
theorem Tr.tp {a : Int32} : ∀ (i c : Nat) (T S : Nat → Int32), Tr T S → Tr (fTp cvC a i c T) (fTp cvR a i c S) := by
  intro i
  induction i with
  | zero => intro c T S h; exact h
  | succ i ih => intro c T S h; exact ih _ _ _ h.put
theorem Tr.feed {c a1 a2 : Int32} {T S : Nat → Int32} (h : Tr T S) : Tr (fFeed cvC c T a1 a2).2.2 (fFeed cvR c S a1 a2).2.2 ∧ (fFeed cvC c T a1 a2).2.1 = (fFeed cvR c S a1 a2).2.1 ∧ (fFeed cvC c T a1 a2).1 = (fFeed cvR c S a1 a2).1 := by
  unfold fFeed
  split
  · exact ⟨h, rfl, rfl⟩
  · split
    · exact ⟨h, rfl, rfl⟩
    · exact ⟨h.tp _ _ _ _, rfl, rfl⟩
section EU
variable {X : mSc} {Q : Option Value → mHp → Prop} {M : mM}
/-- the reader's tape became so -/
def Fc (q : Int32 × Int32 × (Nat → Int32)) (v : Int32) (M M' : mM) : Prop := v = q.1 ∧ M' 52 1 = q.2.1 ∧ M' 53 = q.2.2 ∧ ∀ a, (a < 35 ∨ (51 < a ∧ a ≠ 52 ∧ a ≠ 53 ∧ a ≠ 55 ∧ a ≠ 56 ∧ a ≠ 57)) → M' a = M a
def Fr (q : Int32 × Int32 × (Nat → Int32)) (v : Int32) (M M' : mM) : Prop := v = q.1 ∧ M' 66 9 = q.2.1 ∧ M' 73 = q.2.2 ∧ M' 66 3 = M 66 3 ∧ M' 66 6 = M 66 6 ∧ ∀ a, a ≠ 66 → a ≠ 70 → a ≠ 73 → M' a = M a
theorem Fc.cn {q : Int32 × Int32 × (Nat → Int32)} {v : Int32} {N : mM} (hM : cnm M = M) (h : Fc q v M N) : Fc q v M (cnm N) := ⟨h.1, h.2.1, h.2.2.1, fun a ha => cn_fr hM (h.2.2.2 a ha)⟩
theorem Fr.cn {q : Int32 × Int32 × (Nat → Int32)} {v : Int32} {N : mM} (hM : cnm M = M) (h : Fr q v M N) : Fr q v M (cnm N) := ⟨h.1, h.2.1, h.2.2.1, h.2.2.2.1, h.2.2.2.2.1, fun a b c d => cn_fr hM (h.2.2.2.2.2 a b c d)⟩
theorem Bq.fc {N : mM} {v : Int32} (g : Bq 35 M N) : Fc (v, M 52 1, M 53) v M N := ⟨rfl, by rw [g.2.1 52 (by decide)], g.2.1 53 (by decide), fun a ha => g.2.1 a (by omega)⟩
theorem fnd_fr {v : Int32} : Fr (v, M 66 9, M 73) v M (fndR M v) := by
  have e : ∀ a, a ≠ 70 → fndR M v a = M a := fun a h => (mpo h).trans (mpo h)
  exact ⟨rfl, by rw [e 66 (by decide)], e 73 (by decide), by rw [e 66 (by decide)], by rw [e 66 (by decide)], fun a _ h _ => e a h⟩
theorem J.tape {M1 M2 : mM} {v w : Int32} {q p : Int32 × Int32 × (Nat → Int32)} (h : J M) (c : Ck M M1) (f : Fc q v M M1) (i : Inv M2) (n : cnm M2 = M2) (g : Fr p w M1 M2) (h1 : q.2.1 = p.2.1) (ht : Tr q.2.2 p.2.2) : J M2 := by
  obtain ⟨j1, j2, j3, j4, j5, j6, j7⟩ := h
  obtain ⟨-, f2, f3, f4⟩ := f
  obtain ⟨-, g2, g3, g4, g5, g6⟩ := g
  have l : ∀ a, a < 66 → (a < 35 ∨ (51 < a ∧ a ≠ 52 ∧ a ≠ 53 ∧ a ≠ 55 ∧ a ≠ 56 ∧ a ≠ 57)) → M2 a = M a := fun a ga gb => (g6 a (by omega) (by omega) (by omega)).trans (f4 a gb)
  have u : ∀ a, 66 < a → a ≠ 70 → a ≠ 73 → M2 a = M a := fun a ga gb gc => (g6 a (by omega) gb gc).trans (c.2 a (by omega))
  have e66 : M1 66 = M 66 := c.2 66 (by decide)
  refine ⟨i, n, j3.of (fun x _ hx => l x (by omega) (by omega)) (u 67 (by decide) (by decide) (by decide)), j4.of (by rw [l 0 (by decide) (by decide)]) (by rw [g4, e66]) (fun x _ hx => l x (by omega) (by omega)) (u 68 (by decide) (by decide) (by decide)), ⟨?_, ?_⟩, j6.of (fun x _ _ => l x (by omega) (by omega)) (u 76 (by decide) (by decide) (by decide)) (u 77 (by decide) (by decide) (by decide)) (u 78 (by decide) (by decide) (by decide)), by rw [g5, e66]; exact j7⟩
  · rw [g6 52 (by decide) (by decide) (by decide), f2, g2, h1]
  · rw [g6 53 (by decide) (by decide) (by decide), f3, g3]
    exact ht
theorem m87 {b nn : Int32} : ∀ (n j c : Nat) (M1 : mM), j < n → c + j ≤ 120 → M1 52 1 = nI c → mEv X (QI (fun v M' => v = nI (c + j) ∧ M' 52 1 = nI (c + j) ∧ M' 53 = fTp cvC b j c (M1 53) ∧ ∀ a, a ≠ 52 → a ≠ 53 → M' a = M1 a)) 87 41 [some (.ref 0), some (.int b), some (.int nn), some (.int (nI j + (-1)))] [] (con M1) := by
  have hm : mMet 87 = some _ := rfl
  intro n
  induction n with
  | zero =>
    intro j c M1 hj hc hc1
    omega
  | succ n ih =>
    intro j c M1 hj hc hc1
    refine x_iload_n hm rfl rfl ?_
    refine x_if_lt hm rfl (t := 65) rfl (fun h1 => ?_) (fun h1 => ?_)
    · obtain rfl : j = 0 := by
        cases j with
        | zero => rfl
        | succ i => rw [dec1] at h1; exact absurd h1 (jI_nn (by omega))
      refine x_aload_n hm rfl rfl ?_
      refine x_getf hm rfl (gR rfl rfl) ?_
      refine x_getf hm rfl (gI rfl rfl) ?_
      refine x_iret hm rfl rfl (by first | rfl | exact bI_nar | decide) ?_
      exact ⟨_, _, rfl, rfl, hc1, hc1, rfl, fun _ _ _ => rfl⟩
    · obtain ⟨i, rfl⟩ : ∃ i, j = i + 1 := by
        cases j with
        | zero => exact absurd (by decide) h1
        | succ i => exact ⟨i, rfl⟩
      rw [dec1]
      refine x_aload_n hm rfl rfl ?_
      refine x_getf hm rfl (gR rfl rfl) ?_
      refine x_iload_n hm rfl rfl ?_
      refine x_bipush hm rfl (v := nI 8) (by decide) ?_
      refine x_iload_n hm rfl rfl ?_
      refine x_imul hm rfl ?_
      refine x_ishr hm rfl ?_
      refine x_i2b hm rfl ?_
      refine x_cVv hm rfl rfl (t88 hc1 (by omega)) (fun M2 r2 => ?_)
      refine x_iinc hm rfl rfl (v := (-1 : Int32)) (by decide) rfl ?_
      refine x_goto hm rfl (t := 41) rfl ?_
      subst r2
      refine ev_mono (ih i (c + 1) _ (by omega) (by omega) mp0) (fun r0 D ⟨v, M3, g1, g2, g3, g4, g5, g6⟩ => ⟨v, M3, g1, g2, g3.trans (by congr 1; omega), g4.trans (by congr 1; omega), ?_, fun a h1 h2 => (g6 a h1 h2).trans ((mpo h1).trans (mpo h2))⟩)
      rw [g5, mpo (by decide)]
      show fTp cvC b i (c + 1) _ = fTp cvC b i (c + 1) _
      congr 1
      funext k
      unfold mput put1
      by_cases e : k = c
      · rw [if_pos ⟨rfl, e⟩, if_pos e]; rfl
      · rw [if_neg (fun z => e z.2), if_neg e]
theorem g87 {a1 a2 : Int32} {c : Nat} (hc9 : M 52 1 = nI c) (hc : c ≤ 120) : ∃ v M', mT X 87 [.ref 0, .int a1, .int a2] (con M) (some (.int v)) (con M') ∧ Fc (fFeed cvC (M 52 1) (M 53) a1 a2) v M M' := by
  refine ti_of (row := _) rfl (Nat.le_of_ble_eq_true rfl) ?_
  have hm : mMet 87 = some _ := rfl
  refine x_iload_n hm rfl rfl ?_
  refine x_iconst hm rfl (v := nI 1) (by decide) ?_
  refine x_iconst hm rfl (v := nI 4) (by decide) ?_
  refine x_callS hm rfl rfl (t6) ?_
  refine x_if_ne hm rfl (t := 16) rfl (fun h1 => ?_) (fun h1 => ?_)
  · obtain ⟨a, ha, ha1, rfl⟩ := le1_k (by omega) (bI_ne0 h1)
    refine x_aload_n hm rfl rfl ?_
    refine x_getf hm rfl (gR rfl rfl) ?_
    refine x_getf hm rfl (gI rfl rfl) ?_
    rw [hc9]
    refine x_iload_n hm rfl rfl ?_
    refine x_iadd hm rfl ?_
    refine x_bipush hm rfl (v := nI 120) (by decide) ?_
    refine x_icmp_le hm rfl (t := 37) rfl (fun h2 => ?_) (fun h2 => ?_)
    · have hng : ¬ nI 120 < nI c + nI a := Int32.not_lt.mpr h2
      have hle : c + a ≤ 120 := by
        rw [jI_add] at h2
        exact (jI_le (by omega) (by decide)).mp h2
      refine x_iload_n hm rfl rfl ?_
      refine x_iconst hm rfl (v := nI 1) (by decide) ?_
      refine x_isub hm rfl ?_
      rw [sub1]
      refine x_istore_n hm rfl rfl ?_
      have hq : fFeed cvC (M 52 1) (M 53) a1 (nI a) = (nI (c + a), nI (c + a), fTp cvC a1 a c (M 53)) := by
        unfold fFeed
        rw [hc9, if_neg (by assumption), if_neg (by assumption), jI_nat (by omega), jI_nat (by omega), jI_add]
      exact ev_mono (m87 _ a c _ (Nat.lt_succ_self _) hle hc9) (fun r0 D ⟨v, M3, g1, g2, g3, g4, g5, g6⟩ => ⟨v, M3, g1, g2, by rw [← hc9, hq]; exact ⟨g3, g4, g5, fun x hx => g6 x (by omega) (by omega)⟩⟩)
    · have hps : nI 120 < nI c + nI a := Int32.not_le.mp h2
      refine x_aload_n hm rfl rfl ?_
      refine x_ldcI hm rfl (v := (-1000002 : Int32)) (by decide +kernel) ?_
      refine x_cVi hm rfl rfl (t7 (by decide +kernel)) (fun v3 M3 r3 => ?_)
      refine x_iret hm rfl rfl (by first | rfl | exact bI_nar | decide) ?_
      first
        | (have hq : fFeed cvC (M 52 1) (M 53) a1 (nI a) = (-1000002, M 52 1, M 53) := by
             unfold fFeed
             rw [hc9]
             rw [if_neg (by assumption), if_pos (by assumption)]
           exact ⟨_, _, rfl, rfl, by rw [← hc9, hq, r3.1]; exact r3.2.fc⟩)
        | (have hq : fFeed cvC (M 52 1) (M 53) a1 (nI a) = (-1000002, M 52 1, M 53) := by
             unfold fFeed
             rw [hc9]
             rw [if_neg (by assumption), if_pos (by assumption)]
           exact ⟨_, _, rfl, rfl, by rw [← hc9, hq, r1.1]; exact r1.2.fc⟩)
        | (have hq : fFeed cvC (M 52 1) (M 53) a1 (nI a) = (-1000002, M 52 1, M 53) := by
             unfold fFeed
             rw [hc9]
             rw [if_neg (by assumption), if_pos (by assumption)]
           exact ⟨_, _, rfl, rfl, by rw [← hc9, hq, r2.1]; exact r2.2.fc⟩)
        | (have hq : fFeed cvC (M 52 1) (M 53) a1 (nI a) = (-1000002, M 52 1, M 53) := by
             unfold fFeed
             rw [hc9]
             rw [if_neg (by assumption), if_pos (by assumption)]
           exact ⟨_, _, rfl, rfl, by rw [← hc9, hq, r4.1]; exact r4.2.fc⟩)
        | (have hq : fFeed cvC (M 52 1) (M 53) a1 (nI a) = (-1000002, M 52 1, M 53) := by
             unfold fFeed
             rw [hc9]
             rw [if_neg (by assumption), if_pos (by assumption)]
           exact ⟨_, _, rfl, rfl, by rw [← hc9, hq, r5.1]; exact r5.2.fc⟩)
        | (have hq : fFeed cvC (M 52 1) (M 53) a1 (nI a) = (-1000002, M 52 1, M 53) := by
             unfold fFeed
             rw [hc9]
             rw [if_neg (by assumption), if_pos (by assumption)]
           exact ⟨_, _, rfl, rfl, by rw [← hc9, hq, r6.1]; exact r6.2.fc⟩)
        | (have hq : fFeed cvC (M 52 1) (M 53) a1 (nI a) = (-1000002, M 52 1, M 53) := by
             unfold fFeed
             rw [hc9]
             rw [if_neg (by assumption), if_pos (by assumption)]
           exact ⟨_, _, rfl, rfl, by rw [← hc9, hq, r7.1]; exact r7.2.fc⟩)
        | (have hq : fFeed cvC (M 52 1) (M 53) a1 (nI a) = (-1000002, M 52 1, M 53) := by
             unfold fFeed
             rw [hc9]
             rw [if_neg (by assumption), if_pos (by assumption)]
           exact ⟨_, _, rfl, rfl, by rw [← hc9, hq, r8.1]; exact r8.2.fc⟩)
  · refine x_aload_n hm rfl rfl ?_
    refine x_ldcI hm rfl (v := (-1000001 : Int32)) (by decide +kernel) ?_
    refine x_cVi hm rfl rfl (t7 (by decide +kernel)) (fun v4 M4 r4 => ?_)
    refine x_iret hm rfl rfl (by first | rfl | exact bI_nar | decide) ?_
    first
      | (have hq : fFeed cvC (M 52 1) (M 53) a1 a2 = (-1000001, M 52 1, M 53) := by
           unfold fFeed
           rw [if_pos (by assumption)]
         exact ⟨_, _, rfl, rfl, by rw [hq, r4.1]; exact r4.2.fc⟩)
      | (have hq : fFeed cvC (M 52 1) (M 53) a1 a2 = (-1000001, M 52 1, M 53) := by
           unfold fFeed
           rw [if_pos (by assumption)]
         exact ⟨_, _, rfl, rfl, by rw [hq, r1.1]; exact r1.2.fc⟩)
      | (have hq : fFeed cvC (M 52 1) (M 53) a1 a2 = (-1000001, M 52 1, M 53) := by
           unfold fFeed
           rw [if_pos (by assumption)]
         exact ⟨_, _, rfl, rfl, by rw [hq, r2.1]; exact r2.2.fc⟩)
      | (have hq : fFeed cvC (M 52 1) (M 53) a1 a2 = (-1000001, M 52 1, M 53) := by
           unfold fFeed
           rw [if_pos (by assumption)]
         exact ⟨_, _, rfl, rfl, by rw [hq, r3.1]; exact r3.2.fc⟩)
      | (have hq : fFeed cvC (M 52 1) (M 53) a1 a2 = (-1000001, M 52 1, M 53) := by
           unfold fFeed
           rw [if_pos (by assumption)]
         exact ⟨_, _, rfl, rfl, by rw [hq, r5.1]; exact r5.2.fc⟩)
      | (have hq : fFeed cvC (M 52 1) (M 53) a1 a2 = (-1000001, M 52 1, M 53) := by
           unfold fFeed
           rw [if_pos (by assumption)]
         exact ⟨_, _, rfl, rfl, by rw [hq, r6.1]; exact r6.2.fc⟩)
      | (have hq : fFeed cvC (M 52 1) (M 53) a1 a2 = (-1000001, M 52 1, M 53) := by
           unfold fFeed
           rw [if_pos (by assumption)]
         exact ⟨_, _, rfl, rfl, by rw [hq, r7.1]; exact r7.2.fc⟩)
      | (have hq : fFeed cvC (M 52 1) (M 53) a1 a2 = (-1000001, M 52 1, M 53) := by
           unfold fFeed
           rw [if_pos (by assumption)]
         exact ⟨_, _, rfl, rfl, by rw [hq, r8.1]; exact r8.2.fc⟩)
theorem g89 : ∃ v M', mT X 89 [.ref 0] (con M) (some (.int v)) (con M') ∧ Fc (M 52 1, 0, M 53) v M M' := by
  refine ti_of (row := _) rfl (Nat.le_of_ble_eq_true rfl) ?_
  have hm : mMet 89 = some _ := rfl
  refine x_aload_n hm rfl rfl ?_
  refine x_getf hm rfl (gR rfl rfl) ?_
  refine x_getf hm rfl (gI rfl rfl) ?_
  refine x_istore_n hm rfl rfl ?_
  refine x_aload_n hm rfl rfl ?_
  refine x_getf hm rfl (gR rfl rfl) ?_
  refine x_iconst hm rfl (v := nI 0) (by decide) ?_
  refine x_putf hm rfl (pI rfl rfl (by decide) (by first | exact mFit_int | rfl | decide) rfl) ?_
  refine x_iload_n hm rfl rfl ?_
  refine x_iret hm rfl rfl (by first | rfl | exact bI_nar | decide) ?_
  exact ⟨_, _, rfl, rfl, rfl, mp0, mpo (by decide), fun a ha => mpo (by omega)⟩
theorem m218 {b nn : Int32} : ∀ (n j c : Nat) (M1 : mM), j < n → c + j ≤ 120 → M1 66 9 = nI c → mEv X (QI (fun v M' => v = nI (c + j) ∧ M' 66 9 = nI (c + j) ∧ M' 73 = fTp cvR b j c (M1 73) ∧ M' 66 3 = M1 66 3 ∧ M' 66 6 = M1 66 6 ∧ ∀ a, a ≠ 66 → a ≠ 73 → M' a = M1 a)) 218 38 [some (.ref 66), some (.int b), some (.int nn), some (.int (nI j + (-1)))] [] (con M1) := by
  have hm : mMet 218 = some _ := rfl
  intro n
  induction n with
  | zero =>
    intro j c M1 hj hc hm9
    omega
  | succ n ih =>
    intro j c M1 hj hc hm9
    refine x_iload_n hm rfl rfl ?_
    refine x_if_lt hm rfl (t := 77) rfl (fun h1 => ?_) (fun h1 => ?_)
    · obtain rfl : j = 0 := by
        cases j with
        | zero => rfl
        | succ i => rw [dec1] at h1; exact absurd h1 (jI_nn (by omega))
      refine x_aload_n hm rfl rfl ?_
      refine x_getf hm rfl (gI rfl rfl) ?_
      refine x_iret hm rfl rfl (by first | rfl | exact bI_nar | decide) ?_
      exact ⟨_, _, rfl, rfl, hm9, hm9, rfl, rfl, rfl, fun _ _ _ => rfl⟩
    · obtain ⟨i, rfl⟩ : ∃ i, j = i + 1 := by
        cases j with
        | zero => exact absurd (by decide) h1
        | succ i => exact ⟨i, rfl⟩
      rw [dec1]
      refine x_aload_n hm rfl rfl ?_
      refine x_getf hm rfl (gR rfl rfl) ?_
      refine x_aload_n hm rfl rfl ?_
      refine x_getf hm rfl (gI rfl rfl) ?_
      rw [hm9]
      refine x_iload_n hm rfl rfl ?_
      refine x_bipush hm rfl (v := nI 8) (by decide) ?_
      refine x_iload_n hm rfl rfl ?_
      refine x_imul hm rfl ?_
      refine x_ishr hm rfl ?_
      refine x_sipush hm rfl (v := nI 255) (by decide) ?_
      refine x_iand hm rfl ?_
      refine x_iast hm rfl (sI rfl (by omega) (by decide)) ?_
      refine x_aload_n hm rfl rfl ?_
      refine x_dup hm rfl rfl ?_
      refine x_getf hm rfl (gI rfl rfl) ?_
      rw [mput_ne (a := 73) (i := 66) (by decide), hm9]
      refine x_iconst hm rfl (v := nI 1) (by decide) ?_
      refine x_iadd hm rfl ?_
      rw [jI_add]
      refine x_putf hm rfl (pI rfl rfl (by decide) (by first | exact mFit_int | rfl | decide) rfl) ?_
      refine x_iinc hm rfl rfl (v := (-1 : Int32)) (by decide) rfl ?_
      refine x_goto hm rfl (t := 38) rfl ?_
      refine ev_mono (ih i (c + 1) _ (by omega) (by omega) mp0) (fun r0 D ⟨v, M3, g1, g2, g3, g4, g5, g6, g7, g8⟩ => ⟨v, M3, g1, g2, g3.trans (by congr 1; omega), g4.trans (by congr 1; omega), ?_, g6.trans ((mpf (by decide)).trans (congrFun (mpo (by decide)) 3)), g7.trans ((mpf (by decide)).trans (congrFun (mpo (by decide)) 6)), fun a h1 h2 => (g8 a h1 h2).trans ((mpo h1).trans (mpo h2))⟩)
      rw [g5, mpo (by decide)]
      show fTp cvR b i (c + 1) _ = fTp cvR b i (c + 1) _
      congr 1
      funext k
      unfold mput put1
      by_cases e : k = c
      · rw [if_pos ⟨rfl, e⟩, if_pos e]; rfl
      · rw [if_neg (fun z => e z.2), if_neg e]
theorem g218 {a1 a2 : Int32} {c : Nat} (hc9 : M 66 9 = nI c) (hc : c ≤ 120) : ∃ v M', mT X 218 [.ref 66, .int a1, .int a2] (con M) (some (.int v)) (con M') ∧ Fr (fFeed cvR (M 66 9) (M 73) a1 a2) v M M' := by
  refine ti_of (row := _) rfl (Nat.le_of_ble_eq_true rfl) ?_
  have hm : mMet 218 = some _ := rfl
  refine x_iload_n hm rfl rfl ?_
  refine x_iconst hm rfl (v := nI 1) (by decide) ?_
  refine x_iconst hm rfl (v := nI 4) (by decide) ?_
  refine x_callS hm rfl rfl (t133) ?_
  refine x_if_ne hm rfl (t := 16) rfl (fun h1 => ?_) (fun h1 => ?_)
  · obtain ⟨a, ha, ha1, rfl⟩ := le1_k (by omega) (bI_ne0 h1)
    refine x_aload_n hm rfl rfl ?_
    refine x_getf hm rfl (gI rfl rfl) ?_
    rw [hc9]
    refine x_iload_n hm rfl rfl ?_
    refine x_iadd hm rfl ?_
    refine x_bipush hm rfl (v := nI 120) (by decide) ?_
    refine x_icmp_le hm rfl (t := 34) rfl (fun h2 => ?_) (fun h2 => ?_)
    · have hng : ¬ nI 120 < nI c + nI a := Int32.not_lt.mpr h2
      have hle : c + a ≤ 120 := by
        rw [jI_add] at h2
        exact (jI_le (by omega) (by decide)).mp h2
      refine x_iload_n hm rfl rfl ?_
      refine x_iconst hm rfl (v := nI 1) (by decide) ?_
      refine x_isub hm rfl ?_
      rw [sub1]
      refine x_istore_n hm rfl rfl ?_
      have hq : fFeed cvR (M 66 9) (M 73) a1 (nI a) = (nI (c + a), nI (c + a), fTp cvR a1 a c (M 73)) := by
        unfold fFeed
        rw [hc9, if_neg (by assumption), if_neg (by assumption), jI_nat (by omega), jI_nat (by omega), jI_add]
      exact ev_mono (m218 _ a c _ (Nat.lt_succ_self _) hle hc9) (fun r0 D ⟨v, M3, g1, g2, g3, g4, g5, g6, g7, g8⟩ => ⟨v, M3, g1, g2, by rw [← hc9, hq]; exact ⟨g3, g4, g5, g6, g7, fun x h1 _ h3 => g8 x h1 h3⟩⟩)
    · have hps : nI 120 < nI c + nI a := Int32.not_le.mp h2
      refine x_aload_n hm rfl rfl ?_
      refine x_ldcI hm rfl (v := (-1000002 : Int32)) (by decide +kernel) ?_
      refine x_callV hm rfl rfl (e135 (by decide +kernel)) ?_
      refine x_iret hm rfl rfl (by first | rfl | exact bI_nar | decide) ?_
      have hq : fFeed cvR (M 66 9) (M 73) a1 (nI a) = (-1000002, M 66 9, M 73) := by
        unfold fFeed
        rw [hc9]
        rw [if_neg (by assumption), if_pos (by assumption)]
      exact ⟨_, _, rfl, rfl, by rw [← hc9, hq]; exact fnd_fr⟩
  · refine x_aload_n hm rfl rfl ?_
    refine x_ldcI hm rfl (v := (-1000001 : Int32)) (by decide +kernel) ?_
    refine x_callV hm rfl rfl (e135 (by decide +kernel)) ?_
    refine x_iret hm rfl rfl (by first | rfl | exact bI_nar | decide) ?_
    have hq : fFeed cvR (M 66 9) (M 73) a1 a2 = (-1000001, M 66 9, M 73) := by
      unfold fFeed
      rw [if_pos (by assumption)]
    exact ⟨_, _, rfl, rfl, by rw [hq]; exact fnd_fr⟩
theorem g219 : ∃ v M', mT X 219 [.ref 66] (con M) (some (.int v)) (con M') ∧ Fr (M 66 9, 0, M 73) v M M' := by
  refine ti_of (row := _) rfl (Nat.le_of_ble_eq_true rfl) ?_
  have hm : mMet 219 = some _ := rfl
  refine x_aload_n hm rfl rfl ?_
  refine x_getf hm rfl (gI rfl rfl) ?_
  refine x_istore_n hm rfl rfl ?_
  refine x_aload_n hm rfl rfl ?_
  refine x_iconst hm rfl (v := nI 0) (by decide) ?_
  refine x_putf hm rfl (pI rfl rfl (by decide) (by first | exact mFit_int | rfl | decide) rfl) ?_
  refine x_iload_n hm rfl rfl ?_
  refine x_iret hm rfl rfl (by first | rfl | exact bI_nar | decide) ?_
  exact ⟨_, _, rfl, rfl, rfl, mp0, mpo (by decide), mpf (by decide), mpf (by decide), fun a h _ _ => mpo h⟩
theorem j_feed {a1 a2 : Int32} (hJ : J M) : JJ X 87 218 [.ref 0, .int a1, .int a2] [.ref 66, .int a1, .int a2] M Eq := by
  obtain ⟨c, hc, hc9⟩ := ok4 (show okx 4 (M 66 9) from hJ.1.1 66 9)
  have h52 : M 52 1 = nI c := hJ.2.2.2.2.1.1.trans hc9
  obtain ⟨v, M1, k1, k2, a3, a4⟩ := mT.both (t87 (X := X) (a1 := a1) (a2 := a2) hJ.1.1) (g87 h52 hc) (fun _ _ h => h.cn hJ.2.1) (fun _ _ h => h.cn hJ.2.1)
  obtain ⟨w, M2, b1, b2, b3, b4⟩ := mT.both (t218 (X := X) (a1 := a1) (a2 := a2) (a3.inv hJ.1)) (g218 (by rw [a3.2 66 (by decide)]; exact hc9) hc) (fun _ _ h => h.cn) (fun _ _ h => h.cn k2)
  have hT := Tr.feed (c := M 52 1) (T := M 53) (S := M1 73) (a1 := a1) (a2 := a2) (by rw [a3.2 73 (by decide)]; exact hJ.2.2.2.2.1.2)
  have e9 : M1 66 9 = M 52 1 := by rw [a3.2 66 (by decide)]; exact hJ.2.2.2.2.1.1.symm
  rw [e9] at b4
  exact ⟨v, M1, w, M2, k1, b1, hJ.tape a3 a4 b3 b2 b4 hT.2.1 hT.1, a4.1.trans (hT.2.2.trans b4.1.symm)⟩
theorem j_wipe (hJ : J M) : JJ X 89 219 [.ref 0] [.ref 66] M Eq := by
  obtain ⟨v, M1, a1, a2, a3, a4⟩ := mT.both (t89 (X := X) hJ.1.1) g89 (fun _ _ h => h.cn hJ.2.1) (fun _ _ h => h.cn hJ.2.1)
  obtain ⟨w, M2, b1, b2, b3, b4⟩ := mT.both (t219 (X := X) (a3.inv hJ.1)) g219 (fun _ _ h => h.cn) (fun _ _ h => h.cn a2)
  refine ⟨v, M1, w, M2, a1, b1, hJ.tape a3 a4 b3 b2 b4 rfl ?_, ?_⟩
  · show Tr (M 53) (M1 73)
    rw [a3.2 73 (by decide)]
    exact hJ.2.2.2.2.1.2
  · rw [a4.1, b4.1, a3.2 66 (by decide)]
    exact hJ.2.2.2.2.1.1
end EU
