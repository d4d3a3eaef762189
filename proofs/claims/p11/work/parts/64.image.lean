/-! ===== images: a town becomes another, exactly ===== -/
section IM
variable {X : mSc} {Q : Option Value → mHp → Prop} {M : mM} {b o nt np : Nat} {r : Nat → Int32}
theorem acp_row {i0 i1 c y : Nat} (h : y < c) : acp M i0 i1 0 0 c i1 y = M i0 y := by
  show (if i1 = i1 then va_cpy (M i0) (M i1) 0 0 c y else M i1 y) = _
  rw [if_pos rfl]
  unfold va_cpy
  rw [if_pos ⟨Nat.zero_le _, by omega⟩, Nat.sub_zero, Nat.zero_add]
theorem acp_o {i0 i1 s d c x : Nat} (h : x ≠ i1) : acp M i0 i1 s d c x = M x := funext fun y => if_neg h
def Im1 (M N : mM) : Prop := (∀ j, j < 118 → N 68 j = M 67 j) ∧ N 66 3 = nI 1 ∧ N 66 6 = M 66 6 ∧ N 66 9 = M 66 9 ∧ ∀ a, a ≠ 66 → a ≠ 68 → N a = M a
/-- k rows of things and j rows of people copied -/
def Bm (b o k j : Nat) (M M1 : mM) : Prop := (∀ a, (a < b ∨ b + 16 < a) → M1 a = M a) ∧ (∀ f t, f < k → t < 8 → M1 (b + 2 + f) t = M (o + 2 + f) t) ∧ (∀ f p, f < j → p < 8 → M1 (b + 9 + f) p = M (o + 9 + f) p) ∧ ∀ x, M1 b x = M b x
def Bf (b o : Nat) (M M1 : mM) : Prop := (∀ a, (a < b ∨ b + 16 < a) → M1 a = M a) ∧ (∀ f t, f < 6 → t < 8 → M1 (b + 2 + f) t = M (o + 2 + f) t) ∧ (∀ f p, f < 7 → p < 8 → M1 (b + 9 + f) p = M (o + 9 + f) p) ∧ (∀ s, s < 10 → M1 (b + 16) s = M (o + 16) s) ∧ M1 b 3 = M o 3 ∧ M1 b 4 = M o 4 ∧ M1 b 5 = M o 5 ∧ M1 b 6 = M o 6 ∧ M1 b 7 = M o 7
theorem Bm.rf : Bm b o 0 0 M M := ⟨fun _ _ => rfl, fun _ _ h _ => absurd h (Nat.not_lt_zero _), fun _ _ h _ => absurd h (Nat.not_lt_zero _), fun _ => rfl⟩
theorem Bm.iron (hb : b = 1 ∨ b = 18 ∨ b = 35) (ho : o = 1 ∨ o = 18 ∨ o = 35) (hbo : b ≠ o) {k : Nat} {M1 : mM} (h : Bm b o k 0 M M1) (hk : k < 6) : Bm b o (k + 1) 0 M (acp M1 (o + 2 + k) (b + 2 + k) 0 0 8) := by
  refine ⟨fun a ha => (acp_o (by omega)).trans (h.1 a ha), fun f t hf ht => ?_, fun f p hf _ => absurd hf (Nat.not_lt_zero _), fun x => ?_⟩
  · by_cases e : f = k
    · subst e
      rw [acp_row ht, h.1 _ (by omega)]
    · rw [acp_o (by omega)]
      exact h.2.1 f t (by omega) ht
  · rw [acp_o (by omega)]
    exact h.2.2.2 x
theorem Bm.folk (hb : b = 1 ∨ b = 18 ∨ b = 35) (ho : o = 1 ∨ o = 18 ∨ o = 35) (hbo : b ≠ o) {k : Nat} {M1 : mM} (h : Bm b o 6 k M M1) (hk : k < 7) : Bm b o 6 (k + 1) M (acp M1 (o + 9 + k) (b + 9 + k) 0 0 8) := by
  refine ⟨fun a ha => (acp_o (by omega)).trans (h.1 a ha), fun f t hf ht => ?_, fun f p hf hp => ?_, fun x => ?_⟩
  · rw [acp_o (by omega)]
    exact h.2.1 f t hf ht
  · by_cases e : f = k
    · subst e
      rw [acp_row hp, h.1 _ (by omega)]
    · rw [acp_o (by omega)]
      exact h.2.2.1 f p (by omega) hp
  · rw [acp_o (by omega)]
    exact h.2.2.2 x
theorem Bm.fin (hb : b = 1 ∨ b = 18 ∨ b = 35) (ho : o = 1 ∨ o = 18 ∨ o = 35) (hbo : b ≠ o) {M1 : mM} (h : Bm b o 6 7 M M1) {v3 v4 v5 v6 v7 : Int32} (e3 : v3 = M o 3) (e4 : v4 = M o 4) (e5 : v5 = M o 5) (e6 : v6 = M o 6) (e7 : v7 = M o 7) : Bf b o M (mput (mput (mput (mput (mput (acp M1 (o + 16) (b + 16) 0 0 10) b 3 v3) b 4 v4) b 5 v5) b 6 v6) b 7 v7) := by
  have q : ∀ a, a ≠ b → mput (mput (mput (mput (mput (acp M1 (o + 16) (b + 16) 0 0 10) b 3 v3) b 4 v4) b 5 v5) b 6 v6) b 7 v7 a = acp M1 (o + 16) (b + 16) 0 0 10 a := by
    intro a ha
    rw [mpo ha, mpo ha, mpo ha, mpo ha, mpo ha]
  refine ⟨fun a ha => ?_, fun f t hf ht => ?_, fun f p hf hp => ?_, fun s hs => ?_, ?_, ?_, ?_, ?_, ?_⟩
  · rw [q a (by omega), acp_o (by omega)]; exact h.1 a ha
  · rw [q _ (by omega), acp_o (by omega)]; exact h.2.1 f t hf ht
  · rw [q _ (by omega), acp_o (by omega)]; exact h.2.2.1 f p hf hp
  · rw [q _ (by omega), acp_row hs, h.1 _ (by omega)]
  · rw [mpn (by omega), mpn (by omega), mpn (by omega), mpn (by omega), mp0]; exact e3
  · rw [mpn (by omega), mpn (by omega), mpn (by omega), mp0]; exact e4
  · rw [mpn (by omega), mpn (by omega), mp0]; exact e5
  · rw [mpn (by omega), mp0]; exact e6
  · rw [mp0]; exact e7
theorem Bf.rel {M1 : mM} (hR : Rel o nt np M r) (hn8 : nt ≤ 8) (hp8 : np ≤ 8) (h : Bf b o M M1) : Rel b nt np M1 r := by
  obtain ⟨g0, g1, g2, g3, g4, g5, g6, g7, g8⟩ := h
  obtain ⟨h1, h2, h3, h4, h5, h6, h7⟩ := hR
  exact ⟨g4.trans h1, g5.trans h2, g6.trans h3, g7.trans h4, fun s hs => (g3 s hs).trans (h5 s hs), fun f t hf ht => (g1 f t hf (by omega)).trans (h6 f t hf ht), fun f p hf hp => (g2 f p hf (by omega)).trans (h7 f p hf hp)⟩
theorem m43b (hb : b = 1 ∨ b = 18 ∨ b = 35) (ho : o = 1 ∨ o = 18 ∨ o = 35) (hbo : b ≠ o) : ∀ (n k : Nat) (M1 : mM), 7 - k < n → k ≤ 7 → Bm b o 6 k M M1 → mEv X (QV (fun M' => Bf b o M M')) 43 35 [some (.ref b), some (.ref o), some (.int (nI k))] [] (con M1) := by
  have hm : mMet 43 = some _ := rfl
  intro n
  induction n with
  | zero =>
    intro k M1 hkn hkb hT
    omega
  | succ n ih =>
    intro k M1 hkn hkb hT
    refine x_iload_n hm rfl rfl ?_
    refine x_bipush hm rfl (v := nI 7) (by decide) ?_
    refine x_icmp_ge hm rfl (t := 66) rfl (fun h1 => ?_) (fun h1 => ?_)
    · obtain rfl : k = 7 := Nat.le_antisymm hkb ((jI_le (by decide) (by omega)).mp h1)
      refine x_aload_n hm rfl rfl ?_
      refine x_getf hm rfl (gR (tO ho) rfl) ?_
      refine x_iconst hm rfl (v := nI 0) (by decide) ?_
      refine x_aload_n hm rfl rfl ?_
      refine x_getf hm rfl (gR (tO hb) rfl) ?_
      refine x_iconst hm rfl (v := nI 0) (by decide) ?_
      refine x_bipush hm rfl (v := nI 10) (by decide) ?_
      refine x_lib hm rfl (acp_call (tSp ho) (tSp hb) (by decide) (by decide) ⟨by decide, by decide⟩ rfl) ?_
      dsimp only
      refine x_aload_n hm rfl rfl ?_
      refine x_aload_n hm rfl rfl ?_
      refine x_getf hm rfl (gI (tO ho) rfl) ?_
      refine x_putf hm rfl (pI (tO hb) rfl (by decide) (by first | exact mFit_int | rfl | decide) rfl) ?_
      refine x_aload_n hm rfl rfl ?_
      refine x_aload_n hm rfl rfl ?_
      refine x_getf hm rfl (gI (tO ho) rfl) ?_
      refine x_putf hm rfl (pI (tO hb) rfl (by decide) (by first | exact mFit_int | rfl | decide) rfl) ?_
      refine x_aload_n hm rfl rfl ?_
      refine x_aload_n hm rfl rfl ?_
      refine x_getf hm rfl (gI (tO ho) rfl) ?_
      refine x_putf hm rfl (pI (tO hb) rfl (by decide) (by first | exact mFit_int | rfl | decide) rfl) ?_
      refine x_aload_n hm rfl rfl ?_
      refine x_aload_n hm rfl rfl ?_
      refine x_getf hm rfl (gI (tO ho) rfl) ?_
      refine x_putf hm rfl (pI (tO hb) rfl (by decide) (by first | exact mFit_int | rfl | decide) rfl) ?_
      refine x_aload_n hm rfl rfl ?_
      refine x_aload_n hm rfl rfl ?_
      refine x_getf hm rfl (gI (tO ho) rfl) ?_
      refine x_putf hm rfl (pI (tO hb) rfl (by decide) (by first | exact mFit_int | rfl | decide) rfl) ?_
      refine x_ret hm rfl rfl ?_
      have q : ∀ x, acp M1 (o + 16) (b + 16) 0 0 10 o x = M o x := fun x => (congrFun (acp_o (by omega)) x).trans (congrFun (hT.1 o (by omega)) x)
      exact ⟨_, rfl, rfl, hT.fin hb ho hbo (q 3) ((mpn (by omega)).trans (q 4)) ((mpn (by omega)).trans ((mpn (by omega)).trans (q 5))) ((mpn (by omega)).trans ((mpn (by omega)).trans ((mpn (by omega)).trans (q 6)))) ((mpn (by omega)).trans ((mpn (by omega)).trans ((mpn (by omega)).trans ((mpn (by omega)).trans (q 7)))))⟩
    · have hk : k < 7 := Nat.lt_of_not_le fun h => h1 (nI_le h (by omega))
      refine x_aload_n hm rfl rfl ?_
      refine x_getf hm rfl (gR (tO ho) rfl) ?_
      refine x_iload_n hm rfl rfl ?_
      refine x_aald hm rfl (lQ 3 (Or.inr (Or.inl rfl)) (tF ho) (tFk (by omega)) (by omega) (by decide)) ?_
      refine x_iconst hm rfl (v := nI 0) (by decide) ?_
      refine x_aload_n hm rfl rfl ?_
      refine x_getf hm rfl (gR (tO hb) rfl) ?_
      refine x_iload_n hm rfl rfl ?_
      refine x_aald hm rfl (lQ 3 (Or.inr (Or.inl rfl)) (tF hb) (tFk (by omega)) (by omega) (by decide)) ?_
      refine x_iconst hm rfl (v := nI 0) (by decide) ?_
      refine x_bipush hm rfl (v := nI 8) (by decide) ?_
      refine x_lib hm rfl (acp_call (tRowF ho (by omega)) (tRowF hb (by omega)) (by decide) (by decide) ⟨by decide, by decide⟩ rfl) ?_
      dsimp only
      refine x_iinc hm rfl rfl (v := nI 1) (by decide) rfl ?_
      rw [jI_add]
      refine x_goto hm rfl (t := 35) rfl ?_
      exact ih _ _ (by omega) (by omega) (hT.folk hb ho hbo (by omega))
theorem m43a (hb : b = 1 ∨ b = 18 ∨ b = 35) (ho : o = 1 ∨ o = 18 ∨ o = 35) (hbo : b ≠ o) : ∀ (n k : Nat) (M1 : mM), 6 - k < n → k ≤ 6 → Bm b o k 0 M M1 → mEv X (QV (fun M' => Bf b o M M')) 43 2 [some (.ref b), some (.ref o), some (.int (nI k))] [] (con M1) := by
  have hm : mMet 43 = some _ := rfl
  intro n
  induction n with
  | zero =>
    intro k M1 hkn hkb hT
    omega
  | succ n ih =>
    intro k M1 hkn hkb hT
    refine x_iload_n hm rfl rfl ?_
    refine x_bipush hm rfl (v := nI 6) (by decide) ?_
    refine x_icmp_ge hm rfl (t := 33) rfl (fun h1 => ?_) (fun h1 => ?_)
    · obtain rfl : k = 6 := Nat.le_antisymm hkb ((jI_le (by decide) (by omega)).mp h1)
      refine x_iconst hm rfl (v := nI 0) (by decide) ?_
      refine x_istore_n hm rfl rfl ?_
      exact m43b hb ho hbo _ 0 _ (Nat.lt_succ_self _) (Nat.zero_le _) hT
    · have hk : k < 6 := Nat.lt_of_not_le fun h => h1 (nI_le h (by omega))
      refine x_aload_n hm rfl rfl ?_
      refine x_getf hm rfl (gR (tO ho) rfl) ?_
      refine x_iload_n hm rfl rfl ?_
      refine x_aald hm rfl (lQ 3 (Or.inr (Or.inl rfl)) (tI ho) (tIk (by omega)) (by omega) (by decide)) ?_
      refine x_iconst hm rfl (v := nI 0) (by decide) ?_
      refine x_aload_n hm rfl rfl ?_
      refine x_getf hm rfl (gR (tO hb) rfl) ?_
      refine x_iload_n hm rfl rfl ?_
      refine x_aald hm rfl (lQ 3 (Or.inr (Or.inl rfl)) (tI hb) (tIk (by omega)) (by omega) (by decide)) ?_
      refine x_iconst hm rfl (v := nI 0) (by decide) ?_
      refine x_bipush hm rfl (v := nI 8) (by decide) ?_
      refine x_lib hm rfl (acp_call (tRowI ho (by omega)) (tRowI hb (by omega)) (by decide) (by decide) ⟨by decide, by decide⟩ rfl) ?_
      dsimp only
      refine x_iinc hm rfl rfl (v := nI 1) (by decide) rfl ?_
      rw [jI_add]
      refine x_goto hm rfl (t := 2) rfl ?_
      exact ih _ _ (by omega) (by omega) (hT.iron hb ho hbo (by omega))
theorem g43 (hb : b = 1 ∨ b = 18 ∨ b = 35) (ho : o = 1 ∨ o = 18 ∨ o = 35) (hbo : b ≠ o) : ∃ M', mT X 43 [.ref b, .ref o] (con M) none (con M') ∧ Bf b o M M' := by
  refine tv_of (row := _) rfl (Nat.le_of_ble_eq_true rfl) ?_
  have hm : mMet 43 = some _ := rfl
  refine x_iconst hm rfl (v := nI 0) (by decide) ?_
  refine x_istore_n hm rfl rfl ?_
  exact m43a hb ho hbo _ 0 _ (Nat.lt_succ_self _) (Nat.zero_le _) Bm.rf
theorem g125 (hR : Rel 1 nt np M r) (hn8 : nt ≤ 8) (hp8 : np ≤ 8) : ∃ v M', mT X 125 [.ref 0] (con M) (some (.int v)) (con M') ∧ v = nI 1 ∧ Rel 18 nt np M' r ∧ M' 18 7 = M 1 7 ∧ M' 0 6 = nI 1 ∧ (∀ a, a ≠ 0 → (a < 18 ∨ 34 < a) → M' a = M a) := by
  refine ti_of (row := _) rfl (Nat.le_of_ble_eq_true rfl) ?_
  have hm : mMet 125 = some _ := rfl
  refine x_aload_n hm rfl rfl ?_
  refine x_getf hm rfl (gR rfl rfl) ?_
  refine x_aload_n hm rfl rfl ?_
  refine x_getf hm rfl (gR rfl rfl) ?_
  refine x_cVv hm rfl rfl (g43 (b := 18) (o := 1) (by decide) (by decide) (by decide)) (fun M1 r1 => ?_)
  refine x_aload_n hm rfl rfl ?_
  refine x_iconst hm rfl (v := nI 1) (by decide) ?_
  refine x_putf hm rfl (pI rfl rfl (by decide) (by first | exact mFit_int | rfl | decide) rfl) ?_
  refine x_iconst hm rfl (v := nI 1) (by decide) ?_
  refine x_iret hm rfl rfl (by first | rfl | exact bI_nar | decide) ?_
  exact ⟨_, _, rfl, rfl, rfl, (r1.rel hR hn8 hp8).fr (fun c _ _ => mpo (by omega)), (mpn (by decide)).trans r1.2.2.2.2.2.2.2.2, mp0, fun a h0 ha => (mpo h0).trans (r1.1 a (by omega))⟩
theorem g126a (hR : Rel 1 nt np M r) (h0 : M 0 6 = 0) : ∃ v M', mT X 126 [.ref 0] (con M) (some (.int v)) (con M') ∧ Tq (-1000004, nt, np, r) v M M' := by
  refine ti_of (row := _) rfl (Nat.le_of_ble_eq_true rfl) ?_
  have hm : mMet 126 = some _ := rfl
  refine x_aload_n hm rfl rfl ?_
  refine x_getf hm rfl (gI rfl rfl) ?_
  refine x_if_ne hm rfl (t := 14) rfl (fun h1 => ?_) (fun h1 => ?_)
  · exact absurd h0 h1 --stop
  · refine x_aload_n hm rfl rfl ?_
    refine x_ldcI hm rfl (v := (-1000004 : Int32)) (by decide +kernel) ?_
    refine x_cVi hm rfl rfl (t7 (by decide +kernel)) (fun v2 M2 r2 => ?_)
    refine x_iret hm rfl rfl (by first | rfl | exact bI_nar | decide) ?_
    exact ⟨_, _, rfl, rfl, r2.1, hR.bq r2.2⟩
theorem g126b (hR : Rel 18 nt np M r) (hn8 : nt ≤ 8) (hp8 : np ≤ 8) (h0 : ¬ M 0 6 = 0) (hc : M 18 7 = M 1 7) : ∃ v M', mT X 126 [.ref 0] (con M) (some (.int v)) (con M') ∧ Tq (r 0, nt, np, r) v M M' := by
  refine ti_of (row := _) rfl (Nat.le_of_ble_eq_true rfl) ?_
  have hm : mMet 126 = some _ := rfl
  refine x_aload_n hm rfl rfl ?_
  refine x_getf hm rfl (gI rfl rfl) ?_
  refine x_if_ne hm rfl (t := 14) rfl (fun h1 => ?_) (fun h1 => ?_)
  · refine x_aload_n hm rfl rfl ?_
    refine x_getf hm rfl (gR rfl rfl) ?_
    refine x_aload_n hm rfl rfl ?_
    refine x_getf hm rfl (gR rfl rfl) ?_
    refine x_cVv hm rfl rfl (g43 (b := 1) (o := 18) (by decide) (by decide) (by decide)) (fun M2 r2 => ?_)
    refine x_aload_n hm rfl rfl ?_
    refine x_getf hm rfl (gR rfl rfl) ?_
    refine x_getf hm rfl (gI rfl rfl) ?_
    refine x_iret hm rfl rfl (by first | rfl | exact bI_nar | decide) ?_
    exact ⟨_, _, rfl, rfl, (r2.rel hR hn8 hp8).2.2.1, (r2.rel hR hn8 hp8).tm (r2.2.2.2.2.2.2.2.2.trans hc) (fun a ha => r2.1 a (by omega))⟩
  · exact absurd h1 h0 --stop
theorem g127 (hf : M 0 6 = 0 ∨ M 0 6 = nI 1) : ∃ v M', mT X 127 [.ref 0] (con M) (some (.int v)) (con M') ∧ v = M 0 6 ∧ M' 0 6 = 0 ∧ (∀ a, a ≠ 0 → M' a = M a) := by
  refine ti_of (row := _) rfl (Nat.le_of_ble_eq_true rfl) ?_
  have hm : mMet 127 = some _ := rfl
  refine x_aload_n hm rfl rfl ?_
  refine x_getf hm rfl (gI rfl rfl) ?_
  refine x_if_eq hm rfl (t := 11) rfl (fun h1 => ?_) (fun h1 => ?_)
  · have hv : (nI 0 : Int32) = M 0 6 := h1.symm
    refine x_iconst hm rfl (v := nI 0) (by decide) ?_
    refine x_istore_n hm rfl rfl ?_
    refine x_aload_n hm rfl rfl ?_
    refine x_iconst hm rfl (v := nI 0) (by decide) ?_
    refine x_putf hm rfl (pI rfl rfl (by decide) (by first | exact mFit_int | rfl | decide) rfl) ?_
    refine x_iload_n hm rfl rfl ?_
    refine x_iret hm rfl rfl (by first | rfl | exact bI_nar | decide) ?_
    exact ⟨_, _, rfl, rfl, hv, mp0, fun a h => mpo h⟩
  · have hv : nI 1 = M 0 6 := (hf.resolve_left h1).symm
    refine x_iconst hm rfl (v := nI 1) (by decide) ?_
    refine x_goto hm rfl (t := 12) rfl ?_
    refine x_istore_n hm rfl rfl ?_
    refine x_aload_n hm rfl rfl ?_
    refine x_iconst hm rfl (v := nI 0) (by decide) ?_
    refine x_putf hm rfl (pI rfl rfl (by decide) (by first | exact mFit_int | rfl | decide) rfl) ?_
    refine x_iload_n hm rfl rfl ?_
    refine x_iret hm rfl rfl (by first | rfl | exact bI_nar | decide) ?_
    exact ⟨_, _, rfl, rfl, hv, mp0, fun a h => mpo h⟩
theorem g240 : ∃ v M', mT X 240 [.ref 66] (con M) (some (.int v)) (con M') ∧ v = nI 1 ∧ Im1 M M' := by
  refine ti_of (row := _) rfl (Nat.le_of_ble_eq_true rfl) ?_
  have hm : mMet 240 = some _ := rfl
  refine x_aload_n hm rfl rfl ?_
  refine x_getf hm rfl (gR rfl rfl) ?_
  refine x_aload_n hm rfl rfl ?_
  refine x_getf hm rfl (gR rfl rfl) ?_
  refine x_callS hm rfl rfl (t174 rfl rfl (by decide)) ?_
  refine x_aload_n hm rfl rfl ?_
  refine x_iconst hm rfl (v := nI 1) (by decide) ?_
  refine x_putf hm rfl (pI rfl rfl (by decide) (by first | exact mFit_int | rfl | decide) rfl) ?_
  refine x_iconst hm rfl (v := nI 1) (by decide) ?_
  refine x_iret hm rfl rfl (by first | rfl | exact bI_nar | decide) ?_
  exact ⟨_, _, rfl, rfl, rfl, fun j hj => (congrFun (mpo (by decide)) j).trans (cp_b hj), mp0, (mpf (by decide)).trans (congrFun (cp_o (by decide)) 6), (mpf (by decide)).trans (congrFun (cp_o (by decide)) 9), fun a h1 h2 => (mpo h1).trans (cp_o h2)⟩
theorem g241a (h67 : M 67 = r) (h0 : M 66 3 = 0) : ∃ v M', mT X 241 [.ref 66] (con M) (some (.int v)) (con M') ∧ Uq (-1000004, nt, np, r) v M M' := by
  refine ti_of (row := _) rfl (Nat.le_of_ble_eq_true rfl) ?_
  have hm : mMet 241 = some _ := rfl
  refine x_aload_n hm rfl rfl ?_
  refine x_getf hm rfl (gI rfl rfl) ?_
  refine x_if_ne hm rfl (t := 14) rfl (fun h1 => ?_) (fun h1 => ?_)
  · exact absurd h0 h1 --stop
  · refine x_aload_n hm rfl rfl ?_
    refine x_ldcI hm rfl (v := (-1000004 : Int32)) (by decide +kernel) ?_
    refine x_callV hm rfl rfl (e135 (by decide +kernel)) ?_
    refine x_iret hm rfl rfl (by first | rfl | exact bI_nar | decide) ?_
    exact ⟨_, _, rfl, rfl, rfl, fnd_rm h67⟩
theorem g241b (h0 : ¬ M 66 3 = 0) : ∃ v M', mT X 241 [.ref 66] (con M) (some (.int v)) (con M') ∧ v = M 68 0 ∧ M' = cp M 68 67 118 := by
  refine ti_of (row := _) rfl (Nat.le_of_ble_eq_true rfl) ?_
  have hm : mMet 241 = some _ := rfl
  refine x_aload_n hm rfl rfl ?_
  refine x_getf hm rfl (gI rfl rfl) ?_
  refine x_if_ne hm rfl (t := 14) rfl (fun h1 => ?_) (fun h1 => ?_)
  · refine x_aload_n hm rfl rfl ?_
    refine x_getf hm rfl (gR rfl rfl) ?_
    refine x_aload_n hm rfl rfl ?_
    refine x_getf hm rfl (gR rfl rfl) ?_
    refine x_callS hm rfl rfl (t174 rfl rfl (by decide)) ?_
    refine x_aload_n hm rfl rfl ?_
    refine x_getf hm rfl (gR rfl rfl) ?_
    refine x_iconst hm rfl (v := nI 0) (by decide) ?_
    refine x_iald hm rfl (lI rfl (by omega) (by decide)) ?_
    refine x_iret hm rfl rfl (by first | rfl | exact bI_nar | decide) ?_
    exact ⟨_, _, rfl, rfl, cp_b (by decide), rfl⟩
  · exact absurd h1 h0 --stop
theorem g242 (hf : M 66 3 = 0 ∨ M 66 3 = nI 1) : ∃ v M', mT X 242 [.ref 66] (con M) (some (.int v)) (con M') ∧ v = M 66 3 ∧ M' 66 3 = 0 ∧ M' 66 6 = M 66 6 ∧ M' 66 9 = M 66 9 ∧ ∀ a, a ≠ 66 → M' a = M a := by
  refine ti_of (row := _) rfl (Nat.le_of_ble_eq_true rfl) ?_
  have hm : mMet 242 = some _ := rfl
  refine x_aload_n hm rfl rfl ?_
  refine x_getf hm rfl (gI rfl rfl) ?_
  refine x_if_eq hm rfl (t := 11) rfl (fun h1 => ?_) (fun h1 => ?_)
  · have hv : (nI 0 : Int32) = M 66 3 := h1.symm
    refine x_iconst hm rfl (v := nI 0) (by decide) ?_
    refine x_istore_n hm rfl rfl ?_
    refine x_aload_n hm rfl rfl ?_
    refine x_iconst hm rfl (v := nI 0) (by decide) ?_
    refine x_putf hm rfl (pI rfl rfl (by decide) (by first | exact mFit_int | rfl | decide) rfl) ?_
    refine x_iload_n hm rfl rfl ?_
    refine x_iret hm rfl rfl (by first | rfl | exact bI_nar | decide) ?_
    exact ⟨_, _, rfl, rfl, hv, mp0, mpf (by decide), mpf (by decide), fun a h => mpo h⟩
  · have hv : nI 1 = M 66 3 := (hf.resolve_left h1).symm
    refine x_iconst hm rfl (v := nI 1) (by decide) ?_
    refine x_goto hm rfl (t := 12) rfl ?_
    refine x_istore_n hm rfl rfl ?_
    refine x_aload_n hm rfl rfl ?_
    refine x_iconst hm rfl (v := nI 0) (by decide) ?_
    refine x_putf hm rfl (pI rfl rfl (by decide) (by first | exact mFit_int | rfl | decide) rfl) ?_
    refine x_iload_n hm rfl rfl ?_
    refine x_iret hm rfl rfl (by first | rfl | exact bI_nar | decide) ?_
    exact ⟨_, _, rfl, rfl, hv, mp0, mpf (by decide), mpf (by decide), fun a h => mpo h⟩
theorem Rel.ix {q : Nat → Int32} (h : Rel b nt np M r) (hn8 : nt ≤ 8) (hp8 : np ≤ 8) (e : ∀ j, j < 118 → q j = r j) : Rel b nt np M q := by
  obtain ⟨h1, h2, h3, h4, h5, h6, h7⟩ := h
  exact ⟨h1, h2, h3.trans (e _ (by omega)).symm, h4.trans (e _ (by omega)).symm, fun s hs => (h5 s hs).trans (e _ (by omega)).symm, fun f t hf ht => (h6 f t hf ht).trans (e _ (by omega)).symm, fun f p hf hp => (h7 f p hf hp).trans (e _ (by omega)).symm⟩
theorem Gd.ix {q : Nat → Int32} (h : Gd nt np r) (e : ∀ j, j < 118 → q j = r j) : Gd nt np q := by
  obtain ⟨h1, h2, ⟨v1, v2, v3, v4⟩, ⟨w1, w2, w3, w4⟩⟩ := h
  refine ⟨(e _ (by omega)).trans h1, (e _ (by omega)).trans h2, ⟨v1, v2, fun t ht => ?_, fun p hp => ?_⟩, ⟨?_, fun s hs => ?_, fun t ht => ?_, fun p hp => ?_⟩⟩
  · rw [e _ (by omega), e _ (by omega), e _ (by omega)]; exact v3 t ht
  · rw [e _ (by omega)]; exact v4 p hp
  · rw [e _ (by omega)]; exact w1
  · rw [e _ (by omega)]; exact w2 s hs
  · rw [e _ (by omega), e _ (by omega), e _ (by omega)]; exact w3 t ht
  · obtain ⟨g1, g2, g3⟩ := w4 p hp
    exact ⟨by rw [e _ (by omega)]; exact g1, by rw [e _ (by omega)]; exact g2, fun s hs => by rw [e _ (by omega)]; exact g3 s hs⟩
theorem j_undo (hJ : J M) : JJ X 126 241 [.ref 0] [.ref 66] M Eq := by
  obtain ⟨nt, np, hR, h1, h2, hV, hr, hc⟩ := hJ.2.2.1
  rcases hJ.2.2.2.1 with ⟨f1, f2⟩ | ⟨f1, f2, mt, mp, gR, g1, g2, gV, gr, gc⟩
  · exact J.join (q := (-1000004, nt, np, M 67)) hJ (t126 hJ.1.1) (g126a hR f2) (fun M1 i => t241 i) (fun M1 _ k => g241a (k 67 (by decide)) (by rw [k 66 (by decide)]; exact f1)) ⟨h1, h2, hV, hr⟩
  · have e : ∀ j, j < 118 → cp M 68 67 118 67 j = M 68 j := fun j hj => cp_b hj
    refine J.join (q := (M 68 0, mt, mp, cp M 68 67 118 67)) hJ (t126 hJ.1.1) ?_ (fun M1 i => t241 i) (fun M1 _ k => ?_) (Gd.ix (r := M 68) ⟨g1, g2, gV, gr⟩ e)
    · obtain ⟨v, M1, k1, k2, k3, k4, k5⟩ := g126b (X := X) gR gV.1 gV.2.1 (by rw [f2]; decide) (gc.trans hc.symm)
      exact ⟨v, M1, k1, k2, k3.ix gV.1 gV.2.1 e, k4, k5⟩
    · obtain ⟨w, M2, k1, k2, rfl⟩ := g241b (X := X) (M := M1) (by rw [k 66 (by decide), f1]; decide)
      refine ⟨w, _, k1, by rw [k2, k 68 (by decide)], ?_, fun a b1 b2 b3 b4 => cp_o b1⟩
      funext j
      show (if 67 = 67 ∧ j < 118 then M1 68 j else M1 67 j) = (if 67 = 67 ∧ j < 118 then M 68 j else M 67 j)
      rw [k 67 (by decide), k 68 (by decide)]
theorem j_image (hJ : J M) : JJ X 125 240 [.ref 0] [.ref 66] M Eq := by
  obtain ⟨nt, np, hR, h1, h2, hV, hr, hc⟩ := hJ.2.2.1
  obtain ⟨v, M1, a1, a2, ⟨-, a3⟩, rfl, a5, a6, a7, a8⟩ := mT.both (X := X) (P := fun v N => v = nI 1 ∧ Ck M N) (Q := fun v N => v = nI 1 ∧ Rel 18 nt np N (M 67) ∧ N 18 7 = M 1 7 ∧ N 0 6 = nI 1 ∧ (∀ a, a ≠ 0 → (a < 18 ∨ 34 < a) → N a = M a)) (t125 hJ.1.1) (g125 hR hV.1 hV.2.1) (fun _ _ h => ⟨h.1, h.2.cn hJ.2.1⟩) (fun _ _ h => ⟨h.1, h.2.1.cn (Or.inr (Or.inl rfl)), h.2.2.1, h.2.2.2.1, fun a b c => cn_fr hJ.2.1 (h.2.2.2.2 a b c)⟩)
  have i1 := a3.inv hJ.1
  obtain ⟨w, M2, b1, b2, ⟨-, b3⟩, rfl, b5, b6, b7, b8, b9⟩ := mT.both (X := X) (M := M1) (P := fun v N => v = nI 1 ∧ Inv N) (Q := fun v N => v = nI 1 ∧ Im1 M1 N) (t240 i1) g240 (fun _ _ h => ⟨h.1, h.2.cn⟩) (fun _ N h => ⟨h.1, h.2.1, h.2.2.1, h.2.2.2.1, h.2.2.2.2.1, fun a b c => cn_fr a2 (h.2.2.2.2.2 a b c)⟩)
  obtain ⟨j1, j2, j3, j4, j5, j6, j7⟩ := hJ
  have e66 : M1 66 = M 66 := a3.2 66 (by decide)
  have l : ∀ a, a ≠ 0 → (a < 18 ∨ (34 < a ∧ a < 66)) → M2 a = M a := fun a g0 ga => (b9 a (by omega) (by omega)).trans (a8 a g0 (by omega))
  have u : ∀ a, 66 < a → a ≠ 68 → M2 a = M a := fun a g0 ga => (b9 a (by omega) (by omega)).trans (a3.2 a (by omega))
  have e8 : ∀ j, j < 118 → M2 68 j = M 67 j := fun j hj => (b5 j hj).trans (congrFun (a3.2 67 (by decide)) j)
  have hG := Gd.ix (r := M 67) ⟨h1, h2, hV, hr⟩ e8
  refine ⟨_, M1, _, M2, a1, b1, ⟨b3, b2, j3.of (fun c x y => l c (by omega) (by omega)) (u 67 (by decide) (by decide)), Or.inr ⟨b6, (congrFun (b9 0 (by decide) (by decide)) 6).trans a7, nt, np, ?_, hG.1, hG.2.1, hG.2.2.1, hG.2.2.2, ?_⟩, j5.of (congrFun (l 52 (by decide) (by decide)) 1) (b8.trans (congrFun e66 9)) (u 73 (by decide) (by decide)) (l 53 (by decide) (by decide)), j6.of (fun c x y => l c (by omega) (by omega)) (u 76 (by decide) (by decide)) (u 77 (by decide) (by decide)) (u 78 (by decide) (by decide)), b7.trans ((congrFun e66 6).trans j7)⟩, rfl⟩
  · exact (a5.fr fun c x y => b9 c (by omega) (by omega)).ix hV.1 hV.2.1 e8
  · rw [b9 18 (by decide) (by decide), a6]
    exact hc
theorem j_tear (hJ : J M) : JJ X 127 242 [.ref 0] [.ref 66] M Eq := by
  have f1 : M 0 6 = 0 ∨ M 0 6 = nI 1 := hJ.2.2.2.1.imp (fun h => h.2) (fun h => h.2.1)
  have f2 : M 0 6 = M 66 3 := by
    rcases hJ.2.2.2.1 with ⟨a, b⟩ | ⟨a, b, -⟩ <;> rw [a, b]
  obtain ⟨v, M1, a1, a2, a3, rfl, a7, a8⟩ := mT.both (X := X) (P := fun v N => Ck M N) (Q := fun v N => v = M 0 6 ∧ N 0 6 = 0 ∧ (∀ a, a ≠ 0 → N a = M a)) (t127 hJ.1.1) (g127 f1) (fun _ _ h => h.cn hJ.2.1) (fun _ _ h => ⟨h.1, h.2.1, fun a b => cn_fr hJ.2.1 (h.2.2 a b)⟩)
  have i1 := a3.inv hJ.1
  have e66 : M1 66 = M 66 := a3.2 66 (by decide)
  obtain ⟨w, M2, b1, b2, b3, rfl, b6, b7, b8, b9⟩ := mT.both (X := X) (M := M1) (P := fun v N => Inv N) (Q := fun v N => v = M1 66 3 ∧ N 66 3 = 0 ∧ N 66 6 = M1 66 6 ∧ N 66 9 = M1 66 9 ∧ ∀ a, a ≠ 66 → N a = M1 a) (t242 i1) (g242 (by rw [e66, ← f2]; exact f1)) (fun _ _ h => h.cn) (fun _ N h => ⟨h.1, h.2.1, h.2.2.1, h.2.2.2.1, fun a b => cn_fr a2 (h.2.2.2.2 a b)⟩)
  obtain ⟨j1, j2, j3, j4, j5, j6, j7⟩ := hJ
  have l : ∀ a, a ≠ 0 → a ≠ 66 → M2 a = M a := fun a g0 ga => (b9 a ga).trans (a8 a g0)
  refine ⟨_, M1, _, M2, a1, b1, ⟨b3, b2, j3.of (fun c x y => l c (by omega) (by omega)) (l 67 (by decide) (by decide)), Or.inl ⟨b6, (congrFun (b9 0 (by decide)) 6).trans a7⟩, j5.of (congrFun (l 52 (by decide) (by decide)) 1) (b8.trans (congrFun e66 9)) (l 73 (by decide) (by decide)) (l 53 (by decide) (by decide)), j6.of (fun c x y => l c (by omega) (by omega)) (l 76 (by decide) (by decide)) (l 77 (by decide) (by decide)) (l 78 (by decide) (by decide)), b7.trans ((congrFun e66 6).trans j7)⟩, by rw [e66]; exact f2⟩
end IM
