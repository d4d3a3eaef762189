/-! ===== fits, likes: the class, both sides ===== -/
section EY
variable {X : mSc} {Q : Option Value → mHp → Prop} {M : mM} {nt np : Nat} {r w z nu : Nat → Int32}
theorem lk_eq {a : Int32} : lkS (M 76) a = lk M a := by
  unfold lkS lk
  by_cases h : nI 0 ≤ a ∧ a ≤ nI 3
  · rw [if_neg (fun e => bI_eq0.mp e h), if_pos h]
  · rw [if_pos (bI_eq0.mpr h), if_neg h]
theorem lkS_k {a : Int32} (h : lkS w a = 0) : ∃ k, k ≤ 3 ∧ a = nI k := by
  unfold lkS at h
  split at h
  · exact absurd h (by decide)
  · rename_i h1
    exact le_k (by decide) (bI_ne0 h1)
theorem lkS_fd2 {a : Int32} (h : ¬ lkS w a = 0) : FD (lkS w a) := by
  unfold lkS at h ⊢
  split
  · decide
  · rename_i h1
    rw [if_neg h1] at h
    split
    · decide
    · rename_i h2
      rw [if_neg h2] at h
      exact absurd rfl h
/-- a trial leaves all but the trial -/
def Ty (M M1 : mM) : Prop := ∀ a, (a < 35 ∨ 51 < a) → M1 a = M a
theorem Ty.rf : Ty M M := fun _ _ => rfl
theorem Ty.to {M1 M2 : mM} (h : Ty M M1) (g : Ty M1 M2) : Ty M M2 := fun a ha => (g a ha).trans (h a ha)
theorem Tc.ty {q : Nat → Int32} {M1 : mM} (h : Tc 35 nt np q M M1) : Ty M M1 := fun a ha => h.2.2 a (by omega)
theorem Ty.rel {M1 : mM} (h : Ty M M1) (hR : Rel 1 nt np M r) : Rel 1 nt np M1 r := hR.fr fun a _ hx => h a (by omega)
theorem Ty.rs {M1 : mM} (h : Ty M M1) (hS : Rs w z nu M) : Rs w z nu M1 := fun s hs => by
  rw [h (2 * s + 58) (by omega), h (2 * s + 59) (by omega)]
  exact hS s hs
theorem Ty.c {M1 : mM} (h : Ty M M1) (hc : M 1 7 = -1) : M1 1 7 = -1 := by rw [h 1 (by decide)]; exact hc
theorem g42y (hR : Rel 1 nt np M r) (hn8 : nt ≤ 8) (hp8 : np ≤ 8) (hc : M 1 7 = -1) : ∃ M', mT X 42 [.ref 0] (con M) none (con M') ∧ Rel 35 nt np M' r ∧ M' 35 7 = -1 ∧ Ty M M' := by
  refine tv_of (row := _) rfl (Nat.le_of_ble_eq_true rfl) ?_
  have hm : mMet 42 = some _ := rfl
  refine x_aload_n hm rfl rfl ?_
  refine x_getf hm rfl (gR rfl rfl) ?_
  refine x_aload_n hm rfl rfl ?_
  refine x_getf hm rfl (gR rfl rfl) ?_
  refine x_cVv hm rfl rfl (g43 (b := 35) (o := 1) (by decide) (by decide) (by decide)) (fun M1 r1 => ?_)
  refine x_ret hm rfl rfl ?_
  exact ⟨_, rfl, rfl, r1.rel hR hn8 hp8, r1.2.2.2.2.2.2.2.2.trans hc, fun a ha => r1.1 a (by omega)⟩
theorem like_gd {p k u : Nat} (hG : Gd nt np r) (hp : p < np) (hu : u < 4) (hk : k < 10) : Gd nt np (put1 r (62 + 7 * p + (3 + u)) (nI k)) := hG.pf hp (by omega) (fun h => by omega) (fun h => by omega) (fun _ => ⟨k, by omega, rfl⟩)
theorem wS_pow {P : Nat → Prop} : ∀ k, wS P k < 2 ^ k := by
  intro k
  induction k with
  | zero => exact Nat.one_pos
  | succ k ih =>
    by_cases h : P k
    · rw [wS_t h]
      exact Nat.or_lt_two_pow (Nat.lt_of_lt_of_le ih (Nat.pow_le_pow_right (by decide) (by omega))) (Nat.pow_lt_pow_right (by decide) (by omega))
    · rw [wS_f h]
      exact Nat.lt_of_lt_of_le ih (Nat.pow_le_pow_right (by decide) (by omega))
theorem bits_add : ∀ m, m < 10 → ∀ s, s < 2 ^ m → sBits 1024 (nI 0) (nI (s ||| 2 ^ m)) = sBits 1024 (nI 0) (nI s) + nI 1 := by decide +kernel
abbrev fnf (w : Nat → Int32) (nt np : Nat) (a1 a2 a3 : Int32) : Int32 := if ¬ lkS w a1 = 0 then lkS w a1 else if bI (nI 0 ≤ a2 ∧ a2 ≤ nI np - nI 1) = 0 then -1000001 else if bI (nI 0 ≤ a3 ∧ a3 ≤ nI nt - nI 1) = 0 then -1000001 else nI 0
theorem sheetN {s : Nat} (hS : Rs w z nu M) (hs : s ≤ 3) : M (2 * s + 58) 2 = z s ∧ ∀ j, j < 40 → M (2 * s + 59) j = nu (40 * s + j) := ⟨(hS s (by omega)).2.1, (hS s (by omega)).2.2⟩
theorem gv76 {a1 a2 a3 : Int32} (hR : Rel 1 nt np M r) (hS : Rs w z nu M) : mT X 76 [.ref 0, .int a1, .int a2, .int a3] (con M) (some (.int (fnf w nt np a1 a2 a3))) (con M) := by
  refine mT.of (row := _) rfl (Nat.le_of_ble_eq_true rfl) ?_
  have hm : mMet 76 = some _ := rfl
  refine x_aload_n hm rfl rfl ?_
  refine x_iload_n hm rfl rfl ?_
  refine x_callV hm rfl rfl (g77 hS) ?_
  refine x_istore hm rfl rfl ?_
  refine x_iload hm rfl rfl ?_
  refine x_if_eq hm rfl (t := 15) rfl (fun h1 => ?_) (fun h1 => ?_)
  · have h0 := h1
    refine x_aload_n hm rfl rfl ?_
    refine x_getf hm rfl (gR rfl rfl) ?_
    refine x_iload_n hm rfl rfl ?_
    refine x_callV hm rfl rfl (t19 (by decide)) ?_
    rw [hR.2.1]
    refine x_if_eq hm rfl (t := 41) rfl (fun h2 => ?_) (fun h2 => ?_)
    · have b1 := h2
      refine x_ldcI hm rfl (v := (-1000001 : Int32)) (by decide) ?_
      refine x_iret hm rfl rfl (by first | rfl | exact bI_nar | decide) ?_
      first
        | exact qt (congrArg Value.int ((if_neg (fun q => q h0)).trans (if_pos b1) : fnf w nt np a1 a2 a3 = _).symm)
        | exact qt (congrArg Value.int ((if_neg (fun q => q h0)).trans ((if_neg b1).trans (if_pos b2)) : fnf w nt np a1 a2 a3 = _).symm)
        | exact qt (congrArg Value.int ((if_neg (fun q => q h0)).trans ((if_neg b1).trans (if_neg b2)) : fnf w nt np a1 a2 a3 = _).symm)
    · have b1 := h2
      refine x_aload_n hm rfl rfl ?_
      refine x_getf hm rfl (gR rfl rfl) ?_
      refine x_iload_n hm rfl rfl ?_
      refine x_callV hm rfl rfl (t10 (by decide)) ?_
      rw [hR.1]
      refine x_if_eq hm rfl (t := 41) rfl (fun h3 => ?_) (fun h3 => ?_)
      · have b2 := h3
        refine x_ldcI hm rfl (v := (-1000001 : Int32)) (by decide) ?_
        refine x_iret hm rfl rfl (by first | rfl | exact bI_nar | decide) ?_
        first
          | exact qt (congrArg Value.int ((if_neg (fun q => q h0)).trans (if_pos b1) : fnf w nt np a1 a2 a3 = _).symm)
          | exact qt (congrArg Value.int ((if_neg (fun q => q h0)).trans ((if_neg b1).trans (if_pos b2)) : fnf w nt np a1 a2 a3 = _).symm)
          | exact qt (congrArg Value.int ((if_neg (fun q => q h0)).trans ((if_neg b1).trans (if_neg b2)) : fnf w nt np a1 a2 a3 = _).symm)
      · have b2 := h3
        refine x_iconst hm rfl (v := nI 0) (by decide) ?_
        refine x_goto hm rfl (t := 43) rfl ?_
        refine x_iret hm rfl rfl (by first | rfl | exact bI_nar | decide) ?_
        first
          | exact qt (congrArg Value.int ((if_neg (fun q => q h0)).trans (if_pos b1) : fnf w nt np a1 a2 a3 = _).symm)
          | exact qt (congrArg Value.int ((if_neg (fun q => q h0)).trans ((if_neg b1).trans (if_pos b2)) : fnf w nt np a1 a2 a3 = _).symm)
          | exact qt (congrArg Value.int ((if_neg (fun q => q h0)).trans ((if_neg b1).trans (if_neg b2)) : fnf w nt np a1 a2 a3 = _).symm)
  · have h0 := h1
    refine x_iload hm rfl rfl ?_
    refine x_iret hm rfl rfl (by first | rfl | exact bI_nar | decide) ?_
    exact qt (congrArg Value.int (if_pos h0 : fnf w nt np a1 a2 a3 = _).symm)
theorem gv80l {s p t u y c : Nat} {M0 : mM} (hs : s ≤ 3) (ht : t < nt) (hy40 : y ≤ 40) (hyz : z s = nI y) (hVq : Vs nt np (put1 r (62 + 7 * p + (3 + u)) (nI c))) : ∀ (n2 k : Nat) (M : mM), 41 - k < n2 → k ≤ y → Ty M0 M → Rs w z nu M → Rel 35 nt np M (sDays (-1) nt np k (put1 r (62 + 7 * p + (3 + u)) (nI c))) → M 35 7 = -1 → sFt (fun j => nu (40 * s + j)) (-1) nt np t y 0 (put1 r (62 + 7 * p + (3 + u)) (nI c)) = sFt (fun j => nu (40 * s + j)) (-1) nt np t (y - k) k (sDays (-1) nt np k (put1 r (62 + 7 * p + (3 + u)) (nI c))) → mEv X (QI (fun v M' => v = bI (sFt (fun j => nu (40 * s + j)) (-1) nt np t y 0 (put1 r (62 + 7 * p + (3 + u)) (nI c)) = true) ∧ Ty M0 M')) 80 32 [some (.ref 0), some (.ref (2 * s + 58)), some (.int (nI p)), some (.int (nI t)), some (.int (nI c)), some (.int (nI k))] [] (con M) := by
  have hm : mMet 80 = some _ := rfl
  intro n
  induction n with
  | zero =>
    intro k M hkn hkb hT hS hR h7 hq
    omega
  | succ n ih =>
    intro k M hkn hkb hT hS hR h7 hq
    have hn8 := hVq.1
    have hsz := (sheetN hS hs).1.trans hyz
    have hrow := (sheetN hS hs).2
    have hth : M (35 + 4) t = sDays (-1) nt np k (put1 r (62 + 7 * p + (3 + u)) (nI c)) (14 + 6 * t + 2) := hR.thick ht
    refine x_iload hm rfl rfl ?_
    refine x_aload_n hm rfl rfl ?_
    refine x_getf hm rfl (by first | exact gI (sO hs) rfl) ?_
    rw [hsz]
    refine x_icmp_ge hm rfl (t := 89) rfl (fun h1 => ?_) (fun h1 => ?_)
    · have hky : k = y := Nat.le_antisymm hkb ((jI_le (by omega) (by omega)).mp h1)
      have hv : nI 1 = bI (sFt (fun j => nu (40 * s + j)) (-1) nt np t y 0 (put1 r (62 + 7 * p + (3 + u)) (nI c)) = true) := bI_t (hq.trans (by rw [hky, Nat.sub_self]; rfl))
      refine x_iconst hm rfl (v := nI 1) (by decide) ?_
      refine x_iret hm rfl rfl (by first | rfl | exact bI_nar | decide) ?_
      exact ⟨_, _, rfl, rfl, hv, hT⟩
    · have hk : k < y := Nat.lt_of_not_le fun h => h1 (nI_le h (by omega))
      have hb1 : sFt (fun j => nu (40 * s + j)) (-1) nt np t y 0 (put1 r (62 + 7 * p + (3 + u)) (nI c)) = sFt (fun j => nu (40 * s + j)) (-1) nt np t (y - (k + 1) + 1) k (sDays (-1) nt np k (put1 r (62 + 7 * p + (3 + u)) (nI c))) := by rw [hq, show y - k = y - (k + 1) + 1 by omega]
      refine x_aload_n hm rfl rfl ?_
      refine x_getf hm rfl (by first | exact gR (sO hs) rfl) ?_
      refine x_iload hm rfl rfl ?_
      refine x_iald hm rfl (by first | exact lI (sRow hs) (by omega) (by decide) | exact lI rfl (by omega) (by decide)) ?_
      rw [hrow k (by omega)]
      refine x_iconst hm rfl (v := (-1 : Int32)) (by decide) ?_
      refine x_icmp_eq hm rfl (t := 75) rfl (fun h2 => ?_) (fun h2 => ?_)
      · have hb2 := hb1.trans (if_pos (Or.inl h2))
        refine x_aload_n hm rfl rfl ?_
        refine x_getf hm rfl (gR rfl rfl) ?_
        refine x_iconst hm rfl (v := nI 1) (by decide) ?_
        refine x_cVv hm rfl rfl (e30 (by decide) hR (hVq.days _) (by decide)) (fun M3 r3 => ?_)
        rw [h7] at r3
        have h72 := r3.2.1.trans h7
        have hT2 := hT.to r3.ty
        refine x_iinc hm rfl rfl (v := nI 1) (by decide) rfl ?_
        rw [jI_add]
        refine x_goto hm rfl (t := 32) rfl ?_
        exact ih (k + 1) _ (by omega) (by omega) hT2 (r3.ty.rs hS) r3.1 h72 hb2
      · have hne := h2
        refine x_aload_n hm rfl rfl ?_
        refine x_getf hm rfl (by first | exact gR (sO hs) rfl) ?_
        refine x_iload hm rfl rfl ?_
        refine x_iald hm rfl (by first | exact lI (sRow hs) (by omega) (by decide) | exact lI rfl (by omega) (by decide)) ?_
        rw [hrow k (by omega)]
        refine x_aload_n hm rfl rfl ?_
        refine x_getf hm rfl (gR rfl rfl) ?_
        refine x_getf hm rfl (gR rfl rfl) ?_
        refine x_iconst hm rfl (v := nI 2) (by decide) ?_
        refine x_aald hm rfl (by first | exact lQ 2 (Or.inl rfl) rfl (shk hs) (by omega) (by decide) | exact lQ 3 (Or.inr (Or.inl rfl)) rfl rfl (by omega) (by decide)) ?_
        refine x_iload_n hm rfl rfl ?_
        refine x_iald hm rfl (by first | exact lI (sRow hs) (by omega) (by decide) | exact lI rfl (by omega) (by decide)) ?_
        rw [show M 39 t = _ from hth]
        refine x_icmp_eq hm rfl (t := 75) rfl (fun h4 => ?_) (fun h4 => ?_)
        · have hb2 := hb1.trans (if_pos (Or.inr h4))
          refine x_aload_n hm rfl rfl ?_
          refine x_getf hm rfl (gR rfl rfl) ?_
          refine x_iconst hm rfl (v := nI 1) (by decide) ?_
          refine x_cVv hm rfl rfl (e30 (by decide) hR (hVq.days _) (by decide)) (fun M5 r5 => ?_)
          rw [h7] at r5
          have h72 := r5.2.1.trans h7
          have hT2 := hT.to r5.ty
          refine x_iinc hm rfl rfl (v := nI 1) (by decide) rfl ?_
          rw [jI_add]
          refine x_goto hm rfl (t := 32) rfl ?_
          exact ih (k + 1) _ (by omega) (by omega) hT2 (r5.ty.rs hS) r5.1 h72 hb2
        · have hno := h4
          have hb2 := hb1.trans (if_neg fun q => q.elim hne hno)
          have hv : nI 0 = bI (sFt (fun j => nu (40 * s + j)) (-1) nt np t y 0 (put1 r (62 + 7 * p + (3 + u)) (nI c)) = true) := bI_f fun q => Bool.false_ne_true (hb2.symm.trans q)
          refine x_iconst hm rfl (v := nI 0) (by decide) ?_
          refine x_iret hm rfl rfl (by first | rfl | exact bI_nar | decide) ?_
          exact ⟨_, _, rfl, rfl, hv, hT⟩
theorem gv80 {s p t u y c : Nat} (hR : Rel 1 nt np M r) (hn8 : nt ≤ 8) (hp8 : np ≤ 8) (hc : M 1 7 = -1) (hS : Rs w z nu M) (hs : s ≤ 3) (hp : p < np) (ht : t < nt) (hu3 : u ≤ 3) (hu : r (14 + 6 * t + 0) = nI u) (hy40 : y ≤ 40) (hyz : z s = nI y) (hVq : Vs nt np (put1 r (62 + 7 * p + (3 + u)) (nI c))) : ∃ v M', mT X 80 [.ref 0, .ref (2 * s + 58), .int (nI p), .int (nI t), .int (nI c)] (con M) (some (.int v)) (con M') ∧ v = bI (sFt (fun j => nu (40 * s + j)) (-1) nt np t y 0 (put1 r (62 + 7 * p + (3 + u)) (nI c)) = true) ∧ Ty M M' := by
  refine ti_of (row := _) rfl (Nat.le_of_ble_eq_true rfl) ?_
  have hm : mMet 80 = some _ := rfl
  refine x_aload_n hm rfl rfl ?_
  refine x_cVv hm rfl rfl (g42y hR hn8 hp8 hc) (fun M1 r1 => ?_)
  refine x_aload_n hm rfl rfl ?_
  refine x_getf hm rfl (gR rfl rfl) ?_
  refine x_getf hm rfl (gR rfl rfl) ?_
  refine x_iconst hm rfl (v := nI 3) (by decide) ?_
  refine x_aload_n hm rfl rfl ?_
  refine x_getf hm rfl (gR rfl rfl) ?_
  refine x_getf hm rfl (gR rfl rfl) ?_
  refine x_iconst hm rfl (v := nI 0) (by decide) ?_
  refine x_aald hm rfl (by first | exact lQ 2 (Or.inl rfl) rfl (shk hs) (by omega) (by decide) | exact lQ 3 (Or.inr (Or.inl rfl)) rfl rfl (by omega) (by decide)) ?_
  refine x_iload_n hm rfl rfl ?_
  refine x_iald hm rfl (by first | exact lI (sRow hs) (by omega) (by decide) | exact lI rfl (by omega) (by decide)) ?_
  rw [show M1 37 t = nI u from (r1.1.sort ht).trans hu]
  refine x_iadd hm rfl ?_
  rw [jI_add]
  refine x_aald (v := .ref (35 + 9 + (3 + u))) hm rfl ?_ ?_
  · exact lQ 3 (Or.inr (Or.inl rfl)) (tF (b := 35) (by decide)) (tFk (by omega)) (by omega) (by decide)
  refine x_iload_n hm rfl rfl ?_
  refine x_iload hm rfl rfl ?_
  refine x_iast hm rfl (sI (tRowF (b := 35) (by decide) (by omega)) (by omega) (by decide)) ?_
  have hq2 := r1.1.pf (f := 3 + u) (v := nI c) hn8 (by omega) hp
  have h7 : mput M1 (35 + 9 + (3 + u)) p (nI c) 35 7 = -1 := (mpn (by omega)).trans r1.2.1
  have hT2 : Ty M (mput M1 (35 + 9 + (3 + u)) p (nI c)) := r1.2.2.to (fun x hx => mpo (by omega))
  refine x_iconst hm rfl (v := nI 0) (by decide) ?_
  refine x_istore hm rfl rfl ?_
  exact gv80l (M0 := M) hs ht hy40 hyz hVq _ 0 _ (Nat.lt_succ_self _) (Nat.zero_le _) hT2 (hT2.rs hS) hq2 h7 rfl
theorem gv75l {s p t u y : Nat} (hR0 : Rel 1 nt np M r) (hG : Gd nt np r) (hc0 : M 1 7 = -1) (hS0 : Rs w z nu M) (hs : s ≤ 3) (hp : p < np) (ht : t < nt) (hu3 : u ≤ 3) (hu : r (14 + 6 * t + 0) = nI u) (hy40 : y ≤ 40) (hyz : z s = nI y) {c4 : Int32} : ∀ (n2 k : Nat) (g : Int32) (M1 : mM), 10 - k < n2 → k ≤ 10 → Ty M M1 → g = sBits 1024 (nI 0) (nI (sFs (fun j => nu (40 * s + j)) (-1) nt np t y (62 + 7 * p + (3 + u)) r k)) → mEv X (QI (fun v _ => v = sBits 1024 (nI 0) (nI (sFs (fun j => nu (40 * s + j)) (-1) nt np t y (62 + 7 * p + (3 + u)) r 10)))) 75 27 [some (.ref 0), some (.int (nI s)), some (.int (nI p)), some (.int (nI t)), some (.int c4), some (.int g), some (.int (nI k))] [] (con M1) := by
  have hm : mMet 75 = some _ := rfl
  intro n
  induction n with
  | zero =>
    intro k g M1 hkn hkb hT hg
    omega
  | succ n ih =>
    intro k g M1 hkn hkb hT hg
    have hV := hG.2.2.1
    have hn8 := hV.1
    have hp8 := hV.2.1
    refine x_iload hm rfl rfl ?_
    refine x_bipush hm rfl (v := nI 9) (by decide) ?_
    refine x_icmp_gt hm rfl (t := 60) rfl (fun h1 => ?_) (fun h1 => ?_)
    · obtain rfl : k = 10 := Nat.le_antisymm hkb (Nat.lt_of_not_le fun q => absurd h1 (Int32.not_lt.mpr ((jI_le (by omega) (by decide)).mpr q)))
      refine x_iload hm rfl rfl ?_
      refine x_iret hm rfl rfl (by first | rfl | exact bI_nar | decide) ?_
      exact ⟨_, _, rfl, rfl, hg⟩
    · have hk : k ≤ 9 := Nat.le_of_not_lt fun h => h1 (nI_lt h (by omega))
      refine x_aload_n hm rfl rfl ?_
      refine x_aload_n hm rfl rfl ?_
      refine x_getf hm rfl (gR rfl rfl) ?_
      refine x_iload_n hm rfl rfl ?_
      refine x_aald hm rfl (by first | exact lQ 2 (Or.inl rfl) rfl (shk hs) (by omega) (by decide) | exact lQ 3 (Or.inr (Or.inl rfl)) rfl rfl (by omega) (by decide)) ?_
      refine x_iload_n hm rfl rfl ?_
      refine x_iload_n hm rfl rfl ?_
      refine x_iload hm rfl rfl ?_
      refine x_cVi hm rfl rfl (gv80 (hT.rel hR0) hn8 hp8 (hT.c hc0) (hT.rs hS0) hs hp ht hu3 hu hy40 hyz (like_gd hG hp (by omega) (by omega)).2.2.1) (fun v2 M2 r2 => ?_)
      refine x_if_eq hm rfl (t := 54) rfl (fun h3 => ?_) (fun h3 => ?_)
      · have hg2 : g = sBits 1024 (nI 0) (nI (sFs (fun j => nu (40 * s + j)) (-1) nt np t y (62 + 7 * p + (3 + u)) r (k + 1))) := by
          have q : ¬ _ := bI_eq0.mp (r2.1.symm.trans h3)
          rw [hg]
          exact congrArg (fun x => sBits 1024 (nI 0) (nI x)) (wS_f (P := (fun v => sFt (fun j => nu (40 * s + j)) (-1) nt np t y 0 (put1 r (62 + 7 * p + (3 + u)) (nI v)) = true)) q).symm
        refine x_iinc hm rfl rfl (v := nI 1) (by decide) rfl ?_
        rw [jI_add]
        refine x_goto hm rfl (t := 27) rfl ?_
        exact ih _ _ _ (by omega) (by omega) (hT.to r2.2) hg2
      · have hg2 : g + nI 1 = sBits 1024 (nI 0) (nI (sFs (fun j => nu (40 * s + j)) (-1) nt np t y (62 + 7 * p + (3 + u)) r (k + 1))) := by
          have q := bI_ne0 (fun e => h3 (r2.1.trans e))
          rw [hg, show sFs (fun j => nu (40 * s + j)) (-1) nt np t y (62 + 7 * p + (3 + u)) r (k + 1) = sFs (fun j => nu (40 * s + j)) (-1) nt np t y (62 + 7 * p + (3 + u)) r k ||| 2 ^ k from wS_t (P := (fun v => sFt (fun j => nu (40 * s + j)) (-1) nt np t y 0 (put1 r (62 + 7 * p + (3 + u)) (nI v)) = true)) q]
          exact (bits_add k (by omega) _ (wS_pow k)).symm
        refine x_iinc hm rfl rfl (v := nI 1) (by decide) rfl ?_
        refine x_iinc hm rfl rfl (v := nI 1) (by decide) rfl ?_
        rw [jI_add]
        refine x_goto hm rfl (t := 27) rfl ?_
        exact ih _ _ _ (by omega) (by omega) (hT.to r2.2) hg2
theorem fnf_c {a1 a2 a3 : Int32} : (FD (fnf w nt np a1 a2 a3) ∧ ¬ fnf w nt np a1 a2 a3 = 0 ∧ (∀ l r, qFits (lkS w a1) z nu r nt np a1 a2 a3 = l → l.1 = fnf w nt np a1 a2 a3) ∧ (∀ l r, qLikes (lkS w a1) z nu r nt np a1 a2 a3 = l → l.1 = fnf w nt np a1 a2 a3)) ∨ (fnf w nt np a1 a2 a3 = 0 ∧ lkS w a1 = 0 ∧ ¬ bI (nI 0 ≤ a2 ∧ a2 ≤ nI np - nI 1) = 0 ∧ ¬ bI (nI 0 ≤ a3 ∧ a3 ≤ nI nt - nI 1) = 0) := by
  unfold fnf
  by_cases h0 : lkS w a1 = 0
  · by_cases h1 : bI (nI 0 ≤ a2 ∧ a2 ≤ nI np - nI 1) = 0
    · rw [if_neg (fun q => q h0), if_pos h1]
      refine Or.inl ⟨by decide, by decide, fun l r e => ?_, fun l r e => ?_⟩ <;> rw [← e]
      · unfold qFits; rw [if_neg (fun q => q h0), if_pos h1]
      · unfold qLikes; rw [if_neg (fun q => q h0), if_pos h1]
    · by_cases h2 : bI (nI 0 ≤ a3 ∧ a3 ≤ nI nt - nI 1) = 0
      · rw [if_neg (fun q => q h0), if_neg h1, if_pos h2]
        refine Or.inl ⟨by decide, by decide, fun l r e => ?_, fun l r e => ?_⟩ <;> rw [← e]
        · unfold qFits; rw [if_neg (fun q => q h0), if_neg h1, if_pos h2]
        · unfold qLikes; rw [if_neg (fun q => q h0), if_neg h1, if_pos h2]
      · rw [if_neg (fun q => q h0), if_neg h1, if_neg h2]
        exact Or.inr ⟨rfl, h0, h1, h2⟩
  · rw [if_pos h0]
    refine Or.inl ⟨lkS_fd2 h0, h0, fun l r e => ?_, fun l r e => ?_⟩ <;> rw [← e]
    · unfold qFits; rw [if_pos h0]
    · unfold qLikes; rw [if_pos h0]
theorem gv75 {a1 a2 a3 : Int32} (hR : Rel 1 nt np M r) (hG : Gd nt np r) (hc : M 1 7 = -1) (hS : Rs w z nu M) (hzk : ∀ s, s < 4 → ∃ k, k ≤ 40 ∧ z s = nI k) : ∃ v M', mT X 75 [.ref 0, .int a1, .int a2, .int a3] (con M) (some (.int v)) (con M') ∧ v = (qFits (lkS w a1) z nu r nt np a1 a2 a3).1 := by
  refine ti_of (row := _) rfl (Nat.le_of_ble_eq_true rfl) ?_
  have hm : mMet 75 = some _ := rfl
  have hV := hG.2.2.1
  have hn8 := hV.1
  have hp8 := hV.2.1
  refine x_aload_n hm rfl rfl ?_
  refine x_iload_n hm rfl rfl ?_
  refine x_iload_n hm rfl rfl ?_
  refine x_iload_n hm rfl rfl ?_
  refine x_callV hm rfl rfl (gv76 hR hS) ?_
  refine x_istore hm rfl rfl ?_
  refine x_iload hm rfl rfl ?_
  refine x_if_eq hm rfl (t := 21) rfl (fun h1 => ?_) (fun h1 => ?_)
  · obtain ⟨-, hl0, hb1, hb2⟩ := (fnf_c (w := w) (z := z) (nu := nu) (nt := nt) (np := np) (a1 := a1) (a2 := a2) (a3 := a3)).resolve_left (fun q : _ ∧ _ => q.2.1 h1)
    obtain ⟨s, hs, rfl⟩ := lkS_k hl0
    obtain ⟨p, hp, rfl⟩ := in_k rfl (by omega) (bI_ne0 hb1)
    obtain ⟨t, ht, rfl⟩ := in_k rfl (by omega) (bI_ne0 hb2)
    refine x_iconst hm rfl (v := nI 0) (by decide) ?_
    refine x_istore hm rfl rfl ?_
    refine x_iconst hm rfl (v := nI 0) (by decide) ?_
    refine x_istore hm rfl rfl ?_
    have hS3 := hG
    obtain ⟨u, hu3, hu⟩ := hV.sort ht
    obtain ⟨y, hy40, hyz⟩ := hzk s (by omega)
    have hq : qFits (lkS w (nI s)) z nu r nt np (nI s) (nI p) (nI t) = (sBits 1024 (nI 0) (nI (sFs (fun j => nu (40 * s + j)) (-1) nt np t y (62 + 7 * p + (3 + u)) r 10)), false) := by
      unfold qFits
      rw [if_neg (fun q => q hl0), if_neg hb1, if_neg hb2]
      rw [jI_nat (k := s) (by omega)]
      rw [jI_nat (k := p) (by omega)]
      rw [jI_nat (k := t) (by omega)]
      rw [hyz, hu, jI_nat (k := y) (by omega), jI_nat (k := u) (by omega)]
    rw [hq]
    exact gv75l hR hG hc hS hs hp ht hu3 hu hy40 hyz _ 0 _ _ (Nat.lt_succ_self _) (Nat.zero_le _) Ty.rf rfl
  · obtain ⟨hFD, -, hf1, hf2⟩ := (fnf_c (w := w) (z := z) (nu := nu) (nt := nt) (np := np) (a1 := a1) (a2 := a2) (a3 := a3)).resolve_right (fun q : _ ∧ _ => h1 q.1)
    refine x_aload_n hm rfl rfl ?_
    refine x_iload hm rfl rfl ?_
    refine x_cVi hm rfl rfl (t7 hFD) (fun v2 M2 r2 => ?_)
    refine x_iret hm rfl rfl (by first | rfl | exact bI_nar | decide) ?_
    exact ⟨_, _, rfl, rfl, r2.1.trans (hf1 _ _ rfl).symm⟩
theorem gv81l {s p t u y : Nat} (hR0 : Rel 1 nt np M r) (hG : Gd nt np r) (hc0 : M 1 7 = -1) (hS0 : Rs w z nu M) (hs : s ≤ 3) (hp : p < np) (ht : t < nt) (hu3 : u ≤ 3) (hu : r (14 + 6 * t + 0) = nI u) (hy40 : y ≤ 40) (hyz : z s = nI y) {c4 : Int32} : ∀ (n2 k : Nat) (M1 : mM), 10 - k < n2 → k ≤ 10 → Ty M M1 → sLk (sFs (fun j => nu (40 * s + j)) (-1) nt np t y (62 + 7 * p + (3 + u)) r 10) 10 0 = sLk (sFs (fun j => nu (40 * s + j)) (-1) nt np t y (62 + 7 * p + (3 + u)) r 10) (10 - k) k → mEv X (QI (fun v _ => v = (sLk (sFs (fun j => nu (40 * s + j)) (-1) nt np t y (62 + 7 * p + (3 + u)) r 10) 10 0).1)) 81 24 [some (.ref 0), some (.int (nI s)), some (.int (nI p)), some (.int (nI t)), some (.int c4), some (.int (nI k))] [] (con M1) := by
  have hm : mMet 81 = some _ := rfl
  intro n
  induction n with
  | zero =>
    intro k M1 hkn hkb hT hq
    omega
  | succ n ih =>
    intro k M1 hkn hkb hT hq
    have hV := hG.2.2.1
    have hn8 := hV.1
    have hp8 := hV.2.1
    refine x_iload hm rfl rfl ?_
    refine x_bipush hm rfl (v := nI 9) (by decide) ?_
    refine x_icmp_gt hm rfl (t := 57) rfl (fun h1 => ?_) (fun h1 => ?_)
    · obtain rfl : k = 10 := Nat.le_antisymm hkb (Nat.lt_of_not_le fun q => absurd h1 (Int32.not_lt.mpr ((jI_le (by omega) (by decide)).mpr q)))
      have hq9 : sLk (sFs (fun j => nu (40 * s + j)) (-1) nt np t y (62 + 7 * p + (3 + u)) r 10) 10 0 = (-1000004, true) := hq
      refine x_aload_n hm rfl rfl ?_
      refine x_ldcI hm rfl (v := (-1000004 : Int32)) (by decide) ?_
      refine x_cVi hm rfl rfl (t7 (by decide)) (fun v2 M2 r2 => ?_)
      refine x_iret hm rfl rfl (by first | rfl | exact bI_nar | decide) ?_
      exact ⟨_, _, rfl, rfl, r2.1.trans (congrArg Prod.fst hq9).symm⟩
    · have hk : k ≤ 9 := Nat.le_of_not_lt fun h => h1 (nI_lt h (by omega))
      have hq8 := hq.trans (show sLk (sFs (fun j => nu (40 * s + j)) (-1) nt np t y (62 + 7 * p + (3 + u)) r 10) (10 - k) k = sLk (sFs (fun j => nu (40 * s + j)) (-1) nt np t y (62 + 7 * p + (3 + u)) r 10) (10 - (k + 1) + 1) k by rw [show 10 - k = 10 - (k + 1) + 1 by omega])
      refine x_aload_n hm rfl rfl ?_
      refine x_aload_n hm rfl rfl ?_
      refine x_getf hm rfl (gR rfl rfl) ?_
      refine x_iload_n hm rfl rfl ?_
      refine x_aald hm rfl (by first | exact lQ 2 (Or.inl rfl) rfl (shk hs) (by omega) (by decide) | exact lQ 3 (Or.inr (Or.inl rfl)) rfl rfl (by omega) (by decide)) ?_
      refine x_iload_n hm rfl rfl ?_
      refine x_iload_n hm rfl rfl ?_
      refine x_iload hm rfl rfl ?_
      refine x_cVi hm rfl rfl (gv80 (hT.rel hR0) hn8 hp8 (hT.c hc0) (hT.rs hS0) hs hp ht hu3 hu hy40 hyz (like_gd hG hp (by omega) (by omega)).2.2.1) (fun v3 M3 r3 => ?_)
      refine x_if_eq hm rfl (t := 51) rfl (fun h4 => ?_) (fun h4 => ?_)
      · have hq9 := hq8.trans (if_neg fun e => bI_eq0.mp (r3.1.symm.trans h4) (wS_tb (P := (fun v => sFt (fun j => nu (40 * s + j)) (-1) nt np t y 0 (put1 r (62 + 7 * p + (3 + u)) (nI v)) = true)).mp e).2)
        refine x_iinc hm rfl rfl (v := nI 1) (by decide) rfl ?_
        rw [jI_add]
        refine x_goto hm rfl (t := 24) rfl ?_
        exact ih _ _ (by omega) (by omega) (hT.to r3.2) hq9
      · have hq9 := hq8.trans (if_pos ((wS_tb (P := (fun v => sFt (fun j => nu (40 * s + j)) (-1) nt np t y 0 (put1 r (62 + 7 * p + (3 + u)) (nI v)) = true))).mpr ⟨by omega, bI_ne0 (fun e => h4 (r3.1.trans e))⟩))
        refine x_iload hm rfl rfl ?_
        refine x_iret hm rfl rfl (by first | rfl | exact bI_nar | decide) ?_
        exact ⟨_, _, rfl, rfl, (congrArg Prod.fst hq9).symm⟩
theorem gv81 {a1 a2 a3 : Int32} (hR : Rel 1 nt np M r) (hG : Gd nt np r) (hc : M 1 7 = -1) (hS : Rs w z nu M) (hzk : ∀ s, s < 4 → ∃ k, k ≤ 40 ∧ z s = nI k) : ∃ v M', mT X 81 [.ref 0, .int a1, .int a2, .int a3] (con M) (some (.int v)) (con M') ∧ v = (qLikes (lkS w a1) z nu r nt np a1 a2 a3).1 := by
  refine ti_of (row := _) rfl (Nat.le_of_ble_eq_true rfl) ?_
  have hm : mMet 81 = some _ := rfl
  have hV := hG.2.2.1
  have hn8 := hV.1
  have hp8 := hV.2.1
  refine x_aload_n hm rfl rfl ?_
  refine x_iload_n hm rfl rfl ?_
  refine x_iload_n hm rfl rfl ?_
  refine x_iload_n hm rfl rfl ?_
  refine x_callV hm rfl rfl (gv76 hR hS) ?_
  refine x_istore hm rfl rfl ?_
  refine x_iload hm rfl rfl ?_
  refine x_if_eq hm rfl (t := 21) rfl (fun h1 => ?_) (fun h1 => ?_)
  · obtain ⟨-, hl0, hb1, hb2⟩ := (fnf_c (w := w) (z := z) (nu := nu) (nt := nt) (np := np) (a1 := a1) (a2 := a2) (a3 := a3)).resolve_left (fun q : _ ∧ _ => q.2.1 h1)
    obtain ⟨s, hs, rfl⟩ := lkS_k hl0
    obtain ⟨p, hp, rfl⟩ := in_k rfl (by omega) (bI_ne0 hb1)
    obtain ⟨t, ht, rfl⟩ := in_k rfl (by omega) (bI_ne0 hb2)
    refine x_iconst hm rfl (v := nI 0) (by decide) ?_
    refine x_istore hm rfl rfl ?_
    have hS3 := hG
    obtain ⟨u, hu3, hu⟩ := hV.sort ht
    obtain ⟨y, hy40, hyz⟩ := hzk s (by omega)
    have hq : qLikes (lkS w (nI s)) z nu r nt np (nI s) (nI p) (nI t) = sLk (sFs (fun j => nu (40 * s + j)) (-1) nt np t y (62 + 7 * p + (3 + u)) r 10) 10 0 := by
      unfold qLikes
      rw [if_neg (fun q => q hl0), if_neg hb1, if_neg hb2]
      rw [jI_nat (k := s) (by omega)]
      rw [jI_nat (k := p) (by omega)]
      rw [jI_nat (k := t) (by omega)]
      rw [hyz, hu, jI_nat (k := y) (by omega), jI_nat (k := u) (by omega)]
    rw [hq]
    exact gv81l hR hG hc hS hs hp ht hu3 hu hy40 hyz _ 0 _ (Nat.lt_succ_self _) (Nat.zero_le _) Ty.rf rfl
  · obtain ⟨hFD, -, hf1, hf2⟩ := (fnf_c (w := w) (z := z) (nu := nu) (nt := nt) (np := np) (a1 := a1) (a2 := a2) (a3 := a3)).resolve_right (fun q : _ ∧ _ => h1 q.1)
    refine x_aload_n hm rfl rfl ?_
    refine x_iload hm rfl rfl ?_
    refine x_cVi hm rfl rfl (t7 hFD) (fun v2 M2 r2 => ?_)
    refine x_iret hm rfl rfl (by first | rfl | exact bI_nar | decide) ?_
    exact ⟨_, _, rfl, rfl, r2.1.trans (hf2 _ _ rfl).symm⟩
theorem j_fits {a1 a2 a3 : Int32} (hJ : J M) : JJ X 75 208 [.ref 0, .int a1, .int a2, .int a3] [.ref 66, .int a1, .int a2, .int a3] M Eq := by
  have hl : ∀ M1 : mM, (∀ a, 66 ≤ a → M1 a = M a) → lk M1 a1 = lk M a1 := fun M1 k => by unfold lk; rw [k 76 (by decide)]
  refine hJ.asi (F := fun r nt np => (qFits (lkS (M 76) a1) (M 77) (M 78) r nt np a1 a2 a3).1) (t75 hJ.1.1) (fun nt np hR g h7 => gv75 hR g h7 hJ.rs.1 (fun u _ => hJ.1.1.size u)) (fun M1 j => j.kq fun nt np g => e208 j.1.1 g.1 g.2.2.1.1 g.2.1 g.2.2.1.2.1 g.2.2.1 j.2.2.2.2.2.2) (fun M1 nt np j k g => ?_)
  rw [← k 67 (by decide)] at g
  obtain ⟨v, M', q1, q2, -⟩ := e208 (X := X) (a1 := a1) (a2 := a2) (a3 := a3) j.1.1 g.1 g.2.2.1.1 g.2.1 g.2.2.1.2.1 g.2.2.1 j.2.2.2.2.2.2
  refine ⟨v, M', q1, ?_⟩
  rw [q2, hl M1 k, lk_eq, k 77 (by decide), k 78 (by decide), k 67 (by decide)]
theorem j_likes {a1 a2 a3 : Int32} (hJ : J M) : JJ X 81 213 [.ref 0, .int a1, .int a2, .int a3] [.ref 66, .int a1, .int a2, .int a3] M Eq := by
  have hl : ∀ M1 : mM, (∀ a, 66 ≤ a → M1 a = M a) → lk M1 a1 = lk M a1 := fun M1 k => by unfold lk; rw [k 76 (by decide)]
  refine hJ.asi (F := fun r nt np => (qLikes (lkS (M 76) a1) (M 77) (M 78) r nt np a1 a2 a3).1) (t81 hJ.1.1) (fun nt np hR g h7 => gv81 hR g h7 hJ.rs.1 (fun u _ => hJ.1.1.size u)) (fun M1 j => j.kq fun nt np g => e213 j.1.1 g.1 g.2.2.1.1 g.2.1 g.2.2.1.2.1 g.2.2.1 j.2.2.2.2.2.2) (fun M1 nt np j k g => ?_)
  rw [← k 67 (by decide)] at g
  obtain ⟨v, M', q1, q2, -⟩ := e213 (X := X) (a1 := a1) (a2 := a2) (a3 := a3) j.1.1 g.1 g.2.2.1.1 g.2.1 g.2.2.1.2.1 g.2.2.1 j.2.2.2.2.2.2
  refine ⟨v, M', q1, ?_⟩
  rw [q2, hl M1 k, lk_eq, k 77 (by decide), k 78 (by decide), k 67 (by decide)]
end EY
