/-! ===== findings behind loops; status; both sides together ===== -/
section TG
variable {X : mSc} {Q : Option Value → mHp → Prop} {M : mM} {nt np : Nat} {r w z nu : Nat → Int32}
def Lq (q : Int32 × Bool) (M M' : mM) : Prop := M' 55 = tlC (M 55) q ∧ (q.2 = true → FD q.1)
theorem Lq.t {M1 : mM} {q : Int32 × Bool} {v : Int32} (h : M1 55 = M 55) (hq : q = (v, true)) (hv : FD v) : Lq q M (fndC M1 v) := by
  rw [hq]
  refine ⟨?_, fun _ => hv⟩
  rw [← h]
  rfl
theorem Lq.n {M1 : mM} {q : Int32 × Bool} (h : M1 55 = M 55) (hq : q.2 = false) : Lq q M M1 := ⟨h.trans (tlC_n hq).symm, fun e => absurd (hq.symm.trans e) Bool.false_ne_true⟩
theorem lv44l {t : Nat} (hV : Vs nt np r) (hn8 : nt ≤ 8) (ht : t < nt) : ∀ (n k : Nat) (M1 : mM), 101 - k < n → k ≤ 101 → Rel 35 nt np M1 (sDays (-1) nt np k r) → M1 35 7 = -1 → M1 55 = M 55 → ((k ≤ 100 ∧ orN (sLa (-1) nt np t 100 0 r) = orN (sLa (-1) nt np t (100 - k) k (sDays (-1) nt np k r))) ∨ (k = 101 ∧ orN (sLa (-1) nt np t 100 0 r) = (-1000004, true))) → mEv X (QI (fun _ M' => Lq (orN (sLa (-1) nt np t 100 0 r)) M M')) 44 24 [some (.ref 0), some (.int (nI t)), some (.int (nI k))] [] (con M1) := by
  have hm : mMet 44 = some _ := rfl
  intro n
  induction n with
  | zero =>
    intro k M1 hkn hkb hR1 h7 h55 hq
    omega
  | succ n ih =>
    intro k M1 hkn hkb hR1 h7 h55 hq
    have hth : M1 (35 + 4) t = sDays (-1) nt np k r (14 + 6 * t + 2) := hR1.thick ht
    refine x_iload_n hm rfl rfl ?_
    refine x_bipush hm rfl (v := nI 100) (by decide) ?_
    refine x_icmp_gt hm rfl (t := 57) rfl (fun h1 => ?_) (fun h1 => ?_)
    · have hk : ¬ k ≤ 100 := fun h => absurd h1 (Int32.not_lt.mpr ((jI_le (by omega) (by decide)).mpr h))
      have hq9 := (hq.resolve_left fun z => hk z.1).2
      refine x_aload_n hm rfl rfl ?_
      refine x_ldcI hm rfl (v := (-1000004 : Int32)) (by decide) ?_
      refine x_callV hm rfl rfl (e7 (by decide)) ?_
      refine x_iret hm rfl rfl (by first | rfl | exact bI_nar | decide) ?_
      exact ⟨_, _, rfl, rfl, Lq.t h55 hq9 (by decide)⟩
    · have hk : k ≤ 100 := Nat.le_of_not_lt fun h => h1 (nI_lt h (by omega))
      refine x_aload_n hm rfl rfl ?_
      refine x_getf hm rfl (gR rfl rfl) ?_
      refine x_iload_n hm rfl rfl ?_
      refine x_callV hm rfl rfl (t32 (by decide) (by omega)) ?_
      rw [hth]
      refine x_if_eq hm rfl (t := 43) rfl (fun h2 => ?_) (fun h2 => ?_)
      · have hng := bI_eq0.mp h2
        have hq2 : ((k + 1 ≤ 100 ∧ orN (sLa (-1) nt np t 100 0 r) = orN (sLa (-1) nt np t (100 - (k + 1)) (k + 1) (sDays (-1) nt np (k + 1) r))) ∨ (k + 1 = 101 ∧ orN (sLa (-1) nt np t 100 0 r) = (-1000004, true))) := by
          rcases hq with ⟨g1, g2⟩ | ⟨g1, -⟩
          · by_cases hk9 : k < 100
            · exact Or.inl ⟨hk9, g2.trans (congrArg orN (la_s hk9 hng))⟩
            · have hk9 : k = 100 := by omega
              exact Or.inr ⟨by omega, g2.trans ((congrArg orN (la_n hk9 hng)).trans orN_m)⟩
          · omega
        refine x_aload_n hm rfl rfl ?_
        refine x_getf hm rfl (gR rfl rfl) ?_
        refine x_iconst hm rfl (v := nI 1) (by decide) ?_
        refine x_cVv hm rfl rfl (e30 (by decide) hR1 (hV.days _) (by decide)) (fun M3 r3 => ?_)
        have h72 := r3.2.1.trans h7
        have h552 := (r3.2.2 55 (by omega)).trans h55
        rw [h7] at r3
        refine x_iinc hm rfl rfl (v := nI 1) (by decide) rfl ?_
        rw [jI_add]
        refine x_goto hm rfl (t := 24) rfl ?_
        exact ih (k + 1) _ (by omega) (by omega) r3.1 h72 h552 hq2
      · have hq9 := (hq.resolve_right fun z => by omega).2.trans ((congrArg orN (la_g (bI_ne0 h2))).trans (orN_k (by omega)))
        refine x_iload_n hm rfl rfl ?_
        refine x_iret hm rfl rfl (by first | rfl | exact bI_nar | decide) ?_
        exact ⟨_, _, rfl, rfl, Lq.n h55 (congrArg Prod.snd hq9)⟩
theorem lv44 {a1 : Int32} (hR : Rel 1 nt np M r) (hG : Gd nt np r) (hc : M 1 7 = -1) : ∃ v M', mT X 44 [.ref 0, .int a1] (con M) (some (.int v)) (con M') ∧ Lq (qLasts r nt np a1) M M' := by
  refine ti_of (row := _) rfl (Nat.le_of_ble_eq_true rfl) ?_
  have hm : mMet 44 = some _ := rfl
  have hV := hG.2.2.1
  have hn8 := hV.1
  have hp8 := hV.2.1
  refine x_aload_n hm rfl rfl ?_
  refine x_getf hm rfl (gR rfl rfl) ?_
  refine x_iload_n hm rfl rfl ?_
  refine x_callV hm rfl rfl (t10 (by decide)) ?_
  rw [hR.1]
  refine x_if_ne hm rfl (t := 18) rfl (fun h1 => ?_) (fun h1 => ?_)
  · obtain ⟨t, ht, rfl⟩ := in_k rfl (by omega) (bI_ne0 h1)
    refine x_aload_n hm rfl rfl ?_
    refine x_cVv hm rfl rfl (g42y hR hn8 hp8 hc) (fun M2 r2 => ?_)
    refine x_iconst hm rfl (v := nI 0) (by decide) ?_
    refine x_istore_n hm rfl rfl ?_
    have hq : qLasts r nt np (nI t) = orN (sLa (-1) nt np t 100 0 r) := by
      unfold qLasts
      rw [if_neg (by assumption), jI_nat (by omega)]
    rw [hq]
    exact lv44l hV hn8 ht _ 0 _ (Nat.lt_succ_self _) (Nat.zero_le _) r2.1 r2.2.1 (r2.2.2 55 (by omega)) (Or.inl ⟨Nat.zero_le _, rfl⟩)
  · refine x_aload_n hm rfl rfl ?_
    refine x_ldcI hm rfl (v := (-1000001 : Int32)) (by decide) ?_
    refine x_callV hm rfl rfl (e7 (by decide)) ?_
    refine x_iret hm rfl rfl (by first | rfl | exact bI_nar | decide) ?_
    exact ⟨_, _, rfl, rfl, Lq.t rfl (by unfold qLasts; rw [if_pos (by assumption)]) (by decide)⟩
theorem lv47l {p t x y : Int32} {q0 : Int32 × Bool} : ∀ (n k : Nat) (z : Int32), 101 - k < n → k ≤ 101 → q0 = sSe x y (101 - k) k z → mEv X (QI (fun _ M' => Lq (q0) M M')) 47 70 [some (.ref 0), some (.int p), some (.int t), some (.int x), some (.int y), some (.int z), some (.int (nI k))] [] (con M) := by
  have hm : mMet 47 = some _ := rfl
  intro n
  induction n with
  | zero =>
    intro k z hkn hkb hq
    omega
  | succ n ih =>
    intro k z hkn hkb hq
    refine x_iload hm rfl rfl ?_
    refine x_bipush hm rfl (v := nI 100) (by decide) ?_
    refine x_icmp_gt hm rfl (t := 101) rfl (fun h1 => ?_) (fun h1 => ?_)
    · have hk : k = 101 := by
        have : ¬ k ≤ 100 := fun h => absurd h1 (Int32.not_lt.mpr ((jI_le (by omega) (by decide)).mpr h))
        omega
      have hq9 : q0 = (-1000004, true) := by rw [hq, hk]; rfl
      refine x_aload_n hm rfl rfl ?_
      refine x_ldcI hm rfl (v := (-1000004 : Int32)) (by decide) ?_
      refine x_callV hm rfl rfl (e7 (by decide)) ?_
      refine x_iret hm rfl rfl (by first | rfl | exact bI_nar | decide) ?_
      exact ⟨_, _, rfl, rfl, Lq.t rfl hq9 (by decide)⟩
    · have hk : k ≤ 100 := Nat.le_of_not_lt fun h => h1 (nI_lt h (by omega))
      have hq1 := hq.trans (show sSe x y (101 - k) k z = sSe x y (101 - (k + 1) + 1) k z by rw [show 101 - k = 101 - (k + 1) + 1 by omega])
      refine x_iload hm rfl rfl ?_
      refine x_iload_n hm rfl rfl ?_
      refine x_icmp_ne hm rfl (t := 86) rfl (fun h2 => ?_) (fun h2 => ?_)
      · have hq2 : q0 = sSe x y (101 - (k + 1)) (k + 1) (rem16 (z + y)) := hq1.trans (if_neg h2)
        refine x_iload hm rfl rfl ?_
        refine x_iload hm rfl rfl ?_
        refine x_callS hm rfl rfl (e34) ?_
        refine x_istore hm rfl rfl ?_
        refine x_iinc hm rfl rfl (v := nI 1) (by decide) rfl ?_
        rw [jI_add]
        refine x_goto hm rfl (t := 70) rfl ?_
        exact ih _ _ (by omega) (by omega) hq2
      · have hq9 : q0 = (nI k, false) := hq1.trans (if_pos h2)
        refine x_iload hm rfl rfl ?_
        refine x_iret hm rfl rfl (by first | rfl | exact bI_nar | decide) ?_
        exact ⟨_, _, rfl, rfl, Lq.n rfl (congrArg Prod.snd hq9)⟩
theorem lv47 {a1 a2 : Int32} (hR : Rel 1 nt np M r) (hG : Gd nt np r) (hc : M 1 7 = -1) : ∃ v M', mT X 47 [.ref 0, .int a1, .int a2] (con M) (some (.int v)) (con M') ∧ Lq (qSees r nt np a1 a2) M M' := by
  refine ti_of (row := _) rfl (Nat.le_of_ble_eq_true rfl) ?_
  have hm : mMet 47 = some _ := rfl
  have hV := hG.2.2.1
  have hn8 := hV.1
  have hp8 := hV.2.1
  refine x_aload_n hm rfl rfl ?_
  refine x_getf hm rfl (gR rfl rfl) ?_
  refine x_iload_n hm rfl rfl ?_
  refine x_callV hm rfl rfl (t19 (by decide)) ?_
  rw [hR.2.1]
  refine x_if_eq hm rfl (t := 22) rfl (fun h1 => ?_) (fun h1 => ?_)
  · refine x_aload_n hm rfl rfl ?_
    refine x_ldcI hm rfl (v := (-1000001 : Int32)) (by decide) ?_
    refine x_callV hm rfl rfl (e7 (by decide)) ?_
    refine x_iret hm rfl rfl (by first | rfl | exact bI_nar | decide) ?_
    first
      | (exact ⟨_, _, rfl, rfl, Lq.t rfl (by unfold qSees; rw [if_pos (by assumption)]) (by decide)⟩)
      | (exact ⟨_, _, rfl, rfl, Lq.t rfl (by unfold qSees; rw [if_neg (by assumption), if_pos (by assumption)]) (by decide)⟩)
  · obtain ⟨p, hp, rfl⟩ := in_k rfl (by omega) (bI_ne0 h1)
    refine x_aload_n hm rfl rfl ?_
    refine x_getf hm rfl (gR rfl rfl) ?_
    refine x_iload_n hm rfl rfl ?_
    refine x_callV hm rfl rfl (t10 (by decide)) ?_
    rw [hR.1]
    refine x_if_ne hm rfl (t := 29) rfl (fun h2 => ?_) (fun h2 => ?_)
    · obtain ⟨t, ht, rfl⟩ := in_k rfl (by omega) (bI_ne0 h2)
      refine x_aload_n hm rfl rfl ?_
      refine x_getf hm rfl (gR rfl rfl) ?_
      refine x_getf hm rfl (gR rfl rfl) ?_
      refine x_iconst hm rfl (v := nI 1) (by decide) ?_
      refine x_aald hm rfl (lQ _ (by decide) rfl rfl (by omega) (by decide)) ?_
      refine x_iload_n hm rfl rfl ?_
      refine x_iald hm rfl (lI rfl (by omega) (by decide)) ?_
      rw [show M 4 t = _ from hR.at_ ht]
      refine x_istore_n hm rfl rfl ?_
      refine x_aload_n hm rfl rfl ?_
      refine x_getf hm rfl (gR rfl rfl) ?_
      refine x_getf hm rfl (gR rfl rfl) ?_
      refine x_iconst hm rfl (v := nI 2) (by decide) ?_
      refine x_aald hm rfl (lQ _ (by decide) rfl rfl (by omega) (by decide)) ?_
      refine x_iload_n hm rfl rfl ?_
      refine x_iald hm rfl (lI rfl (by omega) (by decide)) ?_
      rw [show M 12 p = _ from hR.walk hp]
      refine x_istore hm rfl rfl ?_
      refine x_aload_n hm rfl rfl ?_
      refine x_getf hm rfl (gR rfl rfl) ?_
      refine x_getf hm rfl (gR rfl rfl) ?_
      refine x_iconst hm rfl (v := nI 1) (by decide) ?_
      refine x_aald hm rfl (lQ _ (by decide) rfl rfl (by omega) (by decide)) ?_
      refine x_iload_n hm rfl rfl ?_
      refine x_iald hm rfl (lI rfl (by omega) (by decide)) ?_
      rw [show M 11 p = _ from hR.pat hp]
      refine x_istore hm rfl rfl ?_
      refine x_iconst hm rfl (v := nI 0) (by decide) ?_
      refine x_istore hm rfl rfl ?_
      have hq : qSees r nt np (nI p) (nI t) = sSe (r (14 + 6 * t + 1)) (r (62 + 7 * p + 2)) 16 0 (r (62 + 7 * p + 1)) := by
        unfold qSees
        rw [if_neg (by assumption), if_neg (by assumption)]
        rw [jI_nat (k := t) (by omega)]
        rw [jI_nat (k := p) (by omega)]
      have hw := hG.2.2.2.2.2.2 p hp
      exact lv47l _ 0 _ (Nat.lt_succ_self _) (Nat.zero_le _) (hq.trans (sSe_101 hw.1 hw.2.1).symm)
    · refine x_aload_n hm rfl rfl ?_
      refine x_ldcI hm rfl (v := (-1000001 : Int32)) (by decide) ?_
      refine x_callV hm rfl rfl (e7 (by decide)) ?_
      refine x_iret hm rfl rfl (by first | rfl | exact bI_nar | decide) ?_
      first
        | (exact ⟨_, _, rfl, rfl, Lq.t rfl (by unfold qSees; rw [if_pos (by assumption)]) (by decide)⟩)
        | (exact ⟨_, _, rfl, rfl, Lq.t rfl (by unfold qSees; rw [if_neg (by assumption), if_pos (by assumption)]) (by decide)⟩)
theorem lv59l {t a : Nat} (hR : Rel 1 nt np M r) (hG : Gd nt np r) (hc : M 1 7 = -1) (ht : t < nt) (ha : a ≤ 1000) : ∀ (n k : Nat) (M1 : mM), 10 - k < n → k ≤ 10 → Ty M M1 → (∀ i, i < k → ¬ 0 < sDays (-1) nt np a (put1 r (14 + 6 * t + 3) (nI i)) (14 + 6 * t + 2)) → mEv X (QI (fun _ M' => Lq (orN (fo (sNd r (-1) nt np a t) 10 (-1))) M M')) 59 30 [some (.ref 0), some (.int (nI t)), some (.int (nI a)), some (.int (nI k))] [] (con M1) := by
  have hm : mMet 59 = some _ := rfl
  intro n
  induction n with
  | zero =>
    intro k M1 hkn hkb hT hno
    omega
  | succ n ih =>
    intro k M1 hkn hkb hT hno
    have hV := hG.2.2.1
    have hn8 := hV.1
    have hp8 := hV.2.1
    refine x_iload_n hm rfl rfl ?_
    refine x_bipush hm rfl (v := nI 9) (by decide) ?_
    refine x_icmp_gt hm rfl (t := 79) rfl (fun h1 => ?_) (fun h1 => ?_)
    · have hk : k = 10 := by
        have : ¬ k ≤ 9 := fun h => absurd h1 (Int32.not_lt.mpr ((jI_le (by omega) (by decide)).mpr h))
        omega
      have hq9 : orN (fo (sNd r (-1) nt np a t) 10 (-1)) = (-1000004, true) := by rw [nd_no (fun i hi => hno i (by omega))]; exact orN_m
      refine x_aload_n hm rfl rfl ?_
      refine x_ldcI hm rfl (v := (-1000004 : Int32)) (by decide) ?_
      refine x_callV hm rfl rfl (e7 (by decide)) ?_
      refine x_iret hm rfl rfl (by first | rfl | exact bI_nar | decide) ?_
      exact ⟨_, _, rfl, rfl, Lq.t (hT 55 (by omega)) hq9 (by decide)⟩
    · have hk : k ≤ 9 := Nat.le_of_not_lt fun h => h1 (nI_lt h (by omega))
      refine x_aload_n hm rfl rfl ?_
      refine x_cVv hm rfl rfl (g42y (hT.rel hR) hn8 hp8 (hT.c hc)) (fun M2 r2 => ?_)
      refine x_aload_n hm rfl rfl ?_
      refine x_getf hm rfl (gR rfl rfl) ?_
      refine x_getf hm rfl (gR rfl rfl) ?_
      refine x_iconst hm rfl (v := nI 3) (by decide) ?_
      refine x_aald hm rfl (lQ _ (by decide) rfl rfl (by omega) (by decide)) ?_
      refine x_iload_n hm rfl rfl ?_
      refine x_iload_n hm rfl rfl ?_
      refine x_iast hm rfl (sI rfl (by omega) (by decide)) ?_
      have hq2 := r2.1.pi (f := 3) (v := nI k) hn8 (by decide) ht
      have h7 : mput M2 (35 + 2 + 3) t (nI k) 35 7 = -1 := (mpn (by omega)).trans r2.2.1
      have hz2 : Ty M (mput M2 (35 + 2 + 3) t (nI k)) := (hT.to r2.2.2).to (fun x hx => mpo (by omega))
      have hgk := paint_gd hG ht (show k < 10 by omega)
      refine x_aload_n hm rfl rfl ?_
      refine x_getf hm rfl (gR rfl rfl) ?_
      refine x_iload_n hm rfl rfl ?_
      refine x_cVv hm rfl rfl (e30 (by decide) hq2 hgk.2.2.1 ha) (fun M3 r3 => ?_)
      rw [h7] at r3
      have hz3 := hz2.to r3.ty
      have hth := r3.1.thick ht
      refine x_aload_n hm rfl rfl ?_
      refine x_getf hm rfl (gR rfl rfl) ?_
      refine x_iload_n hm rfl rfl ?_
      refine x_callV hm rfl rfl (t32 (by decide) (by omega)) ?_
      rw [show M3 (35 + 4) t = _ from hth]
      refine x_if_ne hm rfl (t := 73) rfl (fun h4 => ?_) (fun h4 => ?_)
      · have hno2 : ∀ i, i < k + 1 → ¬ 0 < sDays (-1) nt np a (put1 r (14 + 6 * t + 3) (nI i)) (14 + 6 * t + 2) := fun i hi => by
          by_cases e : i = k
          · subst e
            rw [bI_ne0 h4]
            decide
          · exact hno i (by omega)
        refine x_iinc hm rfl rfl (v := nI 1) (by decide) rfl ?_
        rw [jI_add]
        refine x_goto hm rfl (t := 30) rfl ?_
        exact ih _ _ (by omega) (by omega) hz3 hno2
      · have hq9 : orN (fo (sNd r (-1) nt np a t) 10 (-1)) = (nI k, false) := by rw [nd_yes (by omega) (pos_le (days_le hgk (by omega) ht) (by decide) (bI_eq0.mp h4)) hno]; exact orN_k (by omega)
        refine x_iload_n hm rfl rfl ?_
        refine x_iret hm rfl rfl (by first | rfl | exact bI_nar | decide) ?_
        exact ⟨_, _, rfl, rfl, Lq.n (hz3 55 (by omega)) (congrArg Prod.snd hq9)⟩
theorem lv59 {a1 a2 : Int32} (hR : Rel 1 nt np M r) (hG : Gd nt np r) (hc : M 1 7 = -1) : ∃ v M', mT X 59 [.ref 0, .int a1, .int a2] (con M) (some (.int v)) (con M') ∧ Lq (qNeeds r nt np a1 a2) M M' := by
  refine ti_of (row := _) rfl (Nat.le_of_ble_eq_true rfl) ?_
  have hm : mMet 59 = some _ := rfl
  have hV := hG.2.2.1
  have hn8 := hV.1
  have hp8 := hV.2.1
  refine x_aload_n hm rfl rfl ?_
  refine x_getf hm rfl (gR rfl rfl) ?_
  refine x_iload_n hm rfl rfl ?_
  refine x_callV hm rfl rfl (t10 (by decide)) ?_
  rw [hR.1]
  refine x_if_eq hm rfl (t := 21) rfl (fun h1 => ?_) (fun h1 => ?_)
  · refine x_aload_n hm rfl rfl ?_
    refine x_ldcI hm rfl (v := (-1000001 : Int32)) (by decide) ?_
    refine x_callV hm rfl rfl (e7 (by decide)) ?_
    refine x_iret hm rfl rfl (by first | rfl | exact bI_nar | decide) ?_
    first
      | (exact ⟨_, _, rfl, rfl, Lq.t rfl (by unfold qNeeds; rw [if_pos (by assumption)]) (by decide)⟩)
      | (exact ⟨_, _, rfl, rfl, Lq.t rfl (by unfold qNeeds; rw [if_neg (by assumption), if_pos (by assumption)]) (by decide)⟩)
  · obtain ⟨t, ht, rfl⟩ := in_k rfl (by omega) (bI_ne0 h1)
    refine x_iload_n hm rfl rfl ?_
    refine x_iconst hm rfl (v := nI 0) (by decide) ?_
    refine x_bipush hm rfl (v := nI 60) (by decide) ?_
    refine x_callS hm rfl rfl (t6) ?_
    refine x_if_ne hm rfl (t := 28) rfl (fun h2 => ?_) (fun h2 => ?_)
    · obtain ⟨a, ha, rfl⟩ := le_k (by omega) (bI_ne0 h2)
      refine x_iconst hm rfl (v := nI 0) (by decide) ?_
      refine x_istore_n hm rfl rfl ?_
      have hq : qNeeds r nt np (nI t) (nI a) = orN (fo (sNd r (-1) nt np a t) 10 (-1)) := by
        unfold qNeeds
        rw [if_neg (by assumption), if_neg (by assumption)]
        rw [jI_nat (k := t) (by omega)]
        rw [jI_nat (k := a) (by omega)]
      rw [hq]
      exact lv59l hR hG hc ht (by omega) _ 0 _ (Nat.lt_succ_self _) (Nat.zero_le _) Ty.rf (fun i hi => absurd hi (Nat.not_lt_zero _))
    · refine x_aload_n hm rfl rfl ?_
      refine x_ldcI hm rfl (v := (-1000001 : Int32)) (by decide) ?_
      refine x_callV hm rfl rfl (e7 (by decide)) ?_
      refine x_iret hm rfl rfl (by first | rfl | exact bI_nar | decide) ?_
      first
        | (exact ⟨_, _, rfl, rfl, Lq.t rfl (by unfold qNeeds; rw [if_pos (by assumption)]) (by decide)⟩)
        | (exact ⟨_, _, rfl, rfl, Lq.t rfl (by unfold qNeeds; rw [if_neg (by assumption), if_pos (by assumption)]) (by decide)⟩)
theorem lv68l (hR : Rel 1 nt np M r) (hV : Vs nt np r) {a b y : Nat} (ha : a < np) (hb : b < np) (hy : y < 256) : ∀ (n k : Nat), y + 1 - k < n → k ≤ y + 1 → sDn r nt a b y (y + 1) 0 = sDn r nt a b y (y + 1 - k) k → mEv X (QI (fun _ M' => Lq (orN (sDn r nt a b y (y + 1) 0)) M M')) 68 20 [some (.ref 0), some (.int (nI a)), some (.int (nI b)), some (.int (nI y)), some (.int (nI k))] [] (con M) := by
  have hm : mMet 68 = some _ := rfl
  intro n
  induction n with
  | zero =>
    intro k hkn hkb hq
    omega
  | succ n ih =>
    intro k hkn hkb hq
    have hn8 := hV.1
    have hp8 := hV.2.1
    refine x_iload hm rfl rfl ?_
    refine x_iload_n hm rfl rfl ?_
    refine x_icmp_gt hm rfl (t := 59) rfl (fun h1 => ?_) (fun h1 => ?_)
    · have hk : k = y + 1 := by
        have := (jI_lt (by omega) (by omega)).mp h1
        omega
      have hq9 : sDn r nt a b y (y + 1) 0 = -1 := by rw [hq, hk, Nat.sub_self]; rfl
      refine x_aload_n hm rfl rfl ?_
      refine x_ldcI hm rfl (v := (-1000004 : Int32)) (by decide) ?_
      refine x_callV hm rfl rfl (e7 (by decide)) ?_
      refine x_iret hm rfl rfl (by first | rfl | exact bI_nar | decide) ?_
      exact ⟨_, _, rfl, rfl, Lq.t rfl ((congrArg orN hq9).trans orN_m) (by decide)⟩
    · have hk : k ≤ y := Nat.le_of_not_lt fun h => h1 ((jI_lt (by omega) (by omega)).mpr h)
      have hst : sDn r nt a b y (y + 1 - k) k = if (Pt k y ∧ Dl r nt a b k (y - k)) then nI k else sDn r nt a b y (y + 1 - (k + 1)) (k + 1) := by rw [show y + 1 - k = (y + 1 - (k + 1)) + 1 by omega]; rfl
      refine x_iload hm rfl rfl ?_
      refine x_iload_n hm rfl rfl ?_
      refine x_callS hm rfl rfl (gv70) ?_
      refine x_if_eq hm rfl (t := 53) rfl (fun h2 => ?_) (fun h2 => ?_)
      · have hq2 := hq.trans (hst.trans (if_neg fun z => bI_eq0.mp h2 z.1))
        refine x_iinc hm rfl rfl (v := nI 1) (by decide) rfl ?_
        rw [jI_add]
        refine x_goto hm rfl (t := 20) rfl ?_
        exact ih _ (by omega) (by omega) hq2
      · have hpt := bI_ne0 h2
        refine x_aload_n hm rfl rfl ?_
        refine x_iload_n hm rfl rfl ?_
        refine x_iload_n hm rfl rfl ?_
        refine x_iload hm rfl rfl ?_
        refine x_iload_n hm rfl rfl ?_
        refine x_iload hm rfl rfl ?_
        refine x_isub hm rfl ?_
        rw [sub_kk hk]
        refine x_callV hm rfl rfl (gv71 hR hV ha hb (by omega) (by omega)) ?_
        refine x_if_eq hm rfl (t := 53) rfl (fun h3 => ?_) (fun h3 => ?_)
        · have hq2 := hq.trans (hst.trans (if_neg fun z => bI_eq0.mp h3 z.2))
          refine x_iinc hm rfl rfl (v := nI 1) (by decide) rfl ?_
          rw [jI_add]
          refine x_goto hm rfl (t := 20) rfl ?_
          exact ih _ (by omega) (by omega) hq2
        · have hq9 := hq.trans (hst.trans (if_pos ⟨hpt, bI_ne0 h3⟩))
          refine x_iload hm rfl rfl ?_
          refine x_iret hm rfl rfl (by first | rfl | exact bI_nar | decide) ?_
          exact ⟨_, _, rfl, rfl, Lq.n rfl (orN_2 hq9 (by omega))⟩
theorem lv68 {a1 a2 a3 : Int32} (hR : Rel 1 nt np M r) (hG : Gd nt np r) (hc : M 1 7 = -1) : ∃ v M', mT X 68 [.ref 0, .int a1, .int a2, .int a3] (con M) (some (.int v)) (con M') ∧ Lq (kDeal r nt np a1 a2 a3) M M' := by
  refine ti_of (row := _) rfl (Nat.le_of_ble_eq_true rfl) ?_
  have hm : mMet 68 = some _ := rfl
  have hV := hG.2.2.1
  have hn8 := hV.1
  have hp8 := hV.2.1
  refine x_aload_n hm rfl rfl ?_
  refine x_iload_n hm rfl rfl ?_
  refine x_iload_n hm rfl rfl ?_
  refine x_iload_n hm rfl rfl ?_
  refine x_callV hm rfl rfl (gv69 hR hn8) ?_
  refine x_if_ne hm rfl (t := 17) rfl (fun h1 => ?_) (fun h1 => ?_)
  · have hcd := bI_ne0 h1
    obtain ⟨a, ha, rfl⟩ := in_k rfl (by omega) hcd.1
    obtain ⟨b, hb, rfl⟩ := in_k rfl (by omega) hcd.2.1
    obtain ⟨y, hy, rfl⟩ := set_k hn8 hcd.2.2.2
    have hy8 : y < 256 := Nat.lt_of_lt_of_le hy (pow_k hn8)
    refine x_iconst hm rfl (v := nI 0) (by decide) ?_
    refine x_istore hm rfl rfl ?_
    have hq : kDeal r nt np (nI a) (nI b) (nI y) = orN (sDn r nt a b y (y + 1) 0) := by
      unfold kDeal
      rw [if_neg (by assumption)]
      rw [jI_nat (k := a) (by omega), jI_nat (k := b) (by omega), jI_nat (k := y) (by omega)]
    rw [hq]
    exact lv68l hR hV ha hb hy8 _ 0 (Nat.lt_succ_self _) (Nat.zero_le _) rfl
  · refine x_aload_n hm rfl rfl ?_
    refine x_ldcI hm rfl (v := (-1000001 : Int32)) (by decide) ?_
    refine x_callV hm rfl rfl (e7 (by decide)) ?_
    refine x_iret hm rfl rfl (by first | rfl | exact bI_nar | decide) ?_
    exact ⟨_, _, rfl, rfl, Lq.t rfl (by unfold kDeal; rw [if_pos (by assumption)]) (by decide)⟩
theorem lv81l {s p t u y : Nat} (hR0 : Rel 1 nt np M r) (hG : Gd nt np r) (hc0 : M 1 7 = -1) (hS0 : Rs w z nu M) (hs : s ≤ 3) (hp : p < np) (ht : t < nt) (hu3 : u ≤ 3) (hu : r (14 + 6 * t + 0) = nI u) (hy40 : y ≤ 40) (hyz : z s = nI y) {c4 : Int32} : ∀ (n2 k : Nat) (M1 : mM), 10 - k < n2 → k ≤ 10 → Ty M M1 → sLk (sFs (fun j => nu (40 * s + j)) (-1) nt np t y (62 + 7 * p + (3 + u)) r 10) 10 0 = sLk (sFs (fun j => nu (40 * s + j)) (-1) nt np t y (62 + 7 * p + (3 + u)) r 10) (10 - k) k → mEv X (QI (fun _ M' => Lq (sLk (sFs (fun j => nu (40 * s + j)) (-1) nt np t y (62 + 7 * p + (3 + u)) r 10) 10 0) M M')) 81 24 [some (.ref 0), some (.int (nI s)), some (.int (nI p)), some (.int (nI t)), some (.int c4), some (.int (nI k))] [] (con M1) := by
  have hm : mMet 81 = some _ := rfl
  intro n
  induction n with
  | zero =>
    intro k M1 hkn hkb hT hq
    omega
  | succ n ih =>
    intro k M1 hkn hkb hT hq
    have hV := hG.2.2.1
    have hn8 := hV.1
    have hp8 := hV.2.1
    refine x_iload hm rfl rfl ?_
    refine x_bipush hm rfl (v := nI 9) (by decide) ?_
    refine x_icmp_gt hm rfl (t := 57) rfl (fun h1 => ?_) (fun h1 => ?_)
    · obtain rfl : k = 10 := Nat.le_antisymm hkb (Nat.lt_of_not_le fun q => absurd h1 (Int32.not_lt.mpr ((jI_le (by omega) (by decide)).mpr q)))
      have hq9 : sLk (sFs (fun j => nu (40 * s + j)) (-1) nt np t y (62 + 7 * p + (3 + u)) r 10) 10 0 = (-1000004, true) := hq
      refine x_aload_n hm rfl rfl ?_
      refine x_ldcI hm rfl (v := (-1000004 : Int32)) (by decide) ?_
      refine x_callV hm rfl rfl (e7 (by decide)) ?_
      refine x_iret hm rfl rfl (by first | rfl | exact bI_nar | decide) ?_
      exact ⟨_, _, rfl, rfl, Lq.t (hT 55 (by omega)) hq9 (by decide)⟩
    · have hk : k ≤ 9 := Nat.le_of_not_lt fun h => h1 (nI_lt h (by omega))
      have hq8 := hq.trans (show sLk (sFs (fun j => nu (40 * s + j)) (-1) nt np t y (62 + 7 * p + (3 + u)) r 10) (10 - k) k = sLk (sFs (fun j => nu (40 * s + j)) (-1) nt np t y (62 + 7 * p + (3 + u)) r 10) (10 - (k + 1) + 1) k by rw [show 10 - k = 10 - (k + 1) + 1 by omega])
      refine x_aload_n hm rfl rfl ?_
      refine x_aload_n hm rfl rfl ?_
      refine x_getf hm rfl (gR rfl rfl) ?_
      refine x_iload_n hm rfl rfl ?_
      refine x_aald hm rfl (by first | exact lQ 2 (Or.inl rfl) rfl (shk hs) (by omega) (by decide) | exact lQ 3 (Or.inr (Or.inl rfl)) rfl rfl (by omega) (by decide)) ?_
      refine x_iload_n hm rfl rfl ?_
      refine x_iload_n hm rfl rfl ?_
      refine x_iload hm rfl rfl ?_
      refine x_cVi hm rfl rfl (gv80 (hT.rel hR0) hn8 hp8 (hT.c hc0) (hT.rs hS0) hs hp ht hu3 hu hy40 hyz (like_gd hG hp (by omega) (by omega)).2.2.1) (fun v2 M2 r2 => ?_)
      refine x_if_eq hm rfl (t := 51) rfl (fun h3 => ?_) (fun h3 => ?_)
      · have hq9 := hq8.trans (if_neg fun e => bI_eq0.mp (r2.1.symm.trans h3) (wS_tb (P := (fun v => sFt (fun j => nu (40 * s + j)) (-1) nt np t y 0 (put1 r (62 + 7 * p + (3 + u)) (nI v)) = true)).mp e).2)
        refine x_iinc hm rfl rfl (v := nI 1) (by decide) rfl ?_
        rw [jI_add]
        refine x_goto hm rfl (t := 24) rfl ?_
        exact ih _ _ (by omega) (by omega) (hT.to r2.2) hq9
      · have hq9 := hq8.trans (if_pos ((wS_tb (P := (fun v => sFt (fun j => nu (40 * s + j)) (-1) nt np t y 0 (put1 r (62 + 7 * p + (3 + u)) (nI v)) = true))).mpr ⟨by omega, bI_ne0 (fun e => h3 (r2.1.trans e))⟩))
        refine x_iload hm rfl rfl ?_
        refine x_iret hm rfl rfl (by first | rfl | exact bI_nar | decide) ?_
        exact ⟨_, _, rfl, rfl, Lq.n ((hT.to r2.2) 55 (by omega)) (congrArg Prod.snd hq9)⟩
theorem lv81 {a1 a2 a3 : Int32} (hR : Rel 1 nt np M r) (hG : Gd nt np r) (hc : M 1 7 = -1) (hS : Rs w z nu M) (hzk : ∀ s, s < 4 → ∃ k, k ≤ 40 ∧ z s = nI k) : ∃ v M', mT X 81 [.ref 0, .int a1, .int a2, .int a3] (con M) (some (.int v)) (con M') ∧ Lq (qLikes (lkS w a1) z nu r nt np a1 a2 a3) M M' := by
  refine ti_of (row := _) rfl (Nat.le_of_ble_eq_true rfl) ?_
  have hm : mMet 81 = some _ := rfl
  have hV := hG.2.2.1
  have hn8 := hV.1
  have hp8 := hV.2.1
  refine x_aload_n hm rfl rfl ?_
  refine x_iload_n hm rfl rfl ?_
  refine x_iload_n hm rfl rfl ?_
  refine x_iload_n hm rfl rfl ?_
  refine x_callV hm rfl rfl (gv76 hR hS) ?_
  refine x_istore hm rfl rfl ?_
  refine x_iload hm rfl rfl ?_
  refine x_if_eq hm rfl (t := 21) rfl (fun h1 => ?_) (fun h1 => ?_)
  · obtain ⟨-, -, hl0, hb1, hb2⟩ := (fnf_d (r := r) (w := w) (z := z) (nu := nu) (nt := nt) (np := np) (a1 := a1) (a2 := a2) (a3 := a3)).resolve_left (fun q : _ ∧ _ => q.2.1 h1)
    obtain ⟨s, hs, rfl⟩ := lkS_k hl0
    obtain ⟨p, hp, rfl⟩ := in_k rfl (by omega) (bI_ne0 hb1)
    obtain ⟨t, ht, rfl⟩ := in_k rfl (by omega) (bI_ne0 hb2)
    refine x_iconst hm rfl (v := nI 0) (by decide) ?_
    refine x_istore hm rfl rfl ?_
    have hS3 := hG
    obtain ⟨u, hu3, hu⟩ := hV.sort ht
    obtain ⟨y, hy40, hyz⟩ := hzk s (by omega)
    have hq : qLikes (lkS w (nI s)) z nu r nt np (nI s) (nI p) (nI t) = sLk (sFs (fun j => nu (40 * s + j)) (-1) nt np t y (62 + 7 * p + (3 + u)) r 10) 10 0 := by
      unfold qLikes
      rw [if_neg (fun q => q hl0), if_neg hb1, if_neg hb2]
      rw [jI_nat (k := s) (by omega)]
      rw [jI_nat (k := p) (by omega)]
      rw [jI_nat (k := t) (by omega)]
      rw [hyz, hu, jI_nat (k := y) (by omega), jI_nat (k := u) (by omega)]
    rw [hq]
    exact lv81l hR hG hc hS hs hp ht hu3 hu hy40 hyz _ 0 _ (Nat.lt_succ_self _) (Nat.zero_le _) Ty.rf rfl
  · obtain ⟨hFD, -, -, hf2⟩ := (fnf_d (r := r) (w := w) (z := z) (nu := nu) (nt := nt) (np := np) (a1 := a1) (a2 := a2) (a3 := a3)).resolve_right (fun q : _ ∧ _ => h1 q.1)
    refine x_aload_n hm rfl rfl ?_
    refine x_iload hm rfl rfl ?_
    refine x_callV hm rfl rfl (e7 hFD) ?_
    refine x_iret hm rfl rfl (by first | rfl | exact bI_nar | decide) ?_
    exact ⟨_, _, rfl, rfl, Lq.t rfl hf2 hFD⟩
theorem lr201l (hW : Wf M) (h6 : M 66 6 = -1) (h67 : M 67 = r) (hV : Vs nt np r) (hnt : M 67 1 = nI nt) {a b y : Nat} (ha : a < np) (hb : b < np) (hy : y < 256) : ∀ (n j : Nat) (s : Int32), j < n → j ≤ y + 1 → s = sDn r nt a b y (y + 1 - j) j → mEv X (QI (fun _ M' => Fq (orN (sDn r nt a b y (y + 1) 0)) M M')) 201 23 [some (.ref 66), some (.int (nI a)), some (.int (nI b)), some (.int (nI y)), some (.int s), some (.int (nI j + (-1)))] [] (con M) := by
  have hm : mMet 201 = some _ := rfl
  intro n
  induction n with
  | zero =>
    intro j s hjn hj hs
    omega
  | succ n ih =>
    intro j s hjn hj hs
    have hn8 := hV.1
    have hp8 := hV.2.1
    refine x_iload hm rfl rfl ?_
    refine x_if_lt hm rfl (t := 69) rfl (fun h1 => ?_) (fun h1 => ?_)
    · obtain rfl : j = 0 := by
        cases j with
        | zero => rfl
        | succ i => rw [dec1] at h1; exact absurd h1 (jI_nn (by omega))
      have hs0 : s = sDn r nt a b y (y + 1) 0 := hs
      refine x_aload_n hm rfl rfl ?_
      refine x_iload hm rfl rfl ?_
      refine x_cVi hm rfl rfl (e177) (fun v2 M2 r2 => ?_)
      refine x_iret hm rfl rfl (by first | rfl | exact bI_nar | decide) ?_
      have h7 := r2.2.2
      rw [hs0] at h7
      exact ⟨_, _, rfl, rfl, h7⟩
    · obtain ⟨i, rfl⟩ : ∃ i, j = i + 1 := by
        cases j with
        | zero => exact absurd (by decide) h1
        | succ i => exact ⟨i, rfl⟩
      rw [dec1]
      have hst : sDn r nt a b y (y + 1 - i) i = if (Pt i y ∧ Dl r nt a b i (y - i)) then nI i else sDn r nt a b y (y + 1 - (i + 1)) (i + 1) := by rw [show y + 1 - i = (y + 1 - (i + 1)) + 1 by omega]; rfl
      refine x_iload hm rfl rfl ?_
      refine x_iload_n hm rfl rfl ?_
      refine x_iconst hm rfl (v := (-1 : Int32)) (by decide) ?_
      refine x_ixor hm rfl ?_
      refine x_iand hm rfl ?_
      refine x_if_ne hm rfl (t := 59) rfl (fun h3 => ?_) (fun h3 => ?_)
      · have hs2 := hs.trans (hst.trans (if_neg fun z => h3 z.1)).symm
        refine x_iload hm rfl rfl ?_
        refine x_istore hm rfl rfl ?_
        refine x_iinc hm rfl rfl (v := (-1 : Int32)) (by decide) rfl ?_
        refine x_goto hm rfl (t := 23) rfl ?_
        exact ih i _ (by omega) (by omega) hs2
      · have hpt : Pt i y := h3
        obtain ⟨hrest, hle⟩ := part_k y hy i (by omega) hpt
        refine x_aload_n hm rfl rfl ?_
        refine x_iload_n hm rfl rfl ?_
        refine x_iload_n hm rfl rfl ?_
        refine x_iload hm rfl rfl ?_
        refine x_iload_n hm rfl rfl ?_
        refine x_iload hm rfl rfl ?_
        refine x_iconst hm rfl (v := (-1 : Int32)) (by decide) ?_
        refine x_ixor hm rfl ?_
        refine x_iand hm rfl ?_
        rw [hrest]
        refine x_callV hm rfl rfl (gr203 hW h6 h67 hV hnt ha hb (by omega) (by omega)) ?_
        refine x_if_eq hm rfl (t := 59) rfl (fun h4 => ?_) (fun h4 => ?_)
        · have hs2 := hs.trans (hst.trans (if_neg fun z => bI_eq0.mp h4 z.2)).symm
          refine x_iload hm rfl rfl ?_
          refine x_istore hm rfl rfl ?_
          refine x_iinc hm rfl rfl (v := (-1 : Int32)) (by decide) rfl ?_
          refine x_goto hm rfl (t := 23) rfl ?_
          exact ih i _ (by omega) (by omega) hs2
        · have hs2 := (hst.trans (if_pos ⟨hpt, bI_ne0 h4⟩)).symm
          refine x_iload hm rfl rfl ?_
          refine x_goto hm rfl (t := 61) rfl ?_
          refine x_istore hm rfl rfl ?_
          refine x_iinc hm rfl rfl (v := (-1 : Int32)) (by decide) rfl ?_
          refine x_goto hm rfl (t := 23) rfl ?_
          exact ih i _ (by omega) (by omega) hs2
theorem lr201 {a1 a2 a3 : Int32} (hI : Inv M) (h67 : M 67 = r) (hG : Gd nt np r) (h6 : M 66 6 = -1) : ∃ v M', mT X 201 [.ref 66, .int a1, .int a2, .int a3] (con M) (some (.int v)) (con M') ∧ Fq (kDeal r nt np a1 a2 a3) M M' := by
  refine ti_of (row := _) rfl (Nat.le_of_ble_eq_true rfl) ?_
  have hm : mMet 201 = some _ := rfl
  have hV := hG.2.2.1
  have hn8 := hV.1
  have hp8 := hV.2.1
  have hW := hI.1
  have hnt : M 67 1 = nI nt := (congrFun h67 1).trans hG.1
  have hnp : M 67 2 = nI np := (congrFun h67 2).trans hG.2.1
  refine x_aload_n hm rfl rfl ?_
  refine x_iload_n hm rfl rfl ?_
  refine x_iload_n hm rfl rfl ?_
  refine x_iload_n hm rfl rfl ?_
  refine x_callV hm rfl rfl (gr202 hnt hn8 hnp) ?_
  refine x_if_ne hm rfl (t := 17) rfl (fun h1 => ?_) (fun h1 => ?_)
  · have hcd := bI_ne0 h1
    obtain ⟨a, ha, rfl⟩ := in_k rfl (by omega) hcd.1
    obtain ⟨b, hb, rfl⟩ := in_k rfl (by omega) hcd.2.1
    obtain ⟨y, hy, rfl⟩ := set_k hn8 hcd.2.2.2
    have hy8 : y < 256 := Nat.lt_of_lt_of_le hy (pow_k hn8)
    refine x_iconst hm rfl (v := (-1 : Int32)) (by decide) ?_
    refine x_istore hm rfl rfl ?_
    refine x_iload_n hm rfl rfl ?_
    refine x_istore hm rfl rfl ?_
    have hq : kDeal r nt np (nI a) (nI b) (nI y) = orN (sDn r nt a b y (y + 1) 0) := by
      unfold kDeal
      rw [if_neg (by assumption)]
      rw [jI_nat (k := a) (by omega), jI_nat (k := b) (by omega), jI_nat (k := y) (by omega)]
    rw [hq]
    have e := lr201l (X := X) hW h6 h67 hV hnt ha hb hy8 _ (y + 1) _ (Nat.lt_succ_self _) (Nat.le_refl _) (show (-1 : Int32) = _ by rw [Nat.sub_self]; rfl)
    rw [dec1 y] at e
    exact e
  · refine x_aload_n hm rfl rfl ?_
    refine x_ldcI hm rfl (v := (-1000001 : Int32)) (by decide) ?_
    refine x_callV hm rfl rfl (e135 (by decide)) ?_
    refine x_iret hm rfl rfl (by first | rfl | exact bI_nar | decide) ?_
    have hq : kDeal r nt np a1 a2 a3 = (-1000001, true) := (by unfold kDeal; rw [if_pos (by assumption)])
    exact ⟨_, _, rfl, rfl, by rw [hq]; exact fndR_fq⟩
theorem lr196l (hI : Inv M) (h67 : M 67 = r) (hV : Vs nt np r) (hnt : M 67 1 = nI nt) : ∀ (n k : Nat) (b s : Int32) (x4 : Option Value), nt - k < n → k ≤ nt → (b, s) = fo (sKs r nt) k (-1, nI 0) → mEv X (QI (fun _ M' => Fq (kKey r nt) M M')) 196 6 [some (.ref 66), some (.int b), some (.int s), some (.int (nI k)), x4] [] (con M) := by
  have hm : mMet 196 = some _ := rfl
  intro n
  induction n with
  | zero =>
    intro k b s x4 hkn hkb hz
    omega
  | succ n ih =>
    intro k b s x4 hkn hkb hz
    have hn8 := hV.1
    have hp8 := hV.2.1
    refine x_iload_n hm rfl rfl ?_
    refine x_aload_n hm rfl rfl ?_
    refine x_getf hm rfl (gR rfl rfl) ?_
    refine x_iconst hm rfl (v := nI 1) (by decide) ?_
    refine x_iald hm rfl (lI rfl (by omega) (by decide)) ?_
    rw [hnt]
    refine x_icmp_ge hm rfl (t := 51) rfl (fun h1 => ?_) (fun h1 => ?_)
    · obtain rfl : k = nt := Nat.le_antisymm hkb ((jI_le (by omega) (by omega)).mp h1)
      refine x_aload_n hm rfl rfl ?_
      refine x_iload_n hm rfl rfl ?_
      refine x_cVi hm rfl rfl (e177) (fun v2 M2 r2 => ?_)
      refine x_iret hm rfl rfl (by first | rfl | exact bI_nar | decide) ?_
      have hzz := r2.2.2
      exact ⟨_, _, rfl, rfl, by unfold kKey; rw [← hz]; exact hzz⟩
    · have hk : k < nt := Nat.lt_of_not_le fun h => h1 (nI_le h (by omega))
      refine x_aload_n hm rfl rfl ?_
      refine x_iload_n hm rfl rfl ?_
      refine x_callV hm rfl rfl (e194 hI (by omega) hnt hn8) ?_
      rw [h67]
      refine x_callS hm rfl rfl (g168 (wS_lt hn8)) ?_
      refine x_istore hm rfl rfl ?_
      refine x_iload hm rfl rfl ?_
      refine x_iload_n hm rfl rfl ?_
      refine x_icmp_le hm rfl (t := 36) rfl (fun h3 => ?_) (fun h3 => ?_)
      · have hle := Int32.not_lt.mpr h3
        refine x_iload_n hm rfl rfl ?_
        refine x_istore_n hm rfl rfl ?_
        refine x_iload_n hm rfl rfl ?_
        refine x_iload hm rfl rfl ?_
        refine x_lib hm rfl rfl ?_
        dsimp only
        refine x_istore_n hm rfl rfl ?_
        refine x_iinc hm rfl rfl (v := nI 1) (by decide) rfl ?_
        rw [jI_add]
        refine x_goto hm rfl (t := 6) rfl ?_
        first
          | exact ih _ _ _ _ (by omega) (by omega) (by show _ = sKs r nt k _; rw [← hz]; unfold sKs; dsimp only; rw [if_pos hlt, if_pos hlt])
          | exact ih _ _ _ _ (by omega) (by omega) (by show _ = sKs r nt k _; rw [← hz]; unfold sKs; dsimp only; rw [if_neg hle, if_neg hle])
      · have hlt := Int32.not_le.mp h3
        refine x_iload_n hm rfl rfl ?_
        refine x_goto hm rfl (t := 37) rfl ?_
        refine x_istore_n hm rfl rfl ?_
        refine x_iload_n hm rfl rfl ?_
        refine x_iload hm rfl rfl ?_
        refine x_lib hm rfl rfl ?_
        dsimp only
        refine x_istore_n hm rfl rfl ?_
        refine x_iinc hm rfl rfl (v := nI 1) (by decide) rfl ?_
        rw [jI_add]
        refine x_goto hm rfl (t := 6) rfl ?_
        first
          | exact ih _ _ _ _ (by omega) (by omega) (by show _ = sKs r nt k _; rw [← hz]; unfold sKs; dsimp only; rw [if_pos hlt, if_pos hlt])
          | exact ih _ _ _ _ (by omega) (by omega) (by show _ = sKs r nt k _; rw [← hz]; unfold sKs; dsimp only; rw [if_neg hle, if_neg hle])
theorem lr196 (hI : Inv M) (h67 : M 67 = r) (hG : Gd nt np r) (h6 : M 66 6 = -1) : ∃ v M', mT X 196 [.ref 66] (con M) (some (.int v)) (con M') ∧ Fq (kKey r nt) M M' := by
  refine ti_of (row := _) rfl (Nat.le_of_ble_eq_true rfl) ?_
  have hm : mMet 196 = some _ := rfl
  have hV := hG.2.2.1
  have hn8 := hV.1
  have hp8 := hV.2.1
  have hW := hI.1
  have hnt : M 67 1 = nI nt := (congrFun h67 1).trans hG.1
  have hnp : M 67 2 = nI np := (congrFun h67 2).trans hG.2.1
  refine x_iconst hm rfl (v := (-1 : Int32)) (by decide) ?_
  refine x_istore_n hm rfl rfl ?_
  refine x_iconst hm rfl (v := nI 0) (by decide) ?_
  refine x_istore_n hm rfl rfl ?_
  refine x_iconst hm rfl (v := nI 0) (by decide) ?_
  refine x_istore_n hm rfl rfl ?_
  exact lr196l hI h67 hV hnt _ 0 _ _ _ (Nat.lt_succ_self _) (Nat.zero_le _) rfl
def sm7 (f : Nat → Int32) : Int32 := fo (fun k s => s + f k) 7 (nI 0)
def fStC (f : Nat → Int32) (a : Int32) : Int32 := if bI ((-1 : Int32) ≤ a ∧ a ≤ nI 6) = 0 then -1000001 else if a < 0 then sm7 f else f a.toNatClampNeg
def fStR (f : Nat → Int32) (a : Int32) : Int32 := if bI ((-1 : Int32) ≤ a ∧ a ≤ nI 6) = 0 then -1000001 else f (a + nI 1).toNatClampNeg
theorem stq_k {a : Int32} (h : (-1 : Int32) ≤ a ∧ a ≤ nI 6) (hn : ¬ a < 0) : ∃ k, k ≤ 6 ∧ a = nI k := le_k (by decide) ⟨Int32.not_lt.mp hn, h.2⟩
theorem stq_m {a : Int32} (h : (-1 : Int32) ≤ a ∧ a ≤ nI 6) (hn : a < 0) : a = -1 := by
  have h1 := Int32.le_iff_toInt_le.mp h.1
  have h2 := Int32.lt_iff_toInt_lt.mp hn
  have e1 : (-1 : Int32).toInt = -1 := by decide
  have e2 : (0 : Int32).toInt = 0 := by decide
  exact Int32.toInt_inj.mp (by rw [e1] at h1 ⊢; rw [e2] at h2; omega)
theorem lv130l {a1 : Int32} : ∀ (n k : Nat) (s : Int32), 7 - k < n → k ≤ 7 → s = fo (fun k s => s + M 55 k) k (nI 0) → mEv X (QI (fun v M' => v = sm7 (M 55) ∧ M' = M)) 130 32 [some (.ref 0), some (.int a1), some (.int s), some (.int (nI k))] [] (con M) := by
  have hm : mMet 130 = some _ := rfl
  intro n
  induction n with
  | zero =>
    intro k s hkn hkb hs
    omega
  | succ n ih =>
    intro k s hkn hkb hs
    refine x_iload_n hm rfl rfl ?_
    refine x_bipush hm rfl (v := nI 7) (by decide) ?_
    refine x_icmp_ge hm rfl (t := 53) rfl (fun h1 => ?_) (fun h1 => ?_)
    · obtain rfl : k = 7 := Nat.le_antisymm hkb ((jI_le (by omega) (by omega)).mp h1)
      refine x_iload_n hm rfl rfl ?_
      refine x_iret hm rfl rfl (by first | rfl | exact bI_nar | decide) ?_
      exact ⟨_, _, rfl, rfl, hs, rfl⟩
    · have hk : k < 7 := Nat.lt_of_not_le fun h => h1 (nI_le h (by omega))
      refine x_iload_n hm rfl rfl ?_
      refine x_aload_n hm rfl rfl ?_
      refine x_getf hm rfl (gR rfl rfl) ?_
      refine x_iload_n hm rfl rfl ?_
      refine x_iald hm rfl (lI rfl (by omega) (by decide)) ?_
      refine x_iadd hm rfl ?_
      refine x_istore_n hm rfl rfl ?_
      refine x_iinc hm rfl rfl (v := nI 1) (by decide) rfl ?_
      rw [jI_add]
      refine x_goto hm rfl (t := 32) rfl ?_
      exact ih _ _ (by omega) (by omega) (by rw [hs]; rfl)
theorem lv130 {a1 : Int32} : ∃ v M', mT X 130 [.ref 0, .int a1] (con M) (some (.int v)) (con M') ∧ v = fStC (M 55) a1 ∧ Lq (kSt a1) M M' := by
  refine ti_of (row := _) rfl (Nat.le_of_ble_eq_true rfl) ?_
  have hm : mMet 130 = some _ := rfl
  refine x_iload_n hm rfl rfl ?_
  refine x_iconst hm rfl (v := (-1 : Int32)) (by decide) ?_
  refine x_bipush hm rfl (v := nI 6) (by decide) ?_
  refine x_callS hm rfl rfl (t6) ?_
  refine x_if_ne hm rfl (t := 17) rfl (fun h1 => ?_) (fun h1 => ?_)
  · refine x_iload_n hm rfl rfl ?_
    refine x_if_lt hm rfl (t := 28) rfl (fun h2 => ?_) (fun h2 => ?_)
    · refine x_iconst hm rfl (v := nI 0) (by decide) ?_
      refine x_istore_n hm rfl rfl ?_
      refine x_iconst hm rfl (v := nI 0) (by decide) ?_
      refine x_istore_n hm rfl rfl ?_
      have hq : fStC (M 55) a1 = sm7 (M 55) := by
        unfold fStC
        rw [if_neg (by assumption), if_pos (by assumption)]
      have hk : kSt a1 = (0, false) := by
        unfold kSt
        rw [if_neg (by assumption)]
      refine ev_mono (lv130l (M := M) _ 0 _ (Nat.lt_succ_self _) (Nat.zero_le _) rfl) (fun _ _ ⟨v, M2, g1, g2, g3, g4⟩ => ⟨v, M2, g1, g2, g3.trans hq.symm, ?_⟩)
      rw [g4]
      exact Lq.n rfl (congrArg Prod.snd hk)
    · obtain ⟨k, hk6, e⟩ := stq_k (bI_ne0 h1) h2
      subst e
      refine x_aload_n hm rfl rfl ?_
      refine x_getf hm rfl (gR rfl rfl) ?_
      refine x_iload_n hm rfl rfl ?_
      refine x_iald hm rfl (lI rfl (by omega) (by decide)) ?_
      refine x_iret hm rfl rfl (by first | rfl | exact bI_nar | decide) ?_
      have hq : fStC (M 55) (nI k) = M 55 k := by
        unfold fStC
        rw [if_neg (by assumption), if_neg (by assumption), jI_nat (by omega)]
      have hk : kSt (nI k) = (0, false) := by
        unfold kSt
        rw [if_neg (by assumption)]
      exact ⟨_, _, rfl, rfl, hq.symm, Lq.n rfl (congrArg Prod.snd hk)⟩
  · refine x_aload_n hm rfl rfl ?_
    refine x_ldcI hm rfl (v := (-1000001 : Int32)) (by decide) ?_
    refine x_callV hm rfl rfl (e7 (by decide)) ?_
    refine x_iret hm rfl rfl (by first | rfl | exact bI_nar | decide) ?_
    have hq : fStC (M 55) a1 = -1000001 := by
      unfold fStC
      rw [if_pos (by assumption)]
    have hk : kSt a1 = (-1000001, true) := by
      unfold kSt
      rw [if_pos (by assumption)]
    exact ⟨_, _, rfl, rfl, hq.symm, Lq.t rfl hk (by decide)⟩
theorem lr244 {a1 : Int32} : ∃ v M', mT X 244 [.ref 66, .int a1] (con M) (some (.int v)) (con M') ∧ v = fStR (M 70) a1 ∧ Fq (kSt a1) M M' := by
  refine ti_of (row := _) rfl (Nat.le_of_ble_eq_true rfl) ?_
  have hm : mMet 244 = some _ := rfl
  refine x_iload_n hm rfl rfl ?_
  refine x_iconst hm rfl (v := (-1 : Int32)) (by decide) ?_
  refine x_bipush hm rfl (v := nI 6) (by decide) ?_
  refine x_callS hm rfl rfl (t133) ?_
  refine x_if_eq hm rfl (t := 21) rfl (fun h1 => ?_) (fun h1 => ?_)
  · refine x_aload_n hm rfl rfl ?_
    refine x_ldcI hm rfl (v := (-1000001 : Int32)) (by decide) ?_
    refine x_callV hm rfl rfl (e135 (by decide)) ?_
    refine x_iret hm rfl rfl (by first | rfl | exact bI_nar | decide) ?_
    first
      | (have hq : fStR (M 70) a1 = M 70 k := by
           unfold fStR
           rw [if_neg (by assumption), e, jI_nat (by omega)]
         have hk : kSt a1 = (0, false) := by
           unfold kSt
           rw [if_neg (by assumption)]
         exact ⟨_, _, rfl, rfl, hq.symm, by rw [hk]; exact rfl⟩)
      | (have hq : fStR (M 70) a1 = -1000001 := by
           unfold fStR
           rw [if_pos (by assumption)]
         have hk : kSt a1 = (-1000001, true) := by
           unfold kSt
           rw [if_pos (by assumption)]
         exact ⟨_, _, rfl, rfl, hq.symm, by rw [hk]; exact fndR_fq⟩)
  · have hb := bI_ne0 h1
    obtain ⟨k, hk7, e⟩ : ∃ k, k ≤ 7 ∧ a1 + nI 1 = nI k := by
      by_cases hn : a1 < 0
      · exact ⟨0, by omega, by rw [stq_m hb hn]; decide⟩
      · obtain ⟨k, hk, e⟩ := stq_k hb hn
        exact ⟨k + 1, by omega, by rw [e, jI_add]⟩
    refine x_aload_n hm rfl rfl ?_
    refine x_getf hm rfl (gR rfl rfl) ?_
    refine x_iload_n hm rfl rfl ?_
    refine x_iconst hm rfl (v := nI 1) (by decide) ?_
    refine x_iadd hm rfl ?_
    rw [e]
    refine x_iald hm rfl (lI rfl (by omega) (by decide)) ?_
    refine x_goto hm rfl (t := 27) rfl ?_
    refine x_iret hm rfl rfl (by first | rfl | exact bI_nar | decide) ?_
    first
      | (have hq : fStR (M 70) a1 = M 70 k := by
           unfold fStR
           rw [if_neg (by assumption), e, jI_nat (by omega)]
         have hk : kSt a1 = (0, false) := by
           unfold kSt
           rw [if_neg (by assumption)]
         exact ⟨_, _, rfl, rfl, hq.symm, by rw [hk]; exact rfl⟩)
      | (have hq : fStR (M 70) a1 = -1000001 := by
           unfold fStR
           rw [if_pos (by assumption)]
         have hk : kSt a1 = (-1000001, true) := by
           unfold kSt
           rw [if_pos (by assumption)]
         exact ⟨_, _, rfl, rfl, hq.symm, by rw [hk]; exact fndR_fq⟩)
end TG
