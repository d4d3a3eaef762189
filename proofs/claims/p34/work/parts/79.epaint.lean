/-! ===== paint, fits, likes: the reference ===== -/
theorem bitR2 : ∀ k, k < 1024 → ∀ m, m < 10 → ((nI k >>> (nI m &&& 31)) &&& nI 1 = nI 1 ↔ k.testBit m = true) := by decide +kernel
theorem bitO2 : ∀ k, k < 1024 → ∀ m, m < 10 → nI k ||| (nI 1 <<< (nI m &&& 31)) = nI (k ||| 2 ^ m) := by decide +kernel
theorem bit02 : ∀ k, k < 1024 → nI k ||| nI 0 = nI k := by decide +kernel
theorem wS_lt2 {P : Nat → Prop} {n : Nat} (h : n ≤ 10) : wS P n < 1024 := by
  induction n with
  | zero => exact (by decide : 0 < 1024)
  | succ n ih =>
    by_cases g : P n
    · rw [wS_t g]
      exact Nat.or_lt_two_pow (n := 10) (ih (by omega)) (Nat.pow_lt_pow_right (by decide) (by omega))
    · rw [wS_f g]
      exact ih (by omega)
theorem bits_le2 : ∀ s, s < 1024 → ((nI s) &&& (nI s - nI 1)).toNatClampNeg < 1024 ∧ nI ((nI s) &&& (nI s - nI 1)).toNatClampNeg = (nI s) &&& (nI s - nI 1) ∧ (¬ s = 0 → ((nI s) &&& (nI s - nI 1)).toNatClampNeg < s) := by decide +kernel
/-- the first k things painted so -/
def pnt (s : Nat) (r : Nat → Int32) : Nat → Nat → Int32
  | 0 => r
  | k + 1 => put1 (pnt s r k) (14 + 6 * k + 3) (if s.testBit k = true then nI 9 else r (14 + 6 * k + 3))
theorem pnt_hi {s j : Nat} {r : Nat → Int32} : ∀ k, (∀ u, u < k → ¬ j = 14 + 6 * u + 3) → pnt s r k j = r j := by
  intro k
  induction k with
  | zero => exact fun _ => rfl
  | succ k ih =>
    intro h
    show put1 (pnt s r k) (14 + 6 * k + 3) _ j = _
    rw [put1_o (h k (Nat.lt_succ_self _))]
    exact ih fun u hu => h u (by omega)
/-- what all lose with a set painted, or too much -/
def sLp (r : Nat → Int32) (w : Int32) (nt np n : Nat) (m : Int32) (k : Nat) : Int32 := if sBits 256 (nI 0) (nI k) = m then sThick (pnt k r nt) nt - sThick (sDays w nt np n (pnt k r nt)) nt else nI 2147483647
def sPt (r : Nat → Int32) (w : Int32) (nt np n : Nat) (m : Int32) (k : Nat) (z : Int32 × Int32) : Int32 × Int32 := (if sLp r w nt np n m k < z.2 then nI k else z.1, mn2 z.2 (sLp r w nt np n m k))
/-- whether a thing wore so -/
def sFt (N : Nat → Int32) (w : Int32) (nt np t : Nat) : Nat → Nat → (Nat → Int32) → Bool
  | 0, _, _ => true
  | f + 1, k, r => if N k = -1 ∨ N k = r (14 + 6 * t + 2) then sFt N w nt np t f (k + 1) (sDay w nt np r) else false
noncomputable def sFs (N : Nat → Int32) (w : Int32) (nt np t z pl : Nat) (r : Nat → Int32) (n : Nat) : Nat := wS (fun v => sFt N w nt np t z 0 (put1 r pl (nI v)) = true) n
def sLk (s : Nat) : Nat → Nat → Int32 × Bool
  | 0, _ => (-1000004, true)
  | f + 1, k => if s.testBit k = true then (nI k, false) else sLk s f (k + 1)
def qPaint (r : Nat → Int32) (nt np : Nat) (a1 a2 : Int32) : Int32 × Bool := if bI (nI 0 ≤ a1 ∧ a1 ≤ nI 8) = 0 then (-1000001, true) else if bI (nI 0 ≤ a2 ∧ a2 ≤ nI 60) = 0 then (-1000001, true) else ((fo (sPt r (-1) nt np a2.toNatClampNeg (mn2 a1 (nI nt))) (2 ^ nt) (nI 0, 2147483647)).1, false)
noncomputable def qFits (l : Int32) (W N r : Nat → Int32) (nt np : Nat) (a1 a2 a3 : Int32) : Int32 × Bool := if ¬ l = 0 then (l, true) else if bI (nI 0 ≤ a2 ∧ a2 ≤ nI np - nI 1) = 0 then (-1000001, true) else if bI (nI 0 ≤ a3 ∧ a3 ≤ nI nt - nI 1) = 0 then (-1000001, true) else (sBits 1024 (nI 0) (nI (sFs (fun j => N (40 * a1.toNatClampNeg + j)) (-1) nt np a3.toNatClampNeg (W a1.toNatClampNeg).toNatClampNeg (62 + 7 * a2.toNatClampNeg + (3 + (r (14 + 6 * a3.toNatClampNeg + 0)).toNatClampNeg)) r 10)), false)
noncomputable def qLikes (l : Int32) (W N r : Nat → Int32) (nt np : Nat) (a1 a2 a3 : Int32) : Int32 × Bool := if ¬ l = 0 then (l, true) else if bI (nI 0 ≤ a2 ∧ a2 ≤ nI np - nI 1) = 0 then (-1000001, true) else if bI (nI 0 ≤ a3 ∧ a3 ≤ nI nt - nI 1) = 0 then (-1000001, true) else sLk (sFs (fun j => N (40 * a1.toNatClampNeg + j)) (-1) nt np a3.toNatClampNeg (W a1.toNatClampNeg).toNatClampNeg (62 + 7 * a2.toNatClampNeg + (3 + (r (14 + 6 * a3.toNatClampNeg + 0)).toNatClampNeg)) r 10) 10 0
section EP
variable {X : mSc} {Q : Option Value → mHp → Prop} {M : mM}
/-- what a try with paints leaves -/
def Kp (M M1 : mM) : Prop := (Wf M → Wf M1) ∧ ∀ a, a ≠ 69 → a ≠ 71 → a ≠ 72 → M1 a = M a
theorem Kp.rf : Kp M M := ⟨fun h => h, fun _ _ _ _ => rfl⟩
theorem Kp.to {M1 M2 : mM} (h : Kp M M1) (g : Kp M1 M2) : Kp M M2 := ⟨fun w => g.1 (h.1 w), fun a h1 h2 h3 => (g.2 a h1 h2 h3).trans (h.2 a h1 h2 h3)⟩
theorem Kp.kq {M1 : mM} (h : Kp M M1) : Kq M M1 := ⟨h.1, fun a _ h2 _ h4 h5 => h.2 a h2 h4 h5, by rw [h.2 66 (by decide) (by decide) (by decide)], by rw [h.2 66 (by decide) (by decide) (by decide)], by rw [h.2 66 (by decide) (by decide) (by decide)]⟩
theorem Kp.fq {M1 : mM} {v : Int32} (h : Kp M M1) : Fq (v, false) M M1 := h.2 70 (by decide) (by decide) (by decide)
theorem g191 {s m : Nat} (hs : s < 1024) (hm8 : m < 10) : mT X 191 [.int (nI s), .int (nI m)] (con M) (some (.int (bI (s.testBit m = true)))) (con M) := by
  refine mT.of (row := _) rfl (Nat.le_of_ble_eq_true rfl) ?_
  have hm : mMet 191 = some _ := rfl
  refine x_iload_n hm rfl rfl ?_
  refine x_iload_n hm rfl rfl ?_
  refine x_ishr hm rfl ?_
  refine x_iconst hm rfl (v := nI 1) (by decide) ?_
  refine x_iand hm rfl ?_
  refine x_iconst hm rfl (v := nI 1) (by decide) ?_
  refine x_icmp_ne hm rfl (t := 13) rfl (fun h1 => ?_) (fun h1 => ?_)
  · refine x_iconst hm rfl (v := nI 0) (by decide) ?_
    refine x_iret hm rfl rfl (by first | rfl | exact bI_nar | decide) ?_
    first
      | exact qt (congrArg Value.int (bI_t ((bitR2 s hs m hm8).mp h1)))
      | exact qt (congrArg Value.int (bI_f fun q => h1 ((bitR2 s hs m hm8).mpr q)))
  · refine x_iconst hm rfl (v := nI 1) (by decide) ?_
    refine x_goto hm rfl (t := 14) rfl ?_
    refine x_iret hm rfl rfl (by first | rfl | exact bI_nar | decide) ?_
    first
      | exact qt (congrArg Value.int (bI_t ((bitR2 s hs m hm8).mp h1)))
      | exact qt (congrArg Value.int (bI_f fun q => h1 ((bitR2 s hs m hm8).mpr q)))
theorem m190b {r : Nat → Int32} {nt np s a : Nat} (hW : Wf M) (h67 : M 67 = r) (hnt : r 1 = nI nt) (hn8 : nt ≤ 8) (hnp : r 2 = nI np) (hp8 : np ≤ 8) (h6 : M 66 6 = -1) (hs : s < 256) (ha : a ≤ 1000) {lo : Int32} (hlo : lo = (sThick (pnt s r nt) nt - sThick (sDays (-1) nt np a (pnt s r nt)) nt)) : ∀ (n k : Nat) (M1 : mM), nt - k < n → k ≤ nt → (Wf M → Wf M1) → (∀ a, a ≠ 67 → a ≠ 69 → a ≠ 71 → a ≠ 72 → M1 a = M a) → (∀ j, (∀ u, k ≤ u → u < nt → ¬ j = 14 + 6 * u + 3) → M1 67 j = r j) → (∀ u, u < nt → M1 72 u = r (14 + 6 * u + 3)) → mEv X (QI (fun v M' => v = (sThick (pnt s r nt) nt - sThick (sDays (-1) nt np a (pnt s r nt)) nt) ∧ Kp M M')) 190 68 [some (.ref 66), some (.int (nI s)), some (.int (nI a)), some (.int lo), some (.int (nI k))] [] (con M1) := by
  have hm : mMet 190 = some _ := rfl
  intro n
  induction n with
  | zero =>
    intro k M1 hkn hkb hw hF hr hp
    omega
  | succ n ih =>
    intro k M1 hkn hkb hw hF hr hp
    have hn1 : M1 67 1 = nI nt := (hr 1 (fun u _ _ => by omega)).trans hnt
    refine x_iload hm rfl rfl ?_
    refine x_aload_n hm rfl rfl ?_
    refine x_getf hm rfl (gR rfl rfl) ?_
    refine x_iconst hm rfl (v := nI 1) (by decide) ?_
    refine x_iald hm rfl (lI rfl (by omega) (by decide)) ?_
    rw [hn1]
    refine x_icmp_ge hm rfl (t := 103) rfl (fun h1 => ?_) (fun h1 => ?_)
    · obtain rfl : k = nt := Nat.le_antisymm hkb ((jI_le (by omega) (by omega)).mp h1)
      refine x_iload_n hm rfl rfl ?_
      refine x_iret hm rfl rfl (by first | rfl | exact bI_nar | decide) ?_
      refine ⟨_, _, rfl, rfl, hlo, hw, fun a g1 g2 g3 => ?_⟩
      by_cases e : a = 67
      · subst e
        rw [h67]
        funext j
        exact hr j fun u g1 g2 => by omega
      · exact hF a e g1 g2 g3
    · have hk : k < nt := Nat.lt_of_not_le fun h => h1 (nI_le h (by omega))
      refine x_aload_n hm rfl rfl ?_
      refine x_getf hm rfl (gR rfl rfl) ?_
      refine x_iload hm rfl rfl ?_
      refine x_iconst hm rfl (v := nI 3) (by decide) ?_
      refine x_callS hm rfl rfl (t137) ?_
      refine x_aload_n hm rfl rfl ?_
      refine x_getf hm rfl (gR rfl rfl) ?_
      refine x_iload hm rfl rfl ?_
      refine x_iald hm rfl (lI rfl (by omega) (by decide)) ?_
      rw [hp k hk]
      refine x_iast hm rfl (sI rfl (by omega) (by decide)) ?_
      refine x_iinc hm rfl rfl (v := nI 1) (by decide) rfl ?_
      rw [jI_add]
      refine x_goto hm rfl (t := 68) rfl ?_
      refine ih _ _ (by omega) (by omega) (fun w => (Sf.thing (by omega) (by decide) (by decide) (by decide) : Sf M1 (mput M1 67 (14 + 6 * k + 3) (r (14 + 6 * k + 3)))).1 (hw w)) (fun a g1 g2 g3 g4 => (mpo g1).trans (hF a g1 g2 g3 g4)) (fun j hj => ?_) (fun u hu => by rw [mpo (by decide)]; exact hp u hu)
      rw [mput67]
      by_cases e : j = 14 + 6 * k + 3
      · subst e
        exact put1_s
      · rw [put1_o e]
        exact hr j fun u g1 g2 => by
          by_cases e2 : u = k
          · subst e2; exact e
          · exact hj u (by omega) g2
theorem m190a {r : Nat → Int32} {nt np s a : Nat} (hW : Wf M) (h67 : M 67 = r) (hnt : r 1 = nI nt) (hn8 : nt ≤ 8) (hnp : r 2 = nI np) (hp8 : np ≤ 8) (h6 : M 66 6 = -1) (hs : s < 256) (ha : a ≤ 1000) : ∀ (n k : Nat) (M1 : mM), nt - k < n → k ≤ nt → Sf M M1 → (∀ a, a ≠ 67 → a ≠ 72 → M1 a = M a) → M1 67 = pnt s r k → (∀ u, u < k → M1 72 u = r (14 + 6 * u + 3)) → mEv X (QI (fun v M' => v = (sThick (pnt s r nt) nt - sThick (sDays (-1) nt np a (pnt s r nt)) nt) ∧ Kp M M')) 190 2 [some (.ref 66), some (.int (nI s)), some (.int (nI a)), some (.int (nI k)), none] [] (con M1) := by
  have hm : mMet 190 = some _ := rfl
  intro n
  induction n with
  | zero =>
    intro k M1 hkn hkb hS hF hr hp
    omega
  | succ n ih =>
    intro k M1 hkn hkb hS hF hr hp
    have hn1 : M1 67 1 = nI nt := hS.2.1.trans ((congrFun h67 1).trans hnt)
    have hp1 : M1 67 2 = nI np := hS.2.2.1.trans ((congrFun h67 2).trans hnp)
    refine x_iload_n hm rfl rfl ?_
    refine x_aload_n hm rfl rfl ?_
    refine x_getf hm rfl (gR rfl rfl) ?_
    refine x_iconst hm rfl (v := nI 1) (by decide) ?_
    refine x_iald hm rfl (lI rfl (by omega) (by decide)) ?_
    rw [hn1]
    refine x_icmp_ge hm rfl (t := 59) rfl (fun h1 => ?_) (fun h1 => ?_)
    · obtain rfl : k = nt := Nat.le_antisymm hkb ((jI_le (by omega) (by omega)).mp h1)
      refine x_aload_n hm rfl rfl ?_
      refine x_iload_n hm rfl rfl ?_
      refine x_cVi hm rfl rfl (e180 (hS.1 hW) hn1 hn8 hp1 hp8 (by omega)) (fun v2 M2 r2 => ?_)
      have hlo := r2.1
      rw [hr, hF 66 (by decide) (by decide), h6] at hlo
      refine x_istore_n hm rfl rfl ?_
      refine x_iconst hm rfl (v := nI 0) (by decide) ?_
      refine x_istore hm rfl rfl ?_
      refine m190b hW h67 hnt hn8 hnp hp8 h6 hs ha hlo _ 0 _ (Nat.lt_succ_self _) (Nat.zero_le _) (fun w => r2.2.1 (hS.1 w)) (fun a g1 g2 g3 g4 => (r2.2.2 a g2 g3).trans (hF a g1 g4)) (fun j hj => ?_) (fun u hu => ?_)
      · rw [r2.2.2 67 (by decide) (by decide), hr]
        exact pnt_hi _ fun u hu => hj u (Nat.zero_le _) hu
      · rw [r2.2.2 72 (by decide) (by decide)]
        exact hp u hu
    · have hk : k < nt := Nat.lt_of_not_le fun h => h1 (nI_le h (by omega))
      have hold : M1 67 (14 + 6 * k + 3) = r (14 + 6 * k + 3) := by rw [hr]; exact pnt_hi k fun u hu => by omega
      refine x_aload_n hm rfl rfl ?_
      refine x_getf hm rfl (gR rfl rfl) ?_
      refine x_iload_n hm rfl rfl ?_
      refine x_aload_n hm rfl rfl ?_
      refine x_iload_n hm rfl rfl ?_
      refine x_iconst hm rfl (v := nI 3) (by decide) ?_
      refine x_callV hm rfl rfl (t143 (by omega) (by omega)) ?_
      rw [hold]
      refine x_iast hm rfl (sI rfl (by omega) (by decide)) ?_
      refine x_aload_n hm rfl rfl ?_
      refine x_getf hm rfl (gR rfl rfl) ?_
      refine x_iload_n hm rfl rfl ?_
      refine x_iconst hm rfl (v := nI 3) (by decide) ?_
      refine x_callS hm rfl rfl (t137) ?_
      refine x_iload_n hm rfl rfl ?_
      refine x_iload_n hm rfl rfl ?_
      refine x_callS hm rfl rfl (g191 (by omega) (by omega)) ?_
      refine x_if_eq hm rfl (t := 46) rfl (fun h3 => ?_) (fun h3 => ?_)
      · have hb : (if s.testBit k = true then nI 9 else r (14 + 6 * k + 3)) = r (14 + 6 * k + 3) := if_neg (bI_eq0.mp h3)
        refine x_aload_n hm rfl rfl ?_
        refine x_getf hm rfl (gR rfl rfl) ?_
        refine x_iload_n hm rfl rfl ?_
        refine x_iald hm rfl (lI rfl (by omega) (by decide)) ?_
        rw [mp0]
        refine x_iast hm rfl (sI rfl (by omega) (by decide)) ?_
        refine x_iinc hm rfl rfl (v := nI 1) (by decide) rfl ?_
        rw [jI_add]
        refine x_goto hm rfl (t := 2) rfl ?_
        refine ih _ _ (by omega) (by omega) ((hS.trans (Sf.put0 (kd72 _) (by decide) (by decide))).trans (Sf.thing (by omega) (by decide) (by decide) (by decide))) (fun a g1 g2 => (mpo g1).trans ((mpo g2).trans (hF a g1 g2))) (by rw [mput67, mpo (by decide), hr]; show _ = put1 (pnt s r k) _ _; rw [hb]) (fun u hu => ?_)
        rw [mpo (by decide)]
        by_cases e : u = k
        · subst e; exact mp0
        · rw [mpf e]; exact hp u (by omega)
      · have hb : (if s.testBit k = true then nI 9 else r (14 + 6 * k + 3)) = nI 9 := if_pos (bI_ne0 h3)
        refine x_bipush hm rfl (v := nI 9) (by decide) ?_
        refine x_goto hm rfl (t := 52) rfl ?_
        refine x_iast hm rfl (sI rfl (by omega) (by decide)) ?_
        refine x_iinc hm rfl rfl (v := nI 1) (by decide) rfl ?_
        rw [jI_add]
        refine x_goto hm rfl (t := 2) rfl ?_
        refine ih _ _ (by omega) (by omega) ((hS.trans (Sf.put0 (kd72 _) (by decide) (by decide))).trans (Sf.thing (by omega) (by decide) (by decide) (by decide))) (fun a g1 g2 => (mpo g1).trans ((mpo g2).trans (hF a g1 g2))) (by rw [mput67, mpo (by decide), hr]; show _ = put1 (pnt s r k) _ _; rw [hb]) (fun u hu => ?_)
        rw [mpo (by decide)]
        by_cases e : u = k
        · subst e; exact mp0
        · rw [mpf e]; exact hp u (by omega)
theorem e190 {r : Nat → Int32} {nt np s a : Nat} (hW : Wf M) (h67 : M 67 = r) (hnt : r 1 = nI nt) (hn8 : nt ≤ 8) (hnp : r 2 = nI np) (hp8 : np ≤ 8) (h6 : M 66 6 = -1) (hs : s < 256) (ha : a ≤ 1000) : ∃ v M', mT X 190 [.ref 66, .int (nI s), .int (nI a)] (con M) (some (.int v)) (con M') ∧ v = (sThick (pnt s r nt) nt - sThick (sDays (-1) nt np a (pnt s r nt)) nt) ∧ Kp M M' := by
  refine ti_of (row := _) rfl (Nat.le_of_ble_eq_true rfl) ?_
  have hm : mMet 190 = some _ := rfl
  refine x_iconst hm rfl (v := nI 0) (by decide) ?_
  refine x_istore_n hm rfl rfl ?_
  exact m190a hW h67 hnt hn8 hnp hp8 h6 hs ha _ 0 _ (Nat.lt_succ_self _) (Nat.zero_le _) Sf.rf (fun _ _ _ => rfl) h67 (fun u hu => absurd hu (Nat.not_lt_zero _))
theorem m189 {a : Nat} {c m : Int32} {nt np : Nat} (hW : Wf M) (hnt : M 67 1 = nI nt) (hn8 : nt ≤ 8) (hnp : M 67 2 = nI np) (hp8 : np ≤ 8) (h6 : M 66 6 = -1) (ha : a ≤ 1000) : ∀ (n k : Nat) (b l : Int32) (x7 : Option Value) (M1 : mM), 2 ^ nt - k < n → k ≤ 2 ^ nt → Kp M M1 → (b, l) = fo (sPt (M 67) (-1) nt np a m) k (nI 0, 2147483647) → mEv X (QI (fun v M' => v = (fo (sPt (M 67) (-1) nt np a m) (2 ^ nt) (nI 0, 2147483647)).1 ∧ Kp M M')) 189 48 [some (.ref 66), some (.int c), some (.int (nI a)), some (.int m), some (.int b), some (.int l), some (.int (nI k)), x7] [] (con M1) := by
  have hm : mMet 189 = some _ := rfl
  intro n
  induction n with
  | zero =>
    intro k b l x7 M1 hkn hkb hS hz
    omega
  | succ n ih =>
    intro k b l x7 M1 hkn hkb hS hz
    have h671 : M1 67 = M 67 := hS.2 67 (by decide) (by decide) (by decide)
    have hn1 : M1 67 1 = nI nt := (congrFun h671 1).trans hnt
    have hpw := pow_k hn8
    refine x_iload hm rfl rfl ?_
    refine x_iconst hm rfl (v := nI 1) (by decide) ?_
    refine x_aload_n hm rfl rfl ?_
    refine x_getf hm rfl (gR rfl rfl) ?_
    refine x_iconst hm rfl (v := nI 1) (by decide) ?_
    refine x_iald hm rfl (lI rfl (by omega) (by decide)) ?_
    rw [hn1]
    refine x_ishl hm rfl ?_
    rw [shl_k nt hn8]
    refine x_icmp_ge hm rfl (t := 115) rfl (fun h1 => ?_) (fun h1 => ?_)
    · obtain rfl : k = 2 ^ nt := Nat.le_antisymm hkb ((jI_le (by omega) (by omega)).mp h1)
      refine x_iload hm rfl rfl ?_
      refine x_iret hm rfl rfl (by first | rfl | exact bI_nar | decide) ?_
      exact ⟨_, _, rfl, rfl, congrArg Prod.fst hz, hS⟩
    · have hk : k < 2 ^ nt := Nat.lt_of_not_le fun h => h1 (nI_le h (by omega))
      refine x_iload hm rfl rfl ?_
      refine x_callS hm rfl rfl (g168 (by omega)) ?_
      refine x_iload_n hm rfl rfl ?_
      refine x_icmp_ne hm rfl (t := 80) rfl (fun h2 => ?_) (fun h2 => ?_)
      · have hl : nI 2147483647 = sLp (M 67) (-1) nt np a m k := (if_neg h2).symm
        have hS3 := hS
        refine x_ldcI hm rfl (v := nI 2147483647) (by decide +kernel) ?_
        refine x_istore hm rfl rfl ?_
        refine x_iload hm rfl rfl ?_
        refine x_iload hm rfl rfl ?_
        refine x_icmp_ge hm rfl (t := 96) rfl (fun h3 => ?_) (fun h3 => ?_)
        · refine x_iload hm rfl rfl ?_
          refine x_istore hm rfl rfl ?_
          refine x_iload hm rfl rfl ?_
          refine x_iload hm rfl rfl ?_
          refine x_lib hm rfl rfl ?_
          dsimp only
          refine x_istore hm rfl rfl ?_
          refine x_iinc hm rfl rfl (v := nI 1) (by decide) rfl ?_
          rw [jI_add]
          refine x_goto hm rfl (t := 48) rfl ?_
          first
            | exact ih _ _ _ _ _ (by omega) (by omega) hS3 (by show _ = sPt (M 67) (-1) nt np a m k _; rw [← hz]; unfold sPt mn2; dsimp only; rw [← hl, if_pos (by first | assumption | exact Int32.not_le.mp (by assumption)), if_pos (by first | assumption | exact Int32.not_le.mp (by assumption))])
            | exact ih _ _ _ _ _ (by omega) (by omega) hS3 (by show _ = sPt (M 67) (-1) nt np a m k _; rw [← hz]; unfold sPt mn2; dsimp only; rw [← hl, if_neg (by first | assumption | exact Int32.not_lt.mpr (by assumption)), if_neg (by first | assumption | exact Int32.not_lt.mpr (by assumption))])
        · refine x_iload hm rfl rfl ?_
          refine x_goto hm rfl (t := 98) rfl ?_
          refine x_istore hm rfl rfl ?_
          refine x_iload hm rfl rfl ?_
          refine x_iload hm rfl rfl ?_
          refine x_lib hm rfl rfl ?_
          dsimp only
          refine x_istore hm rfl rfl ?_
          refine x_iinc hm rfl rfl (v := nI 1) (by decide) rfl ?_
          rw [jI_add]
          refine x_goto hm rfl (t := 48) rfl ?_
          first
            | exact ih _ _ _ _ _ (by omega) (by omega) hS3 (by show _ = sPt (M 67) (-1) nt np a m k _; rw [← hz]; unfold sPt mn2; dsimp only; rw [← hl, if_pos (by first | assumption | exact Int32.not_le.mp (by assumption)), if_pos (by first | assumption | exact Int32.not_le.mp (by assumption))])
            | exact ih _ _ _ _ _ (by omega) (by omega) hS3 (by show _ = sPt (M 67) (-1) nt np a m k _; rw [← hz]; unfold sPt mn2; dsimp only; rw [← hl, if_neg (by first | assumption | exact Int32.not_lt.mpr (by assumption)), if_neg (by first | assumption | exact Int32.not_lt.mpr (by assumption))])
      · have hb := h2
        refine x_aload_n hm rfl rfl ?_
        refine x_iload hm rfl rfl ?_
        refine x_iload_n hm rfl rfl ?_
        refine x_cVi hm rfl rfl (e190 (hS.1 hW) h671 hnt hn8 hnp hp8 (by rw [hS.2 66 (by decide) (by decide) (by decide)]; exact h6) (by omega) ha) (fun v4 M4 r4 => ?_)
        have hl := r4.1.trans (show _ = sLp (M 67) (-1) nt np a m k from (if_pos hb).symm)
        have hS3 := hS.to r4.2
        refine x_goto hm rfl (t := 82) rfl ?_
        refine x_istore hm rfl rfl ?_
        refine x_iload hm rfl rfl ?_
        refine x_iload hm rfl rfl ?_
        refine x_icmp_ge hm rfl (t := 96) rfl (fun h5 => ?_) (fun h5 => ?_)
        · refine x_iload hm rfl rfl ?_
          refine x_istore hm rfl rfl ?_
          refine x_iload hm rfl rfl ?_
          refine x_iload hm rfl rfl ?_
          refine x_lib hm rfl rfl ?_
          dsimp only
          refine x_istore hm rfl rfl ?_
          refine x_iinc hm rfl rfl (v := nI 1) (by decide) rfl ?_
          rw [jI_add]
          refine x_goto hm rfl (t := 48) rfl ?_
          first
            | exact ih _ _ _ _ _ (by omega) (by omega) hS3 (by show _ = sPt (M 67) (-1) nt np a m k _; rw [← hz]; unfold sPt mn2; dsimp only; rw [← hl, if_pos (by first | assumption | exact Int32.not_le.mp (by assumption)), if_pos (by first | assumption | exact Int32.not_le.mp (by assumption))])
            | exact ih _ _ _ _ _ (by omega) (by omega) hS3 (by show _ = sPt (M 67) (-1) nt np a m k _; rw [← hz]; unfold sPt mn2; dsimp only; rw [← hl, if_neg (by first | assumption | exact Int32.not_lt.mpr (by assumption)), if_neg (by first | assumption | exact Int32.not_lt.mpr (by assumption))])
        · refine x_iload hm rfl rfl ?_
          refine x_goto hm rfl (t := 98) rfl ?_
          refine x_istore hm rfl rfl ?_
          refine x_iload hm rfl rfl ?_
          refine x_iload hm rfl rfl ?_
          refine x_lib hm rfl rfl ?_
          dsimp only
          refine x_istore hm rfl rfl ?_
          refine x_iinc hm rfl rfl (v := nI 1) (by decide) rfl ?_
          rw [jI_add]
          refine x_goto hm rfl (t := 48) rfl ?_
          first
            | exact ih _ _ _ _ _ (by omega) (by omega) hS3 (by show _ = sPt (M 67) (-1) nt np a m k _; rw [← hz]; unfold sPt mn2; dsimp only; rw [← hl, if_pos (by first | assumption | exact Int32.not_le.mp (by assumption)), if_pos (by first | assumption | exact Int32.not_le.mp (by assumption))])
            | exact ih _ _ _ _ _ (by omega) (by omega) hS3 (by show _ = sPt (M 67) (-1) nt np a m k _; rw [← hz]; unfold sPt mn2; dsimp only; rw [← hl, if_neg (by first | assumption | exact Int32.not_lt.mpr (by assumption)), if_neg (by first | assumption | exact Int32.not_lt.mpr (by assumption))])
theorem e189 {a1 a2 : Int32} {nt np : Nat} (hW : Wf M) (hnt : M 67 1 = nI nt) (hn8 : nt ≤ 8) (hnp : M 67 2 = nI np) (hp8 : np ≤ 8) (h6 : M 66 6 = -1) : ∃ v M', mT X 189 [.ref 66, .int a1, .int a2] (con M) (some (.int v)) (con M') ∧ v = (qPaint (M 67) nt np a1 a2).1 ∧ Kq M M' ∧ Fq (qPaint (M 67) nt np a1 a2) M M' := by
  refine ti_of (row := _) rfl (Nat.le_of_ble_eq_true rfl) ?_
  have hm : mMet 189 = some _ := rfl
  refine x_iload_n hm rfl rfl ?_
  refine x_iconst hm rfl (v := nI 0) (by decide) ?_
  refine x_bipush hm rfl (v := nI 8) (by decide) ?_
  refine x_callS hm rfl rfl (t133) ?_
  refine x_if_eq hm rfl (t := 20) rfl (fun h1 => ?_) (fun h1 => ?_)
  · refine x_aload_n hm rfl rfl ?_
    refine x_ldcI hm rfl (v := (-1000001 : Int32)) (by decide +kernel) ?_
    refine x_callV hm rfl rfl (e135 (by decide +kernel)) ?_
    refine x_iret hm rfl rfl (by first | rfl | exact bI_nar | decide) ?_
    first
      | (have hq : qPaint (M 67) nt np a1 a2 = (-1000001, true) := by
           unfold qPaint
           first
             | rw [if_pos (by assumption)]
         exact ⟨_, _, rfl, rfl, congrArg Prod.fst hq.symm, fndR_kq, by rw [hq]; exact fndR_fq⟩)
      | (have hq : qPaint (M 67) nt np a1 a2 = (-1000001, true) := by
           unfold qPaint
           first
             | rw [if_pos (by assumption)]
             | rw [if_neg (by assumption), if_pos (by assumption)]
         exact ⟨_, _, rfl, rfl, congrArg Prod.fst hq.symm, fndR_kq, by rw [hq]; exact fndR_fq⟩)
  · refine x_iload_n hm rfl rfl ?_
    refine x_iconst hm rfl (v := nI 0) (by decide) ?_
    refine x_bipush hm rfl (v := nI 60) (by decide) ?_
    refine x_callS hm rfl rfl (t133) ?_
    refine x_if_ne hm rfl (t := 27) rfl (fun h2 => ?_) (fun h2 => ?_)
    · obtain ⟨a, ha, rfl⟩ := le_k (by omega) (bI_ne0 h2)
      refine x_iload_n hm rfl rfl ?_
      refine x_aload_n hm rfl rfl ?_
      refine x_getf hm rfl (gR rfl rfl) ?_
      refine x_iconst hm rfl (v := nI 1) (by decide) ?_
      refine x_iald hm rfl (lI rfl (by omega) (by decide)) ?_
      rw [hnt]
      refine x_lib hm rfl rfl ?_
      dsimp only
      refine x_istore_n hm rfl rfl ?_
      refine x_iconst hm rfl (v := nI 0) (by decide) ?_
      refine x_istore hm rfl rfl ?_
      refine x_ldcI hm rfl (v := nI 2147483647) (by decide +kernel) ?_
      refine x_istore hm rfl rfl ?_
      refine x_iconst hm rfl (v := nI 0) (by decide) ?_
      refine x_istore hm rfl rfl ?_
      have hq : qPaint (M 67) nt np a1 (nI a) = ((fo (sPt (M 67) (-1) nt np a (mn2 a1 (nI nt))) (2 ^ nt) (nI 0, 2147483647)).1, false) := by
        unfold qPaint
        rw [if_neg (by assumption), if_neg (by assumption)]
        rw [jI_nat (k := a) (by omega)]
      rw [hq]
      exact ev_mono (m189 hW hnt hn8 hnp hp8 h6 (by omega) _ 0 _ _ _ _ (Nat.lt_succ_self _) (Nat.zero_le _) Kp.rf rfl) (fun r D ⟨v, M2, g1, g2, g3, g4⟩ => ⟨v, M2, g1, g2, g3, g4.kq, g4.fq⟩)
    · refine x_aload_n hm rfl rfl ?_
      refine x_ldcI hm rfl (v := (-1000001 : Int32)) (by decide +kernel) ?_
      refine x_callV hm rfl rfl (e135 (by decide +kernel)) ?_
      refine x_iret hm rfl rfl (by first | rfl | exact bI_nar | decide) ?_
      first
        | (have hq : qPaint (M 67) nt np a1 a2 = (-1000001, true) := by
             unfold qPaint
             first
               | rw [if_pos (by assumption)]
           exact ⟨_, _, rfl, rfl, congrArg Prod.fst hq.symm, fndR_kq, by rw [hq]; exact fndR_fq⟩)
        | (have hq : qPaint (M 67) nt np a1 a2 = (-1000001, true) := by
             unfold qPaint
             first
               | rw [if_pos (by assumption)]
               | rw [if_neg (by assumption), if_pos (by assumption)]
           exact ⟨_, _, rfl, rfl, congrArg Prod.fst hq.symm, fndR_kq, by rw [hq]; exact fndR_fq⟩)
theorem m212 {s t z : Nat} {nt np : Nat} (hW : Wf M) (hnt : M 67 1 = nI nt) (hn8 : nt ≤ 8) (hnp : M 67 2 = nI np) (hp8 : np ≤ 8) (h6 : M 66 6 = -1) (hs : s ≤ 3) (ht : t < 8) (hz : M 77 s = nI z) (hz40 : z ≤ 40) : ∀ (n k : Nat) (b : Int32) (x5 : Option Value) (M1 : mM), 41 - k < n → k ≤ z → ((b = nI 1 ∧ sFt (fun j => M 78 (40 * s + j)) (-1) nt np t z 0 (M 67) = sFt (fun j => M 78 (40 * s + j)) (-1) nt np t (z - k) k (sDays (-1) nt np k (M 67))) ∨ (b = nI 0 ∧ sFt (fun j => M 78 (40 * s + j)) (-1) nt np t z 0 (M 67) = false)) → Dy (cp M 67 69 118) M1 → Dd (sDays (-1) nt np k (M 67)) (cp M 67 69 118) M1 → mEv X (QI (fun v M' => v = bI (sFt (fun j => M 78 (40 * s + j)) (-1) nt np t z 0 (M 67) = true) ∧ Kr M M')) 212 16 [some (.ref 66), some (.int (nI s)), some (.int (nI t)), some (.int b), some (.int (nI k)), x5] [] (con M1) := by
  have hm : mMet 212 = some _ := rfl
  intro n
  induction n with
  | zero =>
    intro k b x5 M1 hkn hkb hb hD hd
    omega
  | succ n ih =>
    intro k b x5 M1 hkn hkb hb hD hd
    have e77 : M1 77 s = nI z := by rw [hd.2 77 (by decide) (by decide), cp_o (by decide)]; exact hz
    have e78 : ∀ j, M1 78 j = M 78 j := fun j => by rw [hd.2 78 (by decide) (by decide), cp_o (by decide)]
    have hthk : M1 67 (14 + 6 * t + 2) = sDays (-1) nt np k (M 67) (14 + 6 * t + 2) := congrFun hd.1 _
    have hB := Kr.back hD hd (fun j hj => sDays_118 hn8 hp8 hj _)
    refine x_iload hm rfl rfl ?_
    refine x_aload_n hm rfl rfl ?_
    refine x_getf hm rfl (gR rfl rfl) ?_
    refine x_iload_n hm rfl rfl ?_
    refine x_iald hm rfl (lI rfl (by omega) (by decide)) ?_
    rw [e77]
    refine x_icmp_ge hm rfl (t := 78) rfl (fun h1 => ?_) (fun h1 => ?_)
    · obtain rfl : z = k := Nat.le_antisymm ((jI_le (by omega) (by omega)).mp h1) hkb
      have hv : b = bI (sFt (fun j => M 78 (40 * s + j)) (-1) nt np t z 0 (M 67) = true) := by
        rcases hb with ⟨g1, g2⟩ | ⟨g1, g2⟩
        · rw [g2, Nat.sub_self, g1]; exact (bI_t (c := (true : Bool) = true) rfl).symm
        · rw [g2, g1]; exact (bI_f Bool.false_ne_true).symm
      refine x_aload_n hm rfl rfl ?_
      refine x_getf hm rfl (gR rfl rfl) ?_
      refine x_aload_n hm rfl rfl ?_
      refine x_getf hm rfl (gR rfl rfl) ?_
      refine x_callS hm rfl rfl (t174 rfl rfl (by decide)) ?_
      refine x_iload_n hm rfl rfl ?_
      refine x_iret hm rfl rfl (nar01 (hb.symm.imp (fun q => q.1) (fun q => q.1))) ?_
      exact ⟨_, _, rfl, rfl, hv, hB⟩ --stop
    · have hk : k < z := Nat.lt_of_not_le fun h => h1 (nI_le h (by omega))
      refine x_iload_n hm rfl rfl ?_
      refine x_if_eq hm rfl (t := 78) rfl (fun h2 => ?_) (fun h2 => ?_)
      · have hv : b = bI (sFt (fun j => M 78 (40 * s + j)) (-1) nt np t z 0 (M 67) = true) := by
          rcases hb with ⟨g1, g2⟩ | ⟨g1, g2⟩
          · exact absurd (g1.symm.trans h2) (by decide)
          · rw [g2, g1]; exact (bI_f Bool.false_ne_true).symm
        refine x_aload_n hm rfl rfl ?_
        refine x_getf hm rfl (gR rfl rfl) ?_
        refine x_aload_n hm rfl rfl ?_
        refine x_getf hm rfl (gR rfl rfl) ?_
        refine x_callS hm rfl rfl (t174 rfl rfl (by decide)) ?_
        refine x_iload_n hm rfl rfl ?_
        refine x_iret hm rfl rfl (nar01 (hb.symm.imp (fun q => q.1) (fun q => q.1))) ?_
        exact ⟨_, _, rfl, rfl, hv, hB⟩ --stop
      · have hb1 : sFt (fun j => M 78 (40 * s + j)) (-1) nt np t z 0 (M 67) = sFt (fun j => M 78 (40 * s + j)) (-1) nt np t (z - (k + 1) + 1) k (sDays (-1) nt np k (M 67)) := by
          rcases hb with ⟨g1, g2⟩ | ⟨g1, g2⟩
          · rw [g2, show z - k = z - (k + 1) + 1 by omega]
          · exact absurd g1 h2
        refine x_aload_n hm rfl rfl ?_
        refine x_getf hm rfl (gR rfl rfl) ?_
        refine x_bipush hm rfl (v := nI 40) (by decide) ?_
        refine x_iload_n hm rfl rfl ?_
        refine x_imul hm rfl ?_
        rw [jI_mul]
        refine x_iload hm rfl rfl ?_
        refine x_iadd hm rfl ?_
        rw [jI_add]
        refine x_iald hm rfl (lI rfl (by omega) (by decide)) ?_
        rw [e78]
        refine x_istore hm rfl rfl ?_
        refine x_iload hm rfl rfl ?_
        refine x_iconst hm rfl (v := (-1 : Int32)) (by decide) ?_
        refine x_icmp_eq hm rfl (t := 62) rfl (fun h3 => ?_) (fun h3 => ?_)
        · have hc : M 78 (40 * s + k) = -1 ∨ M 78 (40 * s + k) = sDays (-1) nt np k (M 67) (14 + 6 * t + 2) := Or.inl h3
          have hb2 := hb1.trans (if_pos hc)
          refine x_iconst hm rfl (v := nI 1) (by decide) ?_
          refine x_goto hm rfl (t := 67) rfl ?_
          refine x_istore_n hm rfl rfl ?_
          refine x_aload_n hm rfl rfl ?_
          refine x_cVv hm rfl rfl (e165 (hD.1.1 hW.aside) (hD.1.2.1.trans ((congrFun (cp_o (by decide)) 1).trans hnt)) hn8 (hD.1.2.2.1.trans ((congrFun (cp_o (by decide)) 2).trans hnp)) hp8) (fun M4 r4 => ?_)
          have hs9 := hd.to r4.2
          rw [hd.1, hd.2 66 (by decide) (by decide), cp_o (by decide), h6] at hs9
          refine x_iinc hm rfl rfl (v := nI 1) (by decide) rfl ?_
          rw [jI_add]
          refine x_goto hm rfl (t := 16) rfl ?_
          exact ih (k + 1) _ _ _ (by omega) (by omega) (by first | exact Or.inl ⟨rfl, hb2⟩ | exact Or.inr ⟨rfl, hb2⟩) (hD.trans r4.1) hs9
        · have hne := h3
          refine x_iload hm rfl rfl ?_
          refine x_aload_n hm rfl rfl ?_
          refine x_iload_n hm rfl rfl ?_
          refine x_iconst hm rfl (v := nI 2) (by decide) ?_
          refine x_callV hm rfl rfl (t143 (by omega) (by omega)) ?_
          rw [hthk]
          refine x_icmp_ne hm rfl (t := 66) rfl (fun h5 => ?_) (fun h5 => ?_)
          · have hc : ¬ (M 78 (40 * s + k) = -1 ∨ M 78 (40 * s + k) = sDays (-1) nt np k (M 67) (14 + 6 * t + 2)) := fun q => q.elim hne h5
            have hb2 := hb1.trans (if_neg hc)
            refine x_iconst hm rfl (v := nI 0) (by decide) ?_
            refine x_istore_n hm rfl rfl ?_
            refine x_aload_n hm rfl rfl ?_
            refine x_cVv hm rfl rfl (e165 (hD.1.1 hW.aside) (hD.1.2.1.trans ((congrFun (cp_o (by decide)) 1).trans hnt)) hn8 (hD.1.2.2.1.trans ((congrFun (cp_o (by decide)) 2).trans hnp)) hp8) (fun M6 r6 => ?_)
            have hs9 := hd.to r6.2
            rw [hd.1, hd.2 66 (by decide) (by decide), cp_o (by decide), h6] at hs9
            refine x_iinc hm rfl rfl (v := nI 1) (by decide) rfl ?_
            rw [jI_add]
            refine x_goto hm rfl (t := 16) rfl ?_
            exact ih (k + 1) _ _ _ (by omega) (by omega) (by first | exact Or.inl ⟨rfl, hb2⟩ | exact Or.inr ⟨rfl, hb2⟩) (hD.trans r6.1) hs9
          · have hc : M 78 (40 * s + k) = -1 ∨ M 78 (40 * s + k) = sDays (-1) nt np k (M 67) (14 + 6 * t + 2) := Or.inr h5
            have hb2 := hb1.trans (if_pos hc)
            refine x_iconst hm rfl (v := nI 1) (by decide) ?_
            refine x_goto hm rfl (t := 67) rfl ?_
            refine x_istore_n hm rfl rfl ?_
            refine x_aload_n hm rfl rfl ?_
            refine x_cVv hm rfl rfl (e165 (hD.1.1 hW.aside) (hD.1.2.1.trans ((congrFun (cp_o (by decide)) 1).trans hnt)) hn8 (hD.1.2.2.1.trans ((congrFun (cp_o (by decide)) 2).trans hnp)) hp8) (fun M7 r7 => ?_)
            have hs9 := hd.to r7.2
            rw [hd.1, hd.2 66 (by decide) (by decide), cp_o (by decide), h6] at hs9
            refine x_iinc hm rfl rfl (v := nI 1) (by decide) rfl ?_
            rw [jI_add]
            refine x_goto hm rfl (t := 16) rfl ?_
            exact ih (k + 1) _ _ _ (by omega) (by omega) (by first | exact Or.inl ⟨rfl, hb2⟩ | exact Or.inr ⟨rfl, hb2⟩) (hD.trans r7.1) hs9
theorem e212 {s t z : Nat} {nt np : Nat} (hW : Wf M) (hnt : M 67 1 = nI nt) (hn8 : nt ≤ 8) (hnp : M 67 2 = nI np) (hp8 : np ≤ 8) (h6 : M 66 6 = -1) (hs : s ≤ 3) (ht : t < 8) (hz : M 77 s = nI z) (hz40 : z ≤ 40) : ∃ v M', mT X 212 [.ref 66, .int (nI s), .int (nI t)] (con M) (some (.int v)) (con M') ∧ v = bI (sFt (fun j => M 78 (40 * s + j)) (-1) nt np t z 0 (M 67) = true) ∧ Kr M M' := by
  refine ti_of (row := _) rfl (Nat.le_of_ble_eq_true rfl) ?_
  have hm : mMet 212 = some _ := rfl
  refine x_aload_n hm rfl rfl ?_
  refine x_getf hm rfl (gR rfl rfl) ?_
  refine x_aload_n hm rfl rfl ?_
  refine x_getf hm rfl (gR rfl rfl) ?_
  refine x_callS hm rfl rfl (t174 rfl rfl (by decide)) ?_
  refine x_iconst hm rfl (v := nI 1) (by decide) ?_
  refine x_istore_n hm rfl rfl ?_
  refine x_iconst hm rfl (v := nI 0) (by decide) ?_
  refine x_istore hm rfl rfl ?_
  exact m212 hW hnt hn8 hnp hp8 h6 hs ht hz hz40 _ 0 _ _ _ (Nat.lt_succ_self _) (Nat.zero_le _) (Or.inl ⟨rfl, rfl⟩) Dy.rf (by have g := Dd.rf (M := cp M 67 69 118); rw [cp_o (by decide)] at g; exact g)
theorem m211 {s p t z w : Nat} {nt np : Nat} (hW : Wf M) (hnt : M 67 1 = nI nt) (hn8 : nt ≤ 8) (hnp : M 67 2 = nI np) (hp8 : np ≤ 8) (h6 : M 66 6 = -1) (hs : s ≤ 3) (hp : p < 8) (ht : t < 8) (hz : M 77 s = nI z) (hz40 : z ≤ 40) (hw : M 67 (14 + 6 * t + 0) = nI w) (hw3 : w ≤ 3) : ∀ (n k : Nat) (M1 : mM), 10 - k < n → k ≤ 10 → Ky (62 + 7 * p + (3 + w)) M M1 → mEv X (QI (fun v M' => v = nI (sFs (fun j => M 78 (40 * s + j)) (-1) nt np t z (62 + 7 * p + (3 + w)) (M 67) 10) ∧ Kr M M')) 211 29 [some (.ref 66), some (.int (nI s)), some (.int (nI p)), some (.int (nI t)), some (.int (nI (62 + 7 * p + (3 + w)))), some (.int (M 67 (62 + 7 * p + (3 + w)))), some (.int (nI (sFs (fun j => M 78 (40 * s + j)) (-1) nt np t z (62 + 7 * p + (3 + w)) (M 67) k))), some (.int (nI k))] [] (con M1) := by
  have hm : mMet 211 = some _ := rfl
  intro n
  induction n with
  | zero =>
    intro k M1 hkn hkb hS
    omega
  | succ n ih =>
    intro k M1 hkn hkb hS
    refine x_iload hm rfl rfl ?_
    refine x_bipush hm rfl (v := nI 9) (by decide) ?_
    refine x_icmp_gt hm rfl (t := 73) rfl (fun h1 => ?_) (fun h1 => ?_)
    · obtain rfl : k = 10 := Nat.le_antisymm hkb (Nat.lt_of_not_le fun g => absurd h1 (Int32.not_lt.mpr ((jI_le (by omega) (by decide)).mpr g)))
      refine x_aload_n hm rfl rfl ?_
      refine x_getf hm rfl (gR rfl rfl) ?_
      refine x_iload hm rfl rfl ?_
      refine x_iload hm rfl rfl ?_
      refine x_iast hm rfl (sI rfl (by omega) (by decide)) ?_
      refine x_iload hm rfl rfl ?_
      refine x_iret hm rfl rfl (by first | rfl | exact bI_nar | decide) ?_
      exact ⟨_, _, rfl, rfl, rfl, hS.fin (Sf.person hp (show 3 + w < 7 by omega))⟩
    · have hk : k ≤ 9 := Nat.le_of_not_lt fun h => h1 (nI_lt h (by omega))
      have hw10 : sFs (fun j => M 78 (40 * s + j)) (-1) nt np t z (62 + 7 * p + (3 + w)) (M 67) k < 1024 := wS_lt2 (by omega)
      refine x_aload_n hm rfl rfl ?_
      refine x_getf hm rfl (gR rfl rfl) ?_
      refine x_iload hm rfl rfl ?_
      refine x_iload hm rfl rfl ?_
      refine x_iast hm rfl (sI rfl (by omega) (by decide)) ?_
      obtain ⟨hS2, hrow⟩ := hS.put (v := nI k) (Sf.person (M := M1) (v := nI k) hp (show 3 + w < 7 by omega))
      have h66 : mput M1 67 (62 + 7 * p + (3 + w)) (nI k) 66 6 = -1 := by rw [hS2.2.2 66 (by decide) (by decide) (by decide)]; exact h6
      have h77 : mput M1 67 (62 + 7 * p + (3 + w)) (nI k) 77 s = nI z := by rw [hS2.2.2 77 (by decide) (by decide) (by decide)]; exact hz
      have h78 : mput M1 67 (62 + 7 * p + (3 + w)) (nI k) 78 = M 78 := hS2.2.2 78 (by decide) (by decide) (by decide)
      refine x_iload hm rfl rfl ?_
      refine x_aload_n hm rfl rfl ?_
      refine x_iload_n hm rfl rfl ?_
      refine x_iload_n hm rfl rfl ?_
      refine x_cVi hm rfl rfl (e212 (hS2.1.1 hW) (hS2.1.2.1.trans hnt) hn8 (hS2.1.2.2.1.trans hnp) hp8 h66 hs ht h77 hz40) (fun v2 M2 r2 => ?_)
      have hv := r2.1
      rw [hrow, h78] at hv
      refine x_if_eq hm rfl (t := 63) rfl (fun h3 => ?_) (fun h3 => ?_)
      · have hq : nI (sFs (fun j => M 78 (40 * s + j)) (-1) nt np t z (62 + 7 * p + (3 + w)) (M 67) k) ||| nI 0 = nI (sFs (fun j => M 78 (40 * s + j)) (-1) nt np t z (62 + 7 * p + (3 + w)) (M 67) (k + 1)) := by
          have g : ¬ _ := bI_eq0.mp (hv.symm.trans h3)
          rw [bit02 _ hw10]
          exact congrArg nI (wS_f (P := fun v => sFt (fun j => M 78 (40 * s + j)) (-1) nt np t z 0 (put1 (M 67) (62 + 7 * p + (3 + w)) (nI v)) = true) g).symm
        refine x_iconst hm rfl (v := nI 0) (by decide) ?_
        refine x_ior hm rfl ?_
        rw [hq]
        refine x_istore hm rfl rfl ?_
        refine x_iinc hm rfl rfl (v := nI 1) (by decide) rfl ?_
        rw [jI_add]
        refine x_goto hm rfl (t := 29) rfl ?_
        exact ih _ _ (by omega) (by omega) (hS2.kr r2.2)
      · have hq : nI (sFs (fun j => M 78 (40 * s + j)) (-1) nt np t z (62 + 7 * p + (3 + w)) (M 67) k) ||| (nI 1 <<< (nI k &&& 31)) = nI (sFs (fun j => M 78 (40 * s + j)) (-1) nt np t z (62 + 7 * p + (3 + w)) (M 67) (k + 1)) := by
          have g := bI_ne0 (fun e => h3 (hv.trans e))
          rw [bitO2 _ hw10 k (by omega)]
          exact congrArg nI (wS_t (P := fun v => sFt (fun j => M 78 (40 * s + j)) (-1) nt np t z 0 (put1 (M 67) (62 + 7 * p + (3 + w)) (nI v)) = true) g).symm
        refine x_iconst hm rfl (v := nI 1) (by decide) ?_
        refine x_iload hm rfl rfl ?_
        refine x_ishl hm rfl ?_
        refine x_goto hm rfl (t := 64) rfl ?_
        refine x_ior hm rfl ?_
        rw [hq]
        refine x_istore hm rfl rfl ?_
        refine x_iinc hm rfl rfl (v := nI 1) (by decide) rfl ?_
        rw [jI_add]
        refine x_goto hm rfl (t := 29) rfl ?_
        exact ih _ _ (by omega) (by omega) (hS2.kr r2.2)
theorem e211 {s p t z w : Nat} {nt np : Nat} (hW : Wf M) (hnt : M 67 1 = nI nt) (hn8 : nt ≤ 8) (hnp : M 67 2 = nI np) (hp8 : np ≤ 8) (h6 : M 66 6 = -1) (hs : s ≤ 3) (hp : p < 8) (ht : t < 8) (hz : M 77 s = nI z) (hz40 : z ≤ 40) (hw : M 67 (14 + 6 * t + 0) = nI w) (hw3 : w ≤ 3) : ∃ v M', mT X 211 [.ref 66, .int (nI s), .int (nI p), .int (nI t)] (con M) (some (.int v)) (con M') ∧ v = nI (sFs (fun j => M 78 (40 * s + j)) (-1) nt np t z (62 + 7 * p + (3 + w)) (M 67) 10) ∧ Kr M M' := by
  refine ti_of (row := _) rfl (Nat.le_of_ble_eq_true rfl) ?_
  have hm : mMet 211 = some _ := rfl
  refine x_iload_n hm rfl rfl ?_
  refine x_iconst hm rfl (v := nI 3) (by decide) ?_
  refine x_aload_n hm rfl rfl ?_
  refine x_iload_n hm rfl rfl ?_
  refine x_iconst hm rfl (v := nI 0) (by decide) ?_
  refine x_callV hm rfl rfl (t143 (by omega) (by omega)) ?_
  rw [hw]
  refine x_iadd hm rfl ?_
  rw [jI_add]
  refine x_callS hm rfl rfl (t142) ?_
  refine x_istore hm rfl rfl ?_
  refine x_aload_n hm rfl rfl ?_
  refine x_getf hm rfl (gR rfl rfl) ?_
  refine x_iload hm rfl rfl ?_
  refine x_iald hm rfl (lI rfl (by omega) (by decide)) ?_
  refine x_istore hm rfl rfl ?_
  refine x_iconst hm rfl (v := nI 0) (by decide) ?_
  refine x_istore hm rfl rfl ?_
  refine x_iconst hm rfl (v := nI 0) (by decide) ?_
  refine x_istore hm rfl rfl ?_
  exact m211 hW hnt hn8 hnp hp8 h6 hs hp ht hz hz40 hw hw3 _ 0 _ (Nat.lt_succ_self _) (Nat.zero_le _) Ky.rf
theorem m168b {a1 : Int32} : ∀ (n k : Nat) (s : Int32), k < n → k < 1024 → ∀ f, k < f → mEv X (fun r D => r = some (.int (sBits f s (nI k))) ∧ D = con M) 168 4 [some (.int a1), some (.int s), some (.int (nI k))] [] (con M) := by
  have hm : mMet 168 = some _ := rfl
  intro n
  induction n with
  | zero =>
    intro k s hkn hk f hf
    omega
  | succ n ih =>
    intro k s hkn hk f hf
    obtain ⟨f, rfl⟩ : ∃ g, f = g + 1 := ⟨f - 1, by omega⟩
    obtain ⟨g1, g2, g3⟩ := bits_le2 k hk
    refine x_iload_n hm rfl rfl ?_
    refine x_if_eq hm rfl (t := 20) rfl (fun h1 => ?_) (fun h1 => ?_)
    · have hq : sBits (f + 1) s (nI k) = s := if_pos h1
      refine x_iload_n hm rfl rfl ?_
      refine x_iret hm rfl rfl (by first | rfl | exact bI_nar | decide) ?_
      exact ⟨by rw [hq], rfl⟩
    · have h0 : ¬ k = 0 := fun e => h1 (by rw [e]; rfl)
      have hq : sBits (f + 1) s (nI k) = sBits f (s + nI 1) (nI k &&& (nI k - nI 1)) := if_neg h1
      refine x_iinc hm rfl rfl (v := nI 1) (by decide) rfl ?_
      refine x_iload_n hm rfl rfl ?_
      refine x_iload_n hm rfl rfl ?_
      refine x_iconst hm rfl (v := nI 1) (by decide) ?_
      refine x_isub hm rfl ?_
      refine x_iand hm rfl ?_
      refine x_istore_n hm rfl rfl ?_
      refine x_goto hm rfl (t := 4) rfl ?_
      rw [hq, ← g2]
      exact ih _ _ (by have := g3 h0; omega) g1 f (by have := g3 h0; omega)
theorem g168b {s : Nat} (hs : s < 1024) : mT X 168 [.int (nI s)] (con M) (some (.int (sBits 1024 (nI 0) (nI s)))) (con M) := by
  refine mT.of (row := _) rfl (Nat.le_of_ble_eq_true rfl) ?_
  have hm : mMet 168 = some _ := rfl
  refine x_iconst hm rfl (v := nI 0) (by decide) ?_
  refine x_istore_n hm rfl rfl ?_
  refine x_iload_n hm rfl rfl ?_
  refine x_istore_n hm rfl rfl ?_
  exact m168b _ s _ (Nat.lt_succ_self _) hs 1024 hs
theorem e208 {a1 a2 a3 : Int32} {nt np : Nat} (hW : Wf M) (hnt : M 67 1 = nI nt) (hn8 : nt ≤ 8) (hnp : M 67 2 = nI np) (hp8 : np ≤ 8) (hV : Vs nt np (M 67)) (h6 : M 66 6 = -1) : ∃ v M', mT X 208 [.ref 66, .int a1, .int a2, .int a3] (con M) (some (.int v)) (con M') ∧ v = (qFits (lk M a1) (M 77) (M 78) (M 67) nt np a1 a2 a3).1 ∧ Kq M M' ∧ Fq (qFits (lk M a1) (M 77) (M 78) (M 67) nt np a1 a2 a3) M M' := by
  refine ti_of (row := _) rfl (Nat.le_of_ble_eq_true rfl) ?_
  have hm : mMet 208 = some _ := rfl
  refine x_aload_n hm rfl rfl ?_
  refine x_iload_n hm rfl rfl ?_
  refine x_callV hm rfl rfl (t209) ?_
  refine x_if_eq hm rfl (t := 18) rfl (fun h1 => ?_) (fun h1 => ?_)
  · have hl0 : lk M a1 = 0 := h1
    obtain ⟨s, hs, rfl⟩ := lk_k h1
    refine x_aload_n hm rfl rfl ?_
    refine x_iload_n hm rfl rfl ?_
    refine x_callV hm rfl rfl (t153) ?_
    rw [hnp]
    refine x_if_eq hm rfl (t := 47) rfl (fun h2 => ?_) (fun h2 => ?_)
    · refine x_aload_n hm rfl rfl ?_
      refine x_ldcI hm rfl (v := (-1000001 : Int32)) (by decide +kernel) ?_
      refine x_callV hm rfl rfl (e135 (by first | decide | exact lk_fd h1)) ?_
      refine x_iret hm rfl rfl (by first | rfl | exact bI_nar | decide) ?_
      first
        | (have hq : qFits (lk M (nI s)) (M 77) (M 78) (M 67) nt np (nI s) a2 a3 = (-1000001, true) := by
             unfold qFits
             first
               | rw [if_pos (by assumption)]
               | rw [if_neg (fun z => z (by assumption)), if_pos (by assumption)]
               | rw [if_neg (fun z => z (by assumption)), if_neg (by assumption), if_pos (by assumption)]
           exact ⟨_, _, rfl, rfl, congrArg Prod.fst hq.symm, fndR_kq, by rw [hq]; exact fndR_fq⟩)
        | (have hq : qFits (lk M (nI s)) (M 77) (M 78) (M 67) nt np (nI s) (nI p) a3 = (-1000001, true) := by
             unfold qFits
             first
               | rw [if_pos (by assumption)]
               | rw [if_neg (fun z => z (by assumption)), if_pos (by assumption)]
               | rw [if_neg (fun z => z (by assumption)), if_neg (by assumption), if_pos (by assumption)]
           exact ⟨_, _, rfl, rfl, congrArg Prod.fst hq.symm, fndR_kq, by rw [hq]; exact fndR_fq⟩)
        | (have hq : qFits (lk M (nI s)) (M 77) (M 78) (M 67) nt np (nI s) (nI p) (nI t) = (sBits 1024 (nI 0) (nI (sFs (fun j => M 78 (40 * s + j)) (-1) nt np t z (62 + 7 * p + (3 + w)) (M 67) 10)), false) := by
             unfold qFits
             rw [if_neg (fun z => z (by assumption)), if_neg (by assumption), if_neg (by assumption)]
             rw [jI_nat (k := s) (by omega)]
             rw [jI_nat (k := p) (by omega)]
             rw [jI_nat (k := t) (by omega)]
             rw [hz, hw, jI_nat (k := z) (by omega), jI_nat (k := w) (by omega)]
           exact ⟨_, _, rfl, rfl, congrArg Prod.fst hq.symm, r0.2.kq, by rw [hq]; exact r0.2.fq⟩)
    · obtain ⟨p, hp, rfl⟩ := in_k rfl (by omega) (bI_ne0 h2)
      refine x_aload_n hm rfl rfl ?_
      refine x_iload_n hm rfl rfl ?_
      refine x_callV hm rfl rfl (t139) ?_
      rw [hnt]
      refine x_if_eq hm rfl (t := 47) rfl (fun h3 => ?_) (fun h3 => ?_)
      · refine x_aload_n hm rfl rfl ?_
        refine x_ldcI hm rfl (v := (-1000001 : Int32)) (by decide +kernel) ?_
        refine x_callV hm rfl rfl (e135 (by first | decide | exact lk_fd h1)) ?_
        refine x_iret hm rfl rfl (by first | rfl | exact bI_nar | decide) ?_
        first
          | (have hq : qFits (lk M (nI s)) (M 77) (M 78) (M 67) nt np (nI s) a2 a3 = (-1000001, true) := by
               unfold qFits
               first
                 | rw [if_pos (by assumption)]
                 | rw [if_neg (fun z => z (by assumption)), if_pos (by assumption)]
                 | rw [if_neg (fun z => z (by assumption)), if_neg (by assumption), if_pos (by assumption)]
             exact ⟨_, _, rfl, rfl, congrArg Prod.fst hq.symm, fndR_kq, by rw [hq]; exact fndR_fq⟩)
          | (have hq : qFits (lk M (nI s)) (M 77) (M 78) (M 67) nt np (nI s) (nI p) a3 = (-1000001, true) := by
               unfold qFits
               first
                 | rw [if_pos (by assumption)]
                 | rw [if_neg (fun z => z (by assumption)), if_pos (by assumption)]
                 | rw [if_neg (fun z => z (by assumption)), if_neg (by assumption), if_pos (by assumption)]
             exact ⟨_, _, rfl, rfl, congrArg Prod.fst hq.symm, fndR_kq, by rw [hq]; exact fndR_fq⟩)
          | (have hq : qFits (lk M (nI s)) (M 77) (M 78) (M 67) nt np (nI s) (nI p) (nI t) = (sBits 1024 (nI 0) (nI (sFs (fun j => M 78 (40 * s + j)) (-1) nt np t z (62 + 7 * p + (3 + w)) (M 67) 10)), false) := by
               unfold qFits
               rw [if_neg (fun z => z (by assumption)), if_neg (by assumption), if_neg (by assumption)]
               rw [jI_nat (k := s) (by omega)]
               rw [jI_nat (k := p) (by omega)]
               rw [jI_nat (k := t) (by omega)]
               rw [hz, hw, jI_nat (k := z) (by omega), jI_nat (k := w) (by omega)]
             exact ⟨_, _, rfl, rfl, congrArg Prod.fst hq.symm, r0.2.kq, by rw [hq]; exact r0.2.fq⟩)
      · obtain ⟨t, ht, rfl⟩ := in_k rfl (by omega) (bI_ne0 h3)
        obtain ⟨z, hz40, hz⟩ := ok5 (show okx 5 (M 77 s) from hW 77 s)
        obtain ⟨w, hw3, hw⟩ := hV.sort ht
        refine x_aload_n hm rfl rfl ?_
        refine x_iload_n hm rfl rfl ?_
        refine x_iload_n hm rfl rfl ?_
        refine x_iload_n hm rfl rfl ?_
        refine x_cVi hm rfl rfl (e211 hW hnt hn8 hnp hp8 h6 hs (by omega) (by omega) hz hz40 hw hw3) (fun v4 M4 r4 => ?_)
        have hv := r4.1
        subst hv
        have hsN : sFs (fun j => M 78 (40 * s + j)) (-1) nt np t z (62 + 7 * p + (3 + w)) (M 67) 10 < 1024 := wS_lt2 (Nat.le_refl _)
        refine x_callS hm rfl rfl (g168b hsN) ?_
        refine x_goto hm rfl (t := 53) rfl ?_
        refine x_iret hm rfl rfl (by first | rfl | exact bI_nar | decide) ?_
        first
          | (have hq : qFits (lk M (nI s)) (M 77) (M 78) (M 67) nt np (nI s) (nI p) (nI t) = (sBits 1024 (nI 0) (nI (sFs (fun j => M 78 (40 * s + j)) (-1) nt np t z (62 + 7 * p + (3 + w)) (M 67) 10)), false) := by
               unfold qFits
               rw [if_neg (fun z => z (by assumption)), if_neg (by assumption), if_neg (by assumption)]
               rw [jI_nat (k := s) (by omega)]
               rw [jI_nat (k := p) (by omega)]
               rw [jI_nat (k := t) (by omega)]
               rw [hz, hw, jI_nat (k := z) (by omega), jI_nat (k := w) (by omega)]
             exact ⟨_, _, rfl, rfl, congrArg Prod.fst hq.symm, r4.2.kq, by rw [hq]; exact r4.2.fq⟩)
          | (have hq : qFits (lk M (nI s)) (M 77) (M 78) (M 67) nt np (nI s) a2 a3 = (-1000001, true) := by
               unfold qFits
               first
                 | rw [if_pos (by assumption)]
                 | rw [if_neg (fun z => z (by assumption)), if_pos (by assumption)]
                 | rw [if_neg (fun z => z (by assumption)), if_neg (by assumption), if_pos (by assumption)]
             exact ⟨_, _, rfl, rfl, congrArg Prod.fst hq.symm, fndR_kq, by rw [hq]; exact fndR_fq⟩)
          | (have hq : qFits (lk M (nI s)) (M 77) (M 78) (M 67) nt np (nI s) (nI p) a3 = (-1000001, true) := by
               unfold qFits
               first
                 | rw [if_pos (by assumption)]
                 | rw [if_neg (fun z => z (by assumption)), if_pos (by assumption)]
                 | rw [if_neg (fun z => z (by assumption)), if_neg (by assumption), if_pos (by assumption)]
             exact ⟨_, _, rfl, rfl, congrArg Prod.fst hq.symm, fndR_kq, by rw [hq]; exact fndR_fq⟩)
  · refine x_aload_n hm rfl rfl ?_
    refine x_aload_n hm rfl rfl ?_
    refine x_iload_n hm rfl rfl ?_
    refine x_callV hm rfl rfl (t209) ?_
    refine x_callV hm rfl rfl (e135 (by first | decide | exact lk_fd h1)) ?_
    refine x_iret hm rfl rfl (by first | rfl | exact bI_nar | decide) ?_
    have hq : qFits (lk M a1) (M 77) (M 78) (M 67) nt np a1 a2 a3 = (lk M a1, true) := by
      unfold qFits
      first
        | rw [if_pos (by assumption)]
        | rw [if_neg (fun z => z (by assumption)), if_pos (by assumption)]
        | rw [if_neg (fun z => z (by assumption)), if_neg (by assumption), if_pos (by assumption)]
    exact ⟨_, _, rfl, rfl, congrArg Prod.fst hq.symm, fndR_kq, by rw [hq]; exact fndR_fq⟩
theorem m213 {s p t S : Nat} {M0 : mM} (hN : S < 1024) (hK : Kr M0 M) : ∀ (n k : Nat), 11 - k < n → k ≤ 10 → sLk S 10 0 = sLk S (10 - k) k → mEv X (QI (fun v M' => v = (sLk S 10 0).1 ∧ Kq M0 M' ∧ Fq (sLk S 10 0) M0 M')) 213 53 [some (.ref 66), some (.int (nI s)), some (.int (nI p)), some (.int (nI t)), some (.int (nI S)), some (.int (nI k))] [] (con M) := by
  have hm : mMet 213 = some _ := rfl
  intro n
  induction n with
  | zero =>
    intro k hkn hkb hq
    omega
  | succ n ih =>
    intro k hkn hkb hq
    refine x_iload hm rfl rfl ?_
    refine x_bipush hm rfl (v := nI 9) (by decide) ?_
    refine x_icmp_gt hm rfl (t := 76) rfl (fun h1 => ?_) (fun h1 => ?_)
    · have hk : k = 10 := Nat.le_antisymm hkb (Nat.lt_of_not_le fun g => absurd h1 (Int32.not_lt.mpr ((jI_le (by omega) (by decide)).mpr g)))
      subst hk
      have hq9 : sLk S 10 0 = (-1000004, true) := hq
      refine x_iload hm rfl rfl ?_
      refine x_bipush hm rfl (v := nI 9) (by decide) ?_
      refine x_icmp_le hm rfl (t := 92) rfl (fun h2 => ?_) (fun h2 => ?_)
      · refine x_iload hm rfl rfl ?_
        refine x_iret hm rfl rfl (by first | rfl | exact bI_nar | decide) ?_
        first
          | exact absurd (show nI 10 ≤ nI 9 by assumption) (by decide)
          | exact absurd ((jI_le (by omega) (by decide)).mpr hk) (by assumption)
          | exact ⟨_, _, rfl, rfl, by rw [hq9], by first | exact hK.kq | exact hK.kq.to fndR_kq, by rw [hq9]; first | exact hK.fq | exact fndR_fq.of (hK.2 70 (by decide) (by decide))⟩
      · refine x_aload_n hm rfl rfl ?_
        refine x_ldcI hm rfl (v := (-1000004 : Int32)) (by decide +kernel) ?_
        refine x_callV hm rfl rfl (e135 (by first | decide | exact lk_fd h1)) ?_
        refine x_goto hm rfl (t := 94) rfl ?_
        refine x_iret hm rfl rfl (by first | rfl | exact bI_nar | decide) ?_
        first
          | exact absurd (show nI 10 ≤ nI 9 by assumption) (by decide)
          | exact absurd ((jI_le (by omega) (by decide)).mpr hk) (by assumption)
          | exact ⟨_, _, rfl, rfl, by rw [hq9], by first | exact hK.kq | exact hK.kq.to fndR_kq, by rw [hq9]; first | exact hK.fq | exact fndR_fq.of (hK.2 70 (by decide) (by decide))⟩
    · have hk : k ≤ 9 := Nat.le_of_not_lt fun h => h1 (nI_lt h (by omega))
      have hq8 := hq.trans (show sLk S (10 - k) k = sLk S (10 - (k + 1) + 1) k by rw [show 10 - k = 10 - (k + 1) + 1 by omega])
      refine x_iload hm rfl rfl ?_
      refine x_iload hm rfl rfl ?_
      refine x_callS hm rfl rfl (g191 hN (by omega)) ?_
      refine x_if_ne hm rfl (t := 76) rfl (fun h3 => ?_) (fun h3 => ?_)
      · have hq9 : sLk S 10 0 = (nI k, false) := hq8.trans (if_pos (bI_ne0 h3))
        refine x_iload hm rfl rfl ?_
        refine x_bipush hm rfl (v := nI 9) (by decide) ?_
        refine x_icmp_le hm rfl (t := 92) rfl (fun h4 => ?_) (fun h4 => ?_)
        · refine x_iload hm rfl rfl ?_
          refine x_iret hm rfl rfl (by first | rfl | exact bI_nar | decide) ?_
          first
            | exact absurd (show nI 10 ≤ nI 9 by assumption) (by decide)
            | exact absurd ((jI_le (by omega) (by decide)).mpr hk) (by assumption)
            | exact ⟨_, _, rfl, rfl, by rw [hq9], by first | exact hK.kq | exact hK.kq.to fndR_kq, by rw [hq9]; first | exact hK.fq | exact fndR_fq.of (hK.2 70 (by decide) (by decide))⟩
        · refine x_aload_n hm rfl rfl ?_
          refine x_ldcI hm rfl (v := (-1000004 : Int32)) (by decide +kernel) ?_
          refine x_callV hm rfl rfl (e135 (by first | decide | exact lk_fd h1)) ?_
          refine x_goto hm rfl (t := 94) rfl ?_
          refine x_iret hm rfl rfl (by first | rfl | exact bI_nar | decide) ?_
          first
            | exact absurd (show nI 10 ≤ nI 9 by assumption) (by decide)
            | exact absurd ((jI_le (by omega) (by decide)).mpr hk) (by assumption)
            | exact ⟨_, _, rfl, rfl, by rw [hq9], by first | exact hK.kq | exact hK.kq.to fndR_kq, by rw [hq9]; first | exact hK.fq | exact fndR_fq.of (hK.2 70 (by decide) (by decide))⟩
      · have hq9 : sLk S 10 0 = sLk S (10 - (k + 1)) (k + 1) := hq8.trans (if_neg (bI_eq0.mp h3))
        refine x_iinc hm rfl rfl (v := nI 1) (by decide) rfl ?_
        rw [jI_add]
        refine x_goto hm rfl (t := 53) rfl ?_
        exact ih _ (by omega) (by omega) hq9
theorem e213 {a1 a2 a3 : Int32} {nt np : Nat} (hW : Wf M) (hnt : M 67 1 = nI nt) (hn8 : nt ≤ 8) (hnp : M 67 2 = nI np) (hp8 : np ≤ 8) (hV : Vs nt np (M 67)) (h6 : M 66 6 = -1) : ∃ v M', mT X 213 [.ref 66, .int a1, .int a2, .int a3] (con M) (some (.int v)) (con M') ∧ v = (qLikes (lk M a1) (M 77) (M 78) (M 67) nt np a1 a2 a3).1 ∧ Kq M M' ∧ Fq (qLikes (lk M a1) (M 77) (M 78) (M 67) nt np a1 a2 a3) M M' := by
  refine ti_of (row := _) rfl (Nat.le_of_ble_eq_true rfl) ?_
  have hm : mMet 213 = some _ := rfl
  refine x_aload_n hm rfl rfl ?_
  refine x_iload_n hm rfl rfl ?_
  refine x_callV hm rfl rfl (t209) ?_
  refine x_if_eq hm rfl (t := 18) rfl (fun h1 => ?_) (fun h1 => ?_)
  · have hl0 : lk M a1 = 0 := h1
    obtain ⟨s, hs, rfl⟩ := lk_k h1
    refine x_aload_n hm rfl rfl ?_
    refine x_iload_n hm rfl rfl ?_
    refine x_callV hm rfl rfl (t153) ?_
    rw [hnp]
    refine x_if_eq hm rfl (t := 34) rfl (fun h2 => ?_) (fun h2 => ?_)
    · refine x_aload_n hm rfl rfl ?_
      refine x_ldcI hm rfl (v := (-1000001 : Int32)) (by decide +kernel) ?_
      refine x_callV hm rfl rfl (e135 (by first | decide | exact lk_fd h1)) ?_
      refine x_iret hm rfl rfl (by first | rfl | exact bI_nar | decide) ?_
      first
        | (have hq : qLikes (lk M (nI s)) (M 77) (M 78) (M 67) nt np (nI s) a2 a3 = (-1000001, true) := by
             unfold qLikes
             first
               | rw [if_pos (by assumption)]
               | rw [if_neg (fun z => z (by assumption)), if_pos (by assumption)]
               | rw [if_neg (fun z => z (by assumption)), if_neg (by assumption), if_pos (by assumption)]
           exact ⟨_, _, rfl, rfl, congrArg Prod.fst hq.symm, fndR_kq, by rw [hq]; exact fndR_fq⟩)
        | (have hq : qLikes (lk M (nI s)) (M 77) (M 78) (M 67) nt np (nI s) (nI p) a3 = (-1000001, true) := by
             unfold qLikes
             first
               | rw [if_pos (by assumption)]
               | rw [if_neg (fun z => z (by assumption)), if_pos (by assumption)]
               | rw [if_neg (fun z => z (by assumption)), if_neg (by assumption), if_pos (by assumption)]
           exact ⟨_, _, rfl, rfl, congrArg Prod.fst hq.symm, fndR_kq, by rw [hq]; exact fndR_fq⟩)
    · obtain ⟨p, hp, rfl⟩ := in_k rfl (by omega) (bI_ne0 h2)
      refine x_aload_n hm rfl rfl ?_
      refine x_iload_n hm rfl rfl ?_
      refine x_callV hm rfl rfl (t139) ?_
      rw [hnt]
      refine x_if_ne hm rfl (t := 41) rfl (fun h3 => ?_) (fun h3 => ?_)
      · obtain ⟨t, ht, rfl⟩ := in_k rfl (by omega) (bI_ne0 h3)
        obtain ⟨z, hz40, hz⟩ := ok5 (show okx 5 (M 77 s) from hW 77 s)
        obtain ⟨w, hw3, hw⟩ := hV.sort ht
        refine x_aload_n hm rfl rfl ?_
        refine x_iload_n hm rfl rfl ?_
        refine x_iload_n hm rfl rfl ?_
        refine x_iload_n hm rfl rfl ?_
        refine x_cVi hm rfl rfl (e211 hW hnt hn8 hnp hp8 h6 hs (by omega) (by omega) hz hz40 hw hw3) (fun v4 M4 r4 => ?_)
        have hv := r4.1
        subst hv
        have hsN : sFs (fun j => M 78 (40 * s + j)) (-1) nt np t z (62 + 7 * p + (3 + w)) (M 67) 10 < 1024 := wS_lt2 (Nat.le_refl _)
        refine x_istore hm rfl rfl ?_
        refine x_iconst hm rfl (v := nI 0) (by decide) ?_
        refine x_istore hm rfl rfl ?_
        have hq : qLikes (lk M (nI s)) (M 77) (M 78) (M 67) nt np (nI s) (nI p) (nI t) = sLk (sFs (fun j => M 78 (40 * s + j)) (-1) nt np t z (62 + 7 * p + (3 + w)) (M 67) 10) 10 0 := by
          unfold qLikes
          rw [if_neg (fun z => z (by assumption)), if_neg (by assumption), if_neg (by assumption)]
          rw [jI_nat (k := s) (by omega)]
          rw [jI_nat (k := p) (by omega)]
          rw [jI_nat (k := t) (by omega)]
          rw [hz, hw, jI_nat (k := z) (by omega), jI_nat (k := w) (by omega)]
        rw [hq]
        exact m213 hsN r4.2 _ 0 (Nat.lt_succ_self _) (Nat.zero_le _) rfl
      · refine x_aload_n hm rfl rfl ?_
        refine x_ldcI hm rfl (v := (-1000001 : Int32)) (by decide +kernel) ?_
        refine x_callV hm rfl rfl (e135 (by first | decide | exact lk_fd h1)) ?_
        refine x_iret hm rfl rfl (by first | rfl | exact bI_nar | decide) ?_
        first
          | (have hq : qLikes (lk M (nI s)) (M 77) (M 78) (M 67) nt np (nI s) a2 a3 = (-1000001, true) := by
               unfold qLikes
               first
                 | rw [if_pos (by assumption)]
                 | rw [if_neg (fun z => z (by assumption)), if_pos (by assumption)]
                 | rw [if_neg (fun z => z (by assumption)), if_neg (by assumption), if_pos (by assumption)]
             exact ⟨_, _, rfl, rfl, congrArg Prod.fst hq.symm, fndR_kq, by rw [hq]; exact fndR_fq⟩)
          | (have hq : qLikes (lk M (nI s)) (M 77) (M 78) (M 67) nt np (nI s) (nI p) a3 = (-1000001, true) := by
               unfold qLikes
               first
                 | rw [if_pos (by assumption)]
                 | rw [if_neg (fun z => z (by assumption)), if_pos (by assumption)]
                 | rw [if_neg (fun z => z (by assumption)), if_neg (by assumption), if_pos (by assumption)]
             exact ⟨_, _, rfl, rfl, congrArg Prod.fst hq.symm, fndR_kq, by rw [hq]; exact fndR_fq⟩)
  · refine x_aload_n hm rfl rfl ?_
    refine x_aload_n hm rfl rfl ?_
    refine x_iload_n hm rfl rfl ?_
    refine x_callV hm rfl rfl (t209) ?_
    refine x_callV hm rfl rfl (e135 (by first | decide | exact lk_fd h1)) ?_
    refine x_iret hm rfl rfl (by first | rfl | exact bI_nar | decide) ?_
    have hq : qLikes (lk M a1) (M 77) (M 78) (M 67) nt np a1 a2 a3 = (lk M a1, true) := by
      unfold qLikes
      first
        | rw [if_pos (by assumption)]
        | rw [if_neg (fun z => z (by assumption)), if_pos (by assumption)]
        | rw [if_neg (fun z => z (by assumption)), if_neg (by assumption), if_pos (by assumption)]
    exact ⟨_, _, rfl, rfl, congrArg Prod.fst hq.symm, fndR_kq, by rw [hq]; exact fndR_fq⟩
end EP
