section
/-! ===== sheets: sheet, write ===== -/
abbrev SS := Int32 × (Nat → Int32) × (Nat → Int32) × (Nat → Int32)
def Rs (w z n : Nat → Int32) (M : mM) : Prop := ∀ s, s < 4 → M (2 * s + 58) 1 = w s ∧ M (2 * s + 58) 2 = z s ∧ ∀ j, j < 40 → M (2 * s + 59) j = n (40 * s + j)
def Gq (q : SS) (v : Int32) (M M' : mM) : Prop := v = q.1 ∧ Rs q.2.1 q.2.2.1 q.2.2.2 M' ∧ ∀ a, (a < 35 ∨ (51 < a ∧ a < 58 ∧ a ≠ 55 ∧ a ≠ 56 ∧ a ≠ 57)) → M' a = M a
def Hq (q : SS) (v : Int32) (M M' : mM) : Prop := v = q.1 ∧ M' 76 = q.2.1 ∧ M' 77 = q.2.2.1 ∧ M' 78 = q.2.2.2 ∧ ∀ a, a ≠ 70 → a ≠ 76 → a ≠ 77 → a ≠ 78 → a ≠ 79 → M' a = M a
def clr (n : Nat → Int32) (s : Nat) : Nat → Int32 := fun i => if 40 * s ≤ i ∧ i < 40 * s + 40 then nI 0 else n i
def fSheet (w z n : Nat → Int32) (a1 a2 a3 : Int32) : SS :=
  if bI (nI 0 ≤ a1 ∧ a1 ≤ nI 3) = 0 then (-1000001, w, z, n) else if okb a2 = false then (-1000001, w, z, n) else if 0 ≤ a3 then (if a3 ≤ nI 40 then ((if a2 = 0 then nI 0 else a3), put1 w a1.toNatClampNeg a2, put1 z a1.toNatClampNeg (if a2 = 0 then nI 0 else a3), clr n a1.toNatClampNeg) else (-1000001, w, z, n)) else (-1000007, w, z, n)
def cut (b v : Int32) : Int32 := if b = nI 8 then v.toInt8.toInt32 else if b = nI 16 then v.toInt16.toInt32 else v
/-- what is wrong with a sheet -/
def lkS (w : Nat → Int32) (a : Int32) : Int32 := if bI (nI 0 ≤ a ∧ a ≤ nI 3) = 0 then -1000001 else if w a.toNatClampNeg = 0 then -1000006 else nI 0
def fWrite (w z n : Nat → Int32) (a1 a2 a3 : Int32) : SS :=
  if ¬ lkS w a1 = 0 then (lkS w a1, w, z, n) else if bI (nI 0 ≤ a2 ∧ a2 ≤ z a1.toNatClampNeg - nI 1) = 0 then (-1000001, w, z, n) else (nI 1, w, z, put1 n (40 * a1.toNatClampNeg + a2.toNatClampNeg) (cut (w a1.toNatClampNeg) a3))
def Wok (w : Nat → Int32) : Prop := ∀ s, s < 4 → w s = 0 ∨ w s = nI 8 ∨ w s = nI 16 ∨ w s = nI 32
def Lay (s : Nat) (b l : Int32) (k : Nat) (M M1 : mM) : Prop := M1 (2 * s + 58) 1 = b ∧ M1 (2 * s + 58) 2 = l ∧ (∀ j, j < k → M1 (2 * s + 59) j = nI 0) ∧ ∀ a, a ≠ 2 * s + 58 → a ≠ 2 * s + 59 → M1 a = M a
def Lr (s : Nat) (b l : Int32) (k : Nat) (M M1 : mM) : Prop := M1 76 = put1 (M 76) s b ∧ M1 77 = put1 (M 77) s l ∧ (∀ i, M1 78 i = if 40 * s ≤ i ∧ i < 40 * s + k then nI 0 else M 78 i) ∧ ∀ a, a ≠ 76 → a ≠ 77 → a ≠ 78 → M1 a = M a
section EV
variable {X : mSc} {Q : Option Value → mHp → Prop} {M : mM} {s : Nat} {w z n : Nat → Int32}
theorem mputf {a i : Nat} {v : Int32} : mput M a i v a = put1 (M a) i v := by
  funext j
  unfold mput put1
  by_cases h : j = i
  · rw [if_pos ⟨rfl, h⟩, if_pos h]
  · rw [if_neg (fun q => h q.2), if_neg h]
theorem Rs.bq {N : mM} {v v' : Int32} (h : Rs w z n M) (g : Bq 35 M N) (e : v' = v) : Gq (v, w, z, n) v' M N := by
  have c : ∀ a, 51 < a → a ≠ 55 → a ≠ 56 → a ≠ 57 → N a = M a := fun a h1 h2 h3 h4 => g.2.1 a (by omega)
  refine ⟨e, fun s hs => ?_, fun a ha => g.2.1 a (by omega)⟩
  rw [c _ (by omega) (by omega) (by omega) (by omega), c (2 * s + 59) (by omega) (by omega) (by omega) (by omega)]
  exact h s hs
theorem fnd_hq {v : Int32} : Hq (v, M 76, M 77, M 78) v M (fndR M v) := by
  have e : ∀ a, a ≠ 70 → fndR M v a = M a := fun a h => (mpo h).trans (mpo h)
  exact ⟨rfl, e 76 (by decide), e 77 (by decide), e 78 (by decide), fun a h _ _ _ _ => e a h⟩
theorem Gq.cn {q : SS} {v : Int32} {N : mM} (hM : cnm M = M) (h : Gq q v M N) : Gq q v M (cnm N) := by
  refine ⟨h.1, fun s hs => ?_, fun a ha => cn_fr hM (h.2.2 a ha)⟩
  have e : cnm N (2 * s + 58) 1 = N (2 * s + 58) 1 ∧ cnm N (2 * s + 58) 2 = N (2 * s + 58) 2 ∧ cnm N (2 * s + 59) = N (2 * s + 59) := by
    rcases (by omega : s = 0 ∨ s = 1 ∨ s = 2 ∨ s = 3) with rfl | rfl | rfl | rfl <;> exact ⟨rfl, rfl, rfl⟩
  rw [e.1, e.2.1, e.2.2]
  exact h.2.1 s hs
theorem Hq.cn {q : SS} {v : Int32} {N : mM} (hM : cnm M = M) (h : Hq q v M N) : Hq q v M (cnm N) := ⟨h.1, h.2.1, h.2.2.1, h.2.2.2.1, fun a h1 h2 h3 h4 h5 => cn_fr hM (h.2.2.2.2 a h1 h2 h3 h4 h5)⟩
theorem Rs.lay {N : mM} {b l : Int32} (h : Rs w z n M) (hs : s ≤ 3) (g : Lay s b l 40 M N) : Rs (put1 w s b) (put1 z s l) (clr n s) N := by
  obtain ⟨g1, g2, g3, g4⟩ := g
  intro u hu
  by_cases e : u = s
  · subst e
    refine ⟨by rw [put1_s]; exact g1, by rw [put1_s]; exact g2, fun j hj => ?_⟩
    rw [g3 j hj]
    exact (if_pos ⟨by omega, by omega⟩).symm
  · obtain ⟨h1, h2, h3⟩ := h u hu
    refine ⟨by rw [put1_o e, g4 _ (by omega) (by omega)]; exact h1, by rw [put1_o e, g4 _ (by omega) (by omega)]; exact h2, fun j hj => ?_⟩
    rw [g4 _ (by omega) (by omega), h3 j hj]
    exact (if_neg (by omega)).symm
theorem Rs.put {i : Nat} {v : Int32} (h : Rs w z n M) (hs : s ≤ 3) (hi : i < 40) : Rs w z (put1 n (40 * s + i) v) (mput M (2 * s + 59) i v) := by
  intro u hu
  obtain ⟨h1, h2, h3⟩ := h u hu
  refine ⟨(mpn (by omega)).trans h1, (mpn (by omega)).trans h2, fun j hj => ?_⟩
  by_cases e : u = s ∧ j = i
  · obtain ⟨rfl, rfl⟩ := e
    rw [mp0, put1_s]
  · rw [mpn (by omega), put1_o (by omega)]
    exact h3 j hj
theorem lkS_a {a : Int32} (h : bI (nI 0 ≤ a ∧ a ≤ nI 3) = 0) : lkS w a = -1000001 := if_pos h
theorem lkS_b {k : Nat} (hk : k ≤ 3) (h : w k = 0) : lkS w (nI k) = -1000006 := by
  unfold lkS
  rw [if_neg (fun q => absurd q (by rw [bI_eq0]; exact fun q => q ⟨(jI_le (by omega) (by omega)).mpr (Nat.zero_le _), (jI_le (by omega) (by omega)).mpr hk⟩)), jI_nat (by omega), if_pos h]
theorem lkS_c {k : Nat} (hk : k ≤ 3) (h : ¬ w k = 0) : lkS w (nI k) = nI 0 := by
  unfold lkS
  rw [if_neg (fun q => absurd q (by rw [bI_eq0]; exact fun q => q ⟨(jI_le (by omega) (by omega)).mpr (Nat.zero_le _), (jI_le (by omega) (by omega)).mpr hk⟩)), jI_nat (by omega), if_neg h]
theorem lkS_0 {a : Int32} (h : lkS w a = 0) : ∃ k, k ≤ 3 ∧ a = nI k ∧ ¬ w k = 0 := by
  unfold lkS at h
  split at h
  · exact absurd h (by decide)
  · rename_i h1
    obtain ⟨k, hk, rfl⟩ := le_k (by decide) (bI_ne0 h1)
    rw [jI_nat (by omega)] at h
    split at h
    · exact absurd h (by decide)
    · exact ⟨k, hk, rfl, by assumption⟩
theorem lkS_fd {a : Int32} (h : ¬ lkS w a = 0) : FD (lkS w a) := by
  unfold lkS at h ⊢
  split
  · decide
  · rename_i h1
    rw [if_neg h1] at h
    split
    · decide
    · rename_i h2
      rw [if_neg h2] at h
      exact absurd rfl h
theorem J.sheets {M1 M2 : mM} {v x : Int32} {q : SS} (h : J M) (c : Ck M M1) (f : Gq q v M M1) (i : Inv M2) (m : cnm M2 = M2) (g : Hq q x M1 M2) (hw : Wok q.2.1) : J M2 := by
  obtain ⟨j1, j2, j3, j4, j5, j6, j7⟩ := h
  obtain ⟨-, f2, f3⟩ := f
  obtain ⟨-, g2, g3, g4, g5⟩ := g
  have b : ∀ a, a < 66 → M2 a = M1 a := fun a ga => g5 a (by omega) (by omega) (by omega) (by omega) (by omega)
  have l : ∀ a, (a < 35 ∨ (51 < a ∧ a < 58 ∧ a ≠ 55 ∧ a ≠ 56 ∧ a ≠ 57)) → M2 a = M a := fun a gb => (b a (by omega)).trans (f3 a gb)
  have u : ∀ a, 66 ≤ a → a < 76 → a ≠ 70 → M2 a = M a := fun a ga gb gc => (g5 a gc (by omega) (by omega) (by omega) (by omega)).trans (c.2 a ga)
  have e66 := u 66 (by decide) (by decide) (by decide)
  refine ⟨i, m, j3.of (fun x _ hx => l x (by omega)) (u 67 (by decide) (by decide) (by decide)), j4.of (by rw [l 0 (by omega)]) (by rw [e66]) (fun x _ hx => l x (by omega)) (u 68 (by decide) (by decide) (by decide)), j5.of (by rw [l 52 (by omega)]) (by rw [e66]) (u 73 (by decide) (by decide) (by decide)) (l 53 (by omega)), fun s hs => ?_, by rw [e66]; exact j7⟩
  obtain ⟨k1, k2, k3⟩ := f2 s hs
  rw [g2, g3, g4]
  exact ⟨by rw [b _ (by omega)]; exact k1, by rw [b _ (by omega)]; exact k2, hw s hs, fun j hj => by rw [b _ (by omega)]; exact k3 j hj⟩
theorem J.rs (h : J M) : Rs (M 76) (M 77) (M 78) M ∧ Wok (M 76) := ⟨fun s hs => ⟨(h.2.2.2.2.2.1 s hs).1, (h.2.2.2.2.2.1 s hs).2.1, (h.2.2.2.2.2.1 s hs).2.2.2⟩, fun s hs => (h.2.2.2.2.2.1 s hs).2.2.1⟩
theorem J.shj {cmd rmd : Nat} {as bs : List Value} {q : SS} (hJ : J M) (hc : ∃ v M1, mT X cmd as (con M) (some (.int v)) (con M1) ∧ Ck M M1) (he : ∃ v M1, mT X cmd as (con M) (some (.int v)) (con M1) ∧ Gq q v M M1)
    (hr : ∀ M1, Inv M1 → ∃ v M', mT X rmd bs (con M1) (some (.int v)) (con M') ∧ Inv M') (hu : ∀ M1, Inv M1 → (∀ a, 66 ≤ a → M1 a = M a) → ∃ v M', mT X rmd bs (con M1) (some (.int v)) (con M') ∧ Hq q v M1 M') (hg : Wok q.2.1) : JJ X cmd rmd as bs M Eq := by
  obtain ⟨v, M1, a1, a2, a3, a4⟩ := mT.both hc he (fun _ _ h => h.cn hJ.2.1) (fun _ _ h => h.cn hJ.2.1)
  have i1 := a3.inv hJ.1
  obtain ⟨x, M2, b1, b2, b3, b4⟩ := mT.both (hr M1 i1) (hu M1 i1 a3.2) (fun _ _ h => h.cn) (fun _ _ h => h.cn a2)
  exact ⟨v, M1, x, M2, a1, b1, hJ.sheets a3 a4 b3 b2 b4 hg, a4.1.trans b4.1.symm⟩
theorem m117 {a1 a2 l : Int32} (hs : s ≤ 3) : ∀ (n k : Nat) (M1 : mM), 40 - k < n → k ≤ 40 → Lay s a1 l k M M1 → mEv X (QV (fun M' => Lay s a1 l 40 M M')) 117 20 [some (.ref (2 * s + 58)), some (.int a1), some (.int a2), some (.int (nI k))] [] (con M1) := by
  have hm : mMet 117 = some _ := rfl
  intro n
  induction n with
  | zero =>
    intro k M1 hkn hkb hT
    omega
  | succ n ih =>
    intro k M1 hkn hkb hT
    refine x_iload_n hm rfl rfl ?_
    refine x_bipush hm rfl (v := nI 40) (by decide) ?_
    refine x_icmp_ge hm rfl (t := 39) rfl (fun h1 => ?_) (fun h1 => ?_)
    · obtain rfl : k = 40 := Nat.le_antisymm hkb ((jI_le (by decide) (by omega)).mp h1)
      refine x_ret hm rfl rfl ?_
      exact ⟨_, rfl, rfl, hT⟩
    · have hk : k < 40 := Nat.lt_of_not_le fun h => h1 (nI_le h (by omega))
      refine x_aload_n hm rfl rfl ?_
      refine x_getf hm rfl (by first | exact gR (sO hs) rfl) ?_
      refine x_iload_n hm rfl rfl ?_
      refine x_iconst hm rfl (v := nI 0) (by decide) ?_
      refine x_iast hm rfl (by first | exact sI (sRow hs) (by omega) (by decide) | exact sI rfl (by omega) (by decide)) ?_
      refine x_iinc hm rfl rfl (v := nI 1) (by decide) rfl ?_
      rw [jI_add]
      refine x_goto hm rfl (t := 20) rfl ?_
      refine ih _ _ (by omega) (by omega) ⟨(mpn (by omega)).trans hT.1, (mpn (by omega)).trans hT.2.1, fun j hj => ?_, fun a h1 h2 => (mpo h2).trans (hT.2.2.2 a h1 h2)⟩
      by_cases e : j = k
      · subst e; exact mp0
      · rw [mpn (by omega)]; exact hT.2.2.1 j (by omega)
theorem g117 {a1 a2 : Int32} (hs : s ≤ 3) : ∃ M', mT X 117 [.ref (2 * s + 58), .int a1, .int a2] (con M) none (con M') ∧ Lay s a1 (if a1 = 0 then nI 0 else a2) 40 M M' := by
  refine tv_of (row := _) rfl (Nat.le_of_ble_eq_true rfl) ?_
  have hm : mMet 117 = some _ := rfl
  refine x_aload_n hm rfl rfl ?_
  refine x_iload_n hm rfl rfl ?_
  refine x_putf hm rfl (pI (sO hs) rfl (by decide) (by first | exact mFit_int | rfl | decide) rfl) ?_
  refine x_aload_n hm rfl rfl ?_
  refine x_iload_n hm rfl rfl ?_
  refine x_if_ne hm rfl (t := 14) rfl (fun h1 => ?_) (fun h1 => ?_)
  · have hv : a2 = (if a1 = 0 then nI 0 else a2) := (if_neg h1).symm
    refine x_iload_n hm rfl rfl ?_
    refine x_putf hm rfl (pI (sO hs) rfl (by decide) (by first | exact mFit_int | rfl | decide) rfl) ?_
    refine x_iconst hm rfl (v := nI 0) (by decide) ?_
    refine x_istore_n hm rfl rfl ?_
    exact m117 hs _ 0 _ (Nat.lt_succ_self _) (Nat.zero_le _) ⟨(mpn (by omega)).trans mp0, mp0.trans hv, fun j hj => absurd hj (Nat.not_lt_zero j), fun a h1 _ => (mpo h1).trans (mpo h1)⟩
  · have hv : nI 0 = (if a1 = 0 then nI 0 else a2) := (if_pos h1).symm
    refine x_iconst hm rfl (v := nI 0) (by decide) ?_
    refine x_goto hm rfl (t := 15) rfl ?_
    refine x_putf hm rfl (pI (sO hs) rfl (by decide) (by first | exact mFit_int | rfl | decide) rfl) ?_
    refine x_iconst hm rfl (v := nI 0) (by decide) ?_
    refine x_istore_n hm rfl rfl ?_
    exact m117 hs _ 0 _ (Nat.lt_succ_self _) (Nat.zero_le _) ⟨(mpn (by omega)).trans mp0, mp0.trans hv, fun j hj => absurd hj (Nat.not_lt_zero j), fun a h1 _ => (mpo h1).trans (mpo h1)⟩
theorem g119 {i : Nat} {v : Int32} (hs : s ≤ 3) (hi : i < 40) : ∃ M', mT X 119 [.ref (2 * s + 58), .int (nI i), .int v] (con M) none (con M') ∧ M' = mput M (2 * s + 59) i (cut (M (2 * s + 58) 1) v) := by
  refine tv_of (row := _) rfl (Nat.le_of_ble_eq_true rfl) ?_
  have hm : mMet 119 = some _ := rfl
  refine x_aload_n hm rfl rfl ?_
  refine x_getf hm rfl (by first | exact gI (sO hs) rfl) ?_
  refine x_bipush hm rfl (v := nI 8) (by decide) ?_
  refine x_icmp_ne hm rfl (t := 20) rfl (fun h1 => ?_) (fun h1 => ?_)
  · have n8 := h1
    refine x_aload_n hm rfl rfl ?_
    refine x_getf hm rfl (by first | exact gI (sO hs) rfl) ?_
    refine x_bipush hm rfl (v := nI 16) (by decide) ?_
    refine x_icmp_ne hm rfl (t := 40) rfl (fun h2 => ?_) (fun h2 => ?_)
    · have hv : v = cut (M (2 * s + 58) 1) v := ((if_neg n8).trans (if_neg h2)).symm
      refine x_aload_n hm rfl rfl ?_
      refine x_getf hm rfl (by first | exact gR (sO hs) rfl) ?_
      refine x_iload_n hm rfl rfl ?_
      refine x_iload_n hm rfl rfl ?_
      refine x_iast hm rfl (by first | exact sI (sRow hs) (by omega) (by decide) | exact sI rfl (by omega) (by decide)) ?_
      refine x_ret hm rfl rfl ?_
      exact ⟨_, rfl, rfl, by rw [← hv]⟩
    · have hv : v.toInt16.toInt32 = cut (M (2 * s + 58) 1) v := ((if_neg n8).trans (if_pos h2)).symm
      refine x_aload_n hm rfl rfl ?_
      refine x_getf hm rfl (by first | exact gR (sO hs) rfl) ?_
      refine x_iload_n hm rfl rfl ?_
      refine x_iload_n hm rfl rfl ?_
      refine x_i2s hm rfl ?_
      refine x_iast hm rfl (by first | exact sI (sRow hs) (by omega) (by decide) | exact sI rfl (by omega) (by decide)) ?_
      refine x_goto hm rfl (t := 47) rfl ?_
      refine x_ret hm rfl rfl ?_
      exact ⟨_, rfl, rfl, by rw [← hv]⟩
  · have hv : v.toInt8.toInt32 = cut (M (2 * s + 58) 1) v := (if_pos h1).symm
    refine x_aload_n hm rfl rfl ?_
    refine x_getf hm rfl (by first | exact gR (sO hs) rfl) ?_
    refine x_iload_n hm rfl rfl ?_
    refine x_iload_n hm rfl rfl ?_
    refine x_i2b hm rfl ?_
    refine x_iast hm rfl (by first | exact sI (sRow hs) (by omega) (by decide) | exact sI rfl (by omega) (by decide)) ?_
    refine x_goto hm rfl (t := 47) rfl ?_
    refine x_ret hm rfl rfl ?_
    exact ⟨_, rfl, rfl, by rw [← hv]⟩
theorem g116e {a2 a3 : Int32} (hR : Rs w z n M) (hs : s ≤ 3) : mEv X (QI (fun v M' => Gq ((if a2 = 0 then nI 0 else a3), put1 w s a2, put1 z s (if a2 = 0 then nI 0 else a3), clr n s) v M M')) 116 60 [some (.ref 0), some (.int (nI s)), some (.int a2), some (.int a3)] [] (con M) := by
  have hm : mMet 116 = some _ := rfl
  refine x_aload_n hm rfl rfl ?_
  refine x_getf hm rfl (gR rfl rfl) ?_
  refine x_iload_n hm rfl rfl ?_
  refine x_aald hm rfl (by first | exact lQ 2 (Or.inl rfl) rfl (shk hs) (by omega) (by decide) | exact lQ 3 (Or.inr (Or.inl rfl)) rfl rfl (by omega) (by decide)) ?_
  refine x_iload_n hm rfl rfl ?_
  refine x_iload_n hm rfl rfl ?_
  refine x_cVv hm rfl (by first | exact mCallSh hs (by decide) rfl rfl rfl rfl rfl) (g117 hs) (fun M1 r1 => ?_)
  refine x_aload_n hm rfl rfl ?_
  refine x_getf hm rfl (gR rfl rfl) ?_
  refine x_iload_n hm rfl rfl ?_
  refine x_aald hm rfl (by first | exact lQ 2 (Or.inl rfl) rfl (shk hs) (by omega) (by decide) | exact lQ 3 (Or.inr (Or.inl rfl)) rfl rfl (by omega) (by decide)) ?_
  refine x_getf hm rfl (by first | exact gI (sO hs) rfl) ?_
  refine x_iret hm rfl rfl (by first | rfl | exact bI_nar | decide) ?_
  exact ⟨_, _, rfl, rfl, r1.2.1, hR.lay hs r1, fun a ha => r1.2.2.2 a (by omega) (by omega)⟩
theorem g116 {a1 a2 a3 : Int32} (hR : Rs w z n M) : ∃ v M', mT X 116 [.ref 0, .int a1, .int a2, .int a3] (con M) (some (.int v)) (con M') ∧ Gq (fSheet w z n a1 a2 a3) v M M' := by
  refine ti_of (row := _) rfl (Nat.le_of_ble_eq_true rfl) ?_
  have hm : mMet 116 = some _ := rfl
  refine x_iload_n hm rfl rfl ?_
  refine x_callS hm rfl rfl (t78) ?_
  refine x_if_eq hm rfl (t := 29) rfl (fun h1 => ?_) (fun h1 => ?_)
  · refine x_aload_n hm rfl rfl ?_
    refine x_ldcI hm rfl (v := (-1000001 : Int32)) (by decide +kernel) ?_
    refine x_cVi hm rfl rfl (t7 (by decide +kernel)) (fun v2 M2 r2 => ?_)
    refine x_iret hm rfl rfl (by first | rfl | exact bI_nar | decide) ?_
    first
      | (have hq : fSheet w z n a1 a2 a3 = (-1000001, w, z, n) := by
           unfold fSheet
           rw [if_pos h1]
         exact ⟨_, _, rfl, rfl, by rw [hq]; exact hR.bq r2.2 r2.1⟩)
      | (have hq : fSheet w z n a1 a2 a3 = (-1000001, w, z, n) := by
           unfold fSheet
           rw [if_neg h1, if_pos (okb_f (by assumption) (by assumption) (by assumption) (by assumption))]
         exact ⟨_, _, rfl, rfl, by rw [hq]; exact hR.bq r2.2 r2.1⟩)
      | (have hq : fSheet w z n a1 a2 a3 = (-1000001, w, z, n) := by
           unfold fSheet
           rw [if_pos h1]
         exact ⟨_, _, rfl, rfl, by rw [hq]; exact hR.bq r1.2 r1.1⟩)
      | (have hq : fSheet w z n a1 a2 a3 = (-1000001, w, z, n) := by
           unfold fSheet
           rw [if_pos h1]
         exact ⟨_, _, rfl, rfl, by rw [hq]; exact hR.bq r3.2 r3.1⟩)
      | (have hq : fSheet w z n a1 a2 a3 = (-1000001, w, z, n) := by
           unfold fSheet
           rw [if_pos h1]
         exact ⟨_, _, rfl, rfl, by rw [hq]; exact hR.bq r4.2 r4.1⟩)
      | (have hq : fSheet w z n a1 a2 a3 = (-1000001, w, z, n) := by
           unfold fSheet
           rw [if_pos h1]
         exact ⟨_, _, rfl, rfl, by rw [hq]; exact hR.bq r5.2 r5.1⟩)
      | (have hq : fSheet w z n a1 a2 a3 = (-1000001, w, z, n) := by
           unfold fSheet
           rw [if_pos h1]
         exact ⟨_, _, rfl, rfl, by rw [hq]; exact hR.bq r6.2 r6.1⟩)
      | (have hq : fSheet w z n a1 a2 a3 = (-1000001, w, z, n) := by
           unfold fSheet
           rw [if_pos h1]
         exact ⟨_, _, rfl, rfl, by rw [hq]; exact hR.bq r7.2 r7.1⟩)
      | (have hq : fSheet w z n a1 a2 a3 = (-1000001, w, z, n) := by
           unfold fSheet
           rw [if_pos h1]
         exact ⟨_, _, rfl, rfl, by rw [hq]; exact hR.bq r8.2 r8.1⟩)
      | (have hq : fSheet w z n a1 a2 a3 = (-1000001, w, z, n) := by
           unfold fSheet
           rw [if_pos h1]
         exact ⟨_, _, rfl, rfl, by rw [hq]; exact hR.bq r9.2 r9.1⟩)
      | (have hq : fSheet w z n a1 a2 a3 = (-1000001, w, z, n) := by
           unfold fSheet
           rw [if_pos h1]
         exact ⟨_, _, rfl, rfl, by rw [hq]; exact hR.bq r10.2 r10.1⟩)
      | (have hq : fSheet w z n a1 a2 a3 = (-1000001, w, z, n) := by
           unfold fSheet
           rw [if_pos h1]
         exact ⟨_, _, rfl, rfl, by rw [hq]; exact hR.bq r11.2 r11.1⟩)
      | (have hq : fSheet w z n a1 a2 a3 = (-1000001, w, z, n) := by
           unfold fSheet
           rw [if_pos h1]
         exact ⟨_, _, rfl, rfl, by rw [hq]; exact hR.bq r12.2 r12.1⟩)
      | (have hq : fSheet w z n a1 a2 a3 = (-1000001, w, z, n) := by
           unfold fSheet
           rw [if_pos h1]
         exact ⟨_, _, rfl, rfl, by rw [hq]; exact hR.bq r13.2 r13.1⟩)
      | (have hq : fSheet w z n a1 a2 a3 = (-1000001, w, z, n) := by
           unfold fSheet
           rw [if_pos h1]
         exact ⟨_, _, rfl, rfl, by rw [hq]; exact hR.bq r14.2 r14.1⟩)
      | (have hq : fSheet w z n a1 a2 a3 = (-1000001, w, z, n) := by
           unfold fSheet
           rw [if_pos h1]
         exact ⟨_, _, rfl, rfl, by rw [hq]; exact hR.bq r15.2 r15.1⟩)
      | (have hq : fSheet w z n a1 a2 a3 = (-1000001, w, z, n) := by
           unfold fSheet
           rw [if_pos h1]
         exact ⟨_, _, rfl, rfl, by rw [hq]; exact hR.bq r16.2 r16.1⟩)
      | (have hq : fSheet w z n a1 a2 a3 = (-1000001, w, z, n) := by
           unfold fSheet
           rw [if_pos h1]
         exact ⟨_, _, rfl, rfl, by rw [hq]; exact hR.bq r17.2 r17.1⟩)
      | (have hq : fSheet w z n a1 a2 a3 = (-1000001, w, z, n) := by
           unfold fSheet
           rw [if_pos h1]
         exact ⟨_, _, rfl, rfl, by rw [hq]; exact hR.bq r18.2 r18.1⟩)
      | (have hq : fSheet w z n a1 a2 a3 = (-1000001, w, z, n) := by
           unfold fSheet
           rw [if_pos h1]
         exact ⟨_, _, rfl, rfl, by rw [hq]; exact hR.bq r19.2 r19.1⟩)
      | (have hq : fSheet w z n a1 a2 a3 = (-1000001, w, z, n) := by
           unfold fSheet
           rw [if_pos h1]
         exact ⟨_, _, rfl, rfl, by rw [hq]; exact hR.bq r20.2 r20.1⟩)
      | (have hq : fSheet w z n a1 a2 a3 = (-1000001, w, z, n) := by
           unfold fSheet
           rw [if_pos h1]
         exact ⟨_, _, rfl, rfl, by rw [hq]; exact hR.bq r21.2 r21.1⟩)
      | (have hq : fSheet w z n a1 a2 a3 = (-1000001, w, z, n) := by
           unfold fSheet
           rw [if_pos h1]
         exact ⟨_, _, rfl, rfl, by rw [hq]; exact hR.bq r22.2 r22.1⟩)
      | (have hq : fSheet w z n a1 a2 a3 = (-1000001, w, z, n) := by
           unfold fSheet
           rw [if_pos h1]
         exact ⟨_, _, rfl, rfl, by rw [hq]; exact hR.bq r23.2 r23.1⟩)
      | (have hq : fSheet w z n a1 a2 a3 = (-1000001, w, z, n) := by
           unfold fSheet
           rw [if_pos h1]
         exact ⟨_, _, rfl, rfl, by rw [hq]; exact hR.bq r24.2 r24.1⟩)
      | (have hq : fSheet w z n a1 a2 a3 = (-1000001, w, z, n) := by
           unfold fSheet
           rw [if_pos h1]
         exact ⟨_, _, rfl, rfl, by rw [hq]; exact hR.bq r25.2 r25.1⟩)
      | (have hq : fSheet w z n a1 a2 a3 = (-1000001, w, z, n) := by
           unfold fSheet
           rw [if_pos h1]
         exact ⟨_, _, rfl, rfl, by rw [hq]; exact hR.bq r26.2 r26.1⟩)
      | (have hq : fSheet w z n a1 a2 a3 = (-1000001, w, z, n) := by
           unfold fSheet
           rw [if_pos h1]
         exact ⟨_, _, rfl, rfl, by rw [hq]; exact hR.bq r27.2 r27.1⟩)
      | (have hq : fSheet w z n a1 a2 a3 = (-1000001, w, z, n) := by
           unfold fSheet
           rw [if_pos h1]
         exact ⟨_, _, rfl, rfl, by rw [hq]; exact hR.bq r28.2 r28.1⟩)
      | (have hq : fSheet w z n a1 a2 a3 = (-1000001, w, z, n) := by
           unfold fSheet
           rw [if_pos h1]
         exact ⟨_, _, rfl, rfl, by rw [hq]; exact hR.bq r29.2 r29.1⟩)
      | (have hq : fSheet w z n a1 a2 a3 = (-1000001, w, z, n) := by
           unfold fSheet
           rw [if_pos h1]
         exact ⟨_, _, rfl, rfl, by rw [hq]; exact hR.bq r30.2 r30.1⟩)
      | (have hq : fSheet w z n a1 a2 a3 = (-1000001, w, z, n) := by
           unfold fSheet
           rw [if_pos h1]
         exact ⟨_, _, rfl, rfl, by rw [hq]; exact hR.bq r31.2 r31.1⟩)
      | (have hq : fSheet w z n a1 a2 a3 = (-1000001, w, z, n) := by
           unfold fSheet
           rw [if_pos h1]
         exact ⟨_, _, rfl, rfl, by rw [hq]; exact hR.bq r32.2 r32.1⟩)
      | (have hq : fSheet w z n a1 a2 a3 = (-1000001, w, z, n) := by
           unfold fSheet
           rw [if_pos h1]
         exact ⟨_, _, rfl, rfl, by rw [hq]; exact hR.bq r33.2 r33.1⟩)
      | (have hq : fSheet w z n a1 a2 a3 = (-1000001, w, z, n) := by
           unfold fSheet
           rw [if_pos h1]
         exact ⟨_, _, rfl, rfl, by rw [hq]; exact hR.bq r34.2 r34.1⟩)
      | (have hq : fSheet w z n a1 a2 a3 = (-1000001, w, z, n) := by
           unfold fSheet
           rw [if_pos h1]
         exact ⟨_, _, rfl, rfl, by rw [hq]; exact hR.bq r35.2 r35.1⟩)
      | (have hq : fSheet w z n a1 a2 a3 = (-1000001, w, z, n) := by
           unfold fSheet
           rw [if_pos h1]
         exact ⟨_, _, rfl, rfl, by rw [hq]; exact hR.bq r36.2 r36.1⟩)
      | (have hq : fSheet w z n a1 a2 a3 = (-1000001, w, z, n) := by
           unfold fSheet
           rw [if_pos h1]
         exact ⟨_, _, rfl, rfl, by rw [hq]; exact hR.bq r37.2 r37.1⟩)
      | (have hq : fSheet w z n a1 a2 a3 = (-1000001, w, z, n) := by
           unfold fSheet
           rw [if_pos h1]
         exact ⟨_, _, rfl, rfl, by rw [hq]; exact hR.bq r38.2 r38.1⟩)
      | (have hq : fSheet w z n a1 a2 a3 = (-1000001, w, z, n) := by
           unfold fSheet
           rw [if_pos h1]
         exact ⟨_, _, rfl, rfl, by rw [hq]; exact hR.bq r39.2 r39.1⟩)
      | (have hq : fSheet w z n a1 a2 a3 = (-1000001, w, z, n) := by
           unfold fSheet
           rw [if_neg h1, if_pos (okb_f (by assumption) (by assumption) (by assumption) (by assumption))]
         exact ⟨_, _, rfl, rfl, by rw [hq]; exact hR.bq r1.2 r1.1⟩)
      | (have hq : fSheet w z n a1 a2 a3 = (-1000001, w, z, n) := by
           unfold fSheet
           rw [if_neg h1, if_pos (okb_f (by assumption) (by assumption) (by assumption) (by assumption))]
         exact ⟨_, _, rfl, rfl, by rw [hq]; exact hR.bq r3.2 r3.1⟩)
      | (have hq : fSheet w z n a1 a2 a3 = (-1000001, w, z, n) := by
           unfold fSheet
           rw [if_neg h1, if_pos (okb_f (by assumption) (by assumption) (by assumption) (by assumption))]
         exact ⟨_, _, rfl, rfl, by rw [hq]; exact hR.bq r4.2 r4.1⟩)
      | (have hq : fSheet w z n a1 a2 a3 = (-1000001, w, z, n) := by
           unfold fSheet
           rw [if_neg h1, if_pos (okb_f (by assumption) (by assumption) (by assumption) (by assumption))]
         exact ⟨_, _, rfl, rfl, by rw [hq]; exact hR.bq r5.2 r5.1⟩)
      | (have hq : fSheet w z n a1 a2 a3 = (-1000001, w, z, n) := by
           unfold fSheet
           rw [if_neg h1, if_pos (okb_f (by assumption) (by assumption) (by assumption) (by assumption))]
         exact ⟨_, _, rfl, rfl, by rw [hq]; exact hR.bq r6.2 r6.1⟩)
      | (have hq : fSheet w z n a1 a2 a3 = (-1000001, w, z, n) := by
           unfold fSheet
           rw [if_neg h1, if_pos (okb_f (by assumption) (by assumption) (by assumption) (by assumption))]
         exact ⟨_, _, rfl, rfl, by rw [hq]; exact hR.bq r7.2 r7.1⟩)
      | (have hq : fSheet w z n a1 a2 a3 = (-1000001, w, z, n) := by
           unfold fSheet
           rw [if_neg h1, if_pos (okb_f (by assumption) (by assumption) (by assumption) (by assumption))]
         exact ⟨_, _, rfl, rfl, by rw [hq]; exact hR.bq r8.2 r8.1⟩)
      | (have hq : fSheet w z n a1 a2 a3 = (-1000001, w, z, n) := by
           unfold fSheet
           rw [if_neg h1, if_pos (okb_f (by assumption) (by assumption) (by assumption) (by assumption))]
         exact ⟨_, _, rfl, rfl, by rw [hq]; exact hR.bq r9.2 r9.1⟩)
      | (have hq : fSheet w z n a1 a2 a3 = (-1000001, w, z, n) := by
           unfold fSheet
           rw [if_neg h1, if_pos (okb_f (by assumption) (by assumption) (by assumption) (by assumption))]
         exact ⟨_, _, rfl, rfl, by rw [hq]; exact hR.bq r10.2 r10.1⟩)
      | (have hq : fSheet w z n a1 a2 a3 = (-1000001, w, z, n) := by
           unfold fSheet
           rw [if_neg h1, if_pos (okb_f (by assumption) (by assumption) (by assumption) (by assumption))]
         exact ⟨_, _, rfl, rfl, by rw [hq]; exact hR.bq r11.2 r11.1⟩)
      | (have hq : fSheet w z n a1 a2 a3 = (-1000001, w, z, n) := by
           unfold fSheet
           rw [if_neg h1, if_pos (okb_f (by assumption) (by assumption) (by assumption) (by assumption))]
         exact ⟨_, _, rfl, rfl, by rw [hq]; exact hR.bq r12.2 r12.1⟩)
      | (have hq : fSheet w z n a1 a2 a3 = (-1000001, w, z, n) := by
           unfold fSheet
           rw [if_neg h1, if_pos (okb_f (by assumption) (by assumption) (by assumption) (by assumption))]
         exact ⟨_, _, rfl, rfl, by rw [hq]; exact hR.bq r13.2 r13.1⟩)
      | (have hq : fSheet w z n a1 a2 a3 = (-1000001, w, z, n) := by
           unfold fSheet
           rw [if_neg h1, if_pos (okb_f (by assumption) (by assumption) (by assumption) (by assumption))]
         exact ⟨_, _, rfl, rfl, by rw [hq]; exact hR.bq r14.2 r14.1⟩)
      | (have hq : fSheet w z n a1 a2 a3 = (-1000001, w, z, n) := by
           unfold fSheet
           rw [if_neg h1, if_pos (okb_f (by assumption) (by assumption) (by assumption) (by assumption))]
         exact ⟨_, _, rfl, rfl, by rw [hq]; exact hR.bq r15.2 r15.1⟩)
      | (have hq : fSheet w z n a1 a2 a3 = (-1000001, w, z, n) := by
           unfold fSheet
           rw [if_neg h1, if_pos (okb_f (by assumption) (by assumption) (by assumption) (by assumption))]
         exact ⟨_, _, rfl, rfl, by rw [hq]; exact hR.bq r16.2 r16.1⟩)
      | (have hq : fSheet w z n a1 a2 a3 = (-1000001, w, z, n) := by
           unfold fSheet
           rw [if_neg h1, if_pos (okb_f (by assumption) (by assumption) (by assumption) (by assumption))]
         exact ⟨_, _, rfl, rfl, by rw [hq]; exact hR.bq r17.2 r17.1⟩)
      | (have hq : fSheet w z n a1 a2 a3 = (-1000001, w, z, n) := by
           unfold fSheet
           rw [if_neg h1, if_pos (okb_f (by assumption) (by assumption) (by assumption) (by assumption))]
         exact ⟨_, _, rfl, rfl, by rw [hq]; exact hR.bq r18.2 r18.1⟩)
      | (have hq : fSheet w z n a1 a2 a3 = (-1000001, w, z, n) := by
           unfold fSheet
           rw [if_neg h1, if_pos (okb_f (by assumption) (by assumption) (by assumption) (by assumption))]
         exact ⟨_, _, rfl, rfl, by rw [hq]; exact hR.bq r19.2 r19.1⟩)
      | (have hq : fSheet w z n a1 a2 a3 = (-1000001, w, z, n) := by
           unfold fSheet
           rw [if_neg h1, if_pos (okb_f (by assumption) (by assumption) (by assumption) (by assumption))]
         exact ⟨_, _, rfl, rfl, by rw [hq]; exact hR.bq r20.2 r20.1⟩)
      | (have hq : fSheet w z n a1 a2 a3 = (-1000001, w, z, n) := by
           unfold fSheet
           rw [if_neg h1, if_pos (okb_f (by assumption) (by assumption) (by assumption) (by assumption))]
         exact ⟨_, _, rfl, rfl, by rw [hq]; exact hR.bq r21.2 r21.1⟩)
      | (have hq : fSheet w z n a1 a2 a3 = (-1000001, w, z, n) := by
           unfold fSheet
           rw [if_neg h1, if_pos (okb_f (by assumption) (by assumption) (by assumption) (by assumption))]
         exact ⟨_, _, rfl, rfl, by rw [hq]; exact hR.bq r22.2 r22.1⟩)
      | (have hq : fSheet w z n a1 a2 a3 = (-1000001, w, z, n) := by
           unfold fSheet
           rw [if_neg h1, if_pos (okb_f (by assumption) (by assumption) (by assumption) (by assumption))]
         exact ⟨_, _, rfl, rfl, by rw [hq]; exact hR.bq r23.2 r23.1⟩)
      | (have hq : fSheet w z n a1 a2 a3 = (-1000001, w, z, n) := by
           unfold fSheet
           rw [if_neg h1, if_pos (okb_f (by assumption) (by assumption) (by assumption) (by assumption))]
         exact ⟨_, _, rfl, rfl, by rw [hq]; exact hR.bq r24.2 r24.1⟩)
      | (have hq : fSheet w z n a1 a2 a3 = (-1000001, w, z, n) := by
           unfold fSheet
           rw [if_neg h1, if_pos (okb_f (by assumption) (by assumption) (by assumption) (by assumption))]
         exact ⟨_, _, rfl, rfl, by rw [hq]; exact hR.bq r25.2 r25.1⟩)
      | (have hq : fSheet w z n a1 a2 a3 = (-1000001, w, z, n) := by
           unfold fSheet
           rw [if_neg h1, if_pos (okb_f (by assumption) (by assumption) (by assumption) (by assumption))]
         exact ⟨_, _, rfl, rfl, by rw [hq]; exact hR.bq r26.2 r26.1⟩)
      | (have hq : fSheet w z n a1 a2 a3 = (-1000001, w, z, n) := by
           unfold fSheet
           rw [if_neg h1, if_pos (okb_f (by assumption) (by assumption) (by assumption) (by assumption))]
         exact ⟨_, _, rfl, rfl, by rw [hq]; exact hR.bq r27.2 r27.1⟩)
      | (have hq : fSheet w z n a1 a2 a3 = (-1000001, w, z, n) := by
           unfold fSheet
           rw [if_neg h1, if_pos (okb_f (by assumption) (by assumption) (by assumption) (by assumption))]
         exact ⟨_, _, rfl, rfl, by rw [hq]; exact hR.bq r28.2 r28.1⟩)
      | (have hq : fSheet w z n a1 a2 a3 = (-1000001, w, z, n) := by
           unfold fSheet
           rw [if_neg h1, if_pos (okb_f (by assumption) (by assumption) (by assumption) (by assumption))]
         exact ⟨_, _, rfl, rfl, by rw [hq]; exact hR.bq r29.2 r29.1⟩)
      | (have hq : fSheet w z n a1 a2 a3 = (-1000001, w, z, n) := by
           unfold fSheet
           rw [if_neg h1, if_pos (okb_f (by assumption) (by assumption) (by assumption) (by assumption))]
         exact ⟨_, _, rfl, rfl, by rw [hq]; exact hR.bq r30.2 r30.1⟩)
      | (have hq : fSheet w z n a1 a2 a3 = (-1000001, w, z, n) := by
           unfold fSheet
           rw [if_neg h1, if_pos (okb_f (by assumption) (by assumption) (by assumption) (by assumption))]
         exact ⟨_, _, rfl, rfl, by rw [hq]; exact hR.bq r31.2 r31.1⟩)
      | (have hq : fSheet w z n a1 a2 a3 = (-1000001, w, z, n) := by
           unfold fSheet
           rw [if_neg h1, if_pos (okb_f (by assumption) (by assumption) (by assumption) (by assumption))]
         exact ⟨_, _, rfl, rfl, by rw [hq]; exact hR.bq r32.2 r32.1⟩)
      | (have hq : fSheet w z n a1 a2 a3 = (-1000001, w, z, n) := by
           unfold fSheet
           rw [if_neg h1, if_pos (okb_f (by assumption) (by assumption) (by assumption) (by assumption))]
         exact ⟨_, _, rfl, rfl, by rw [hq]; exact hR.bq r33.2 r33.1⟩)
      | (have hq : fSheet w z n a1 a2 a3 = (-1000001, w, z, n) := by
           unfold fSheet
           rw [if_neg h1, if_pos (okb_f (by assumption) (by assumption) (by assumption) (by assumption))]
         exact ⟨_, _, rfl, rfl, by rw [hq]; exact hR.bq r34.2 r34.1⟩)
      | (have hq : fSheet w z n a1 a2 a3 = (-1000001, w, z, n) := by
           unfold fSheet
           rw [if_neg h1, if_pos (okb_f (by assumption) (by assumption) (by assumption) (by assumption))]
         exact ⟨_, _, rfl, rfl, by rw [hq]; exact hR.bq r35.2 r35.1⟩)
      | (have hq : fSheet w z n a1 a2 a3 = (-1000001, w, z, n) := by
           unfold fSheet
           rw [if_neg h1, if_pos (okb_f (by assumption) (by assumption) (by assumption) (by assumption))]
         exact ⟨_, _, rfl, rfl, by rw [hq]; exact hR.bq r36.2 r36.1⟩)
      | (have hq : fSheet w z n a1 a2 a3 = (-1000001, w, z, n) := by
           unfold fSheet
           rw [if_neg h1, if_pos (okb_f (by assumption) (by assumption) (by assumption) (by assumption))]
         exact ⟨_, _, rfl, rfl, by rw [hq]; exact hR.bq r37.2 r37.1⟩)
      | (have hq : fSheet w z n a1 a2 a3 = (-1000001, w, z, n) := by
           unfold fSheet
           rw [if_neg h1, if_pos (okb_f (by assumption) (by assumption) (by assumption) (by assumption))]
         exact ⟨_, _, rfl, rfl, by rw [hq]; exact hR.bq r38.2 r38.1⟩)
      | (have hq : fSheet w z n a1 a2 a3 = (-1000001, w, z, n) := by
           unfold fSheet
           rw [if_neg h1, if_pos (okb_f (by assumption) (by assumption) (by assumption) (by assumption))]
         exact ⟨_, _, rfl, rfl, by rw [hq]; exact hR.bq r39.2 r39.1⟩)
  · refine x_iload_n hm rfl rfl ?_
    refine x_if_eq hm rfl (t := 36) rfl (fun h3 => ?_) (fun h3 => ?_)
    · have hb := okb_t (Or.inl h3)
      refine x_iload_n hm rfl rfl ?_
      refine x_if_ge hm rfl (t := 47) rfl (fun h4 => ?_) (fun h4 => ?_)
      · have hn0 := h4
        refine x_iload_n hm rfl rfl ?_
        refine x_bipush hm rfl (v := nI 40) (by decide) ?_
        refine x_icmp_le hm rfl (t := 60) rfl (fun h5 => ?_) (fun h5 => ?_)
        · have hn4 := h5
          obtain ⟨s, hs, hs3⟩ := le_k (by omega) (bI_ne0 h1)
          subst hs3
          have hq : fSheet w z n (nI s) a2 a3 = ((if a2 = 0 then nI 0 else a3), put1 w s a2, put1 z s (if a2 = 0 then nI 0 else a3), clr n s) := by
            unfold fSheet
            rw [if_neg h1, if_neg hb, if_pos hn0, if_pos hn4, jI_nat (by omega)]
          rw [hq]
          exact g116e hR hs
        · have hn4 := h5
          refine x_aload_n hm rfl rfl ?_
          refine x_ldcI hm rfl (v := (-1000001 : Int32)) (by decide +kernel) ?_
          refine x_cVi hm rfl rfl (t7 (by decide +kernel)) (fun v6 M6 r6 => ?_)
          refine x_iret hm rfl rfl (by first | rfl | exact bI_nar | decide) ?_
          first
            | (have hq : fSheet w z n a1 a2 a3 = (-1000001, w, z, n) := by
                 unfold fSheet
                 rw [if_neg h1, if_neg hb, if_pos hn0, if_neg hn4]
               exact ⟨_, _, rfl, rfl, by rw [hq]; exact hR.bq r6.2 r6.1⟩)
            | (have hq : fSheet w z n a1 a2 a3 = (-1000001, w, z, n) := by
                 unfold fSheet
                 rw [if_neg h1, if_neg hb, if_pos hn0, if_neg hn4]
               exact ⟨_, _, rfl, rfl, by rw [hq]; exact hR.bq r1.2 r1.1⟩)
            | (have hq : fSheet w z n a1 a2 a3 = (-1000001, w, z, n) := by
                 unfold fSheet
                 rw [if_neg h1, if_neg hb, if_pos hn0, if_neg hn4]
               exact ⟨_, _, rfl, rfl, by rw [hq]; exact hR.bq r2.2 r2.1⟩)
            | (have hq : fSheet w z n a1 a2 a3 = (-1000001, w, z, n) := by
                 unfold fSheet
                 rw [if_neg h1, if_neg hb, if_pos hn0, if_neg hn4]
               exact ⟨_, _, rfl, rfl, by rw [hq]; exact hR.bq r3.2 r3.1⟩)
            | (have hq : fSheet w z n a1 a2 a3 = (-1000001, w, z, n) := by
                 unfold fSheet
                 rw [if_neg h1, if_neg hb, if_pos hn0, if_neg hn4]
               exact ⟨_, _, rfl, rfl, by rw [hq]; exact hR.bq r4.2 r4.1⟩)
            | (have hq : fSheet w z n a1 a2 a3 = (-1000001, w, z, n) := by
                 unfold fSheet
                 rw [if_neg h1, if_neg hb, if_pos hn0, if_neg hn4]
               exact ⟨_, _, rfl, rfl, by rw [hq]; exact hR.bq r5.2 r5.1⟩)
            | (have hq : fSheet w z n a1 a2 a3 = (-1000001, w, z, n) := by
                 unfold fSheet
                 rw [if_neg h1, if_neg hb, if_pos hn0, if_neg hn4]
               exact ⟨_, _, rfl, rfl, by rw [hq]; exact hR.bq r7.2 r7.1⟩)
            | (have hq : fSheet w z n a1 a2 a3 = (-1000001, w, z, n) := by
                 unfold fSheet
                 rw [if_neg h1, if_neg hb, if_pos hn0, if_neg hn4]
               exact ⟨_, _, rfl, rfl, by rw [hq]; exact hR.bq r8.2 r8.1⟩)
            | (have hq : fSheet w z n a1 a2 a3 = (-1000001, w, z, n) := by
                 unfold fSheet
                 rw [if_neg h1, if_neg hb, if_pos hn0, if_neg hn4]
               exact ⟨_, _, rfl, rfl, by rw [hq]; exact hR.bq r9.2 r9.1⟩)
            | (have hq : fSheet w z n a1 a2 a3 = (-1000001, w, z, n) := by
                 unfold fSheet
                 rw [if_neg h1, if_neg hb, if_pos hn0, if_neg hn4]
               exact ⟨_, _, rfl, rfl, by rw [hq]; exact hR.bq r10.2 r10.1⟩)
            | (have hq : fSheet w z n a1 a2 a3 = (-1000001, w, z, n) := by
                 unfold fSheet
                 rw [if_neg h1, if_neg hb, if_pos hn0, if_neg hn4]
               exact ⟨_, _, rfl, rfl, by rw [hq]; exact hR.bq r11.2 r11.1⟩)
            | (have hq : fSheet w z n a1 a2 a3 = (-1000001, w, z, n) := by
                 unfold fSheet
                 rw [if_neg h1, if_neg hb, if_pos hn0, if_neg hn4]
               exact ⟨_, _, rfl, rfl, by rw [hq]; exact hR.bq r12.2 r12.1⟩)
            | (have hq : fSheet w z n a1 a2 a3 = (-1000001, w, z, n) := by
                 unfold fSheet
                 rw [if_neg h1, if_neg hb, if_pos hn0, if_neg hn4]
               exact ⟨_, _, rfl, rfl, by rw [hq]; exact hR.bq r13.2 r13.1⟩)
            | (have hq : fSheet w z n a1 a2 a3 = (-1000001, w, z, n) := by
                 unfold fSheet
                 rw [if_neg h1, if_neg hb, if_pos hn0, if_neg hn4]
               exact ⟨_, _, rfl, rfl, by rw [hq]; exact hR.bq r14.2 r14.1⟩)
            | (have hq : fSheet w z n a1 a2 a3 = (-1000001, w, z, n) := by
                 unfold fSheet
                 rw [if_neg h1, if_neg hb, if_pos hn0, if_neg hn4]
               exact ⟨_, _, rfl, rfl, by rw [hq]; exact hR.bq r15.2 r15.1⟩)
            | (have hq : fSheet w z n a1 a2 a3 = (-1000001, w, z, n) := by
                 unfold fSheet
                 rw [if_neg h1, if_neg hb, if_pos hn0, if_neg hn4]
               exact ⟨_, _, rfl, rfl, by rw [hq]; exact hR.bq r16.2 r16.1⟩)
            | (have hq : fSheet w z n a1 a2 a3 = (-1000001, w, z, n) := by
                 unfold fSheet
                 rw [if_neg h1, if_neg hb, if_pos hn0, if_neg hn4]
               exact ⟨_, _, rfl, rfl, by rw [hq]; exact hR.bq r17.2 r17.1⟩)
            | (have hq : fSheet w z n a1 a2 a3 = (-1000001, w, z, n) := by
                 unfold fSheet
                 rw [if_neg h1, if_neg hb, if_pos hn0, if_neg hn4]
               exact ⟨_, _, rfl, rfl, by rw [hq]; exact hR.bq r18.2 r18.1⟩)
            | (have hq : fSheet w z n a1 a2 a3 = (-1000001, w, z, n) := by
                 unfold fSheet
                 rw [if_neg h1, if_neg hb, if_pos hn0, if_neg hn4]
               exact ⟨_, _, rfl, rfl, by rw [hq]; exact hR.bq r19.2 r19.1⟩)
            | (have hq : fSheet w z n a1 a2 a3 = (-1000001, w, z, n) := by
                 unfold fSheet
                 rw [if_neg h1, if_neg hb, if_pos hn0, if_neg hn4]
               exact ⟨_, _, rfl, rfl, by rw [hq]; exact hR.bq r20.2 r20.1⟩)
            | (have hq : fSheet w z n a1 a2 a3 = (-1000001, w, z, n) := by
                 unfold fSheet
                 rw [if_neg h1, if_neg hb, if_pos hn0, if_neg hn4]
               exact ⟨_, _, rfl, rfl, by rw [hq]; exact hR.bq r21.2 r21.1⟩)
            | (have hq : fSheet w z n a1 a2 a3 = (-1000001, w, z, n) := by
                 unfold fSheet
                 rw [if_neg h1, if_neg hb, if_pos hn0, if_neg hn4]
               exact ⟨_, _, rfl, rfl, by rw [hq]; exact hR.bq r22.2 r22.1⟩)
            | (have hq : fSheet w z n a1 a2 a3 = (-1000001, w, z, n) := by
                 unfold fSheet
                 rw [if_neg h1, if_neg hb, if_pos hn0, if_neg hn4]
               exact ⟨_, _, rfl, rfl, by rw [hq]; exact hR.bq r23.2 r23.1⟩)
            | (have hq : fSheet w z n a1 a2 a3 = (-1000001, w, z, n) := by
                 unfold fSheet
                 rw [if_neg h1, if_neg hb, if_pos hn0, if_neg hn4]
               exact ⟨_, _, rfl, rfl, by rw [hq]; exact hR.bq r24.2 r24.1⟩)
            | (have hq : fSheet w z n a1 a2 a3 = (-1000001, w, z, n) := by
                 unfold fSheet
                 rw [if_neg h1, if_neg hb, if_pos hn0, if_neg hn4]
               exact ⟨_, _, rfl, rfl, by rw [hq]; exact hR.bq r25.2 r25.1⟩)
            | (have hq : fSheet w z n a1 a2 a3 = (-1000001, w, z, n) := by
                 unfold fSheet
                 rw [if_neg h1, if_neg hb, if_pos hn0, if_neg hn4]
               exact ⟨_, _, rfl, rfl, by rw [hq]; exact hR.bq r26.2 r26.1⟩)
            | (have hq : fSheet w z n a1 a2 a3 = (-1000001, w, z, n) := by
                 unfold fSheet
                 rw [if_neg h1, if_neg hb, if_pos hn0, if_neg hn4]
               exact ⟨_, _, rfl, rfl, by rw [hq]; exact hR.bq r27.2 r27.1⟩)
            | (have hq : fSheet w z n a1 a2 a3 = (-1000001, w, z, n) := by
                 unfold fSheet
                 rw [if_neg h1, if_neg hb, if_pos hn0, if_neg hn4]
               exact ⟨_, _, rfl, rfl, by rw [hq]; exact hR.bq r28.2 r28.1⟩)
            | (have hq : fSheet w z n a1 a2 a3 = (-1000001, w, z, n) := by
                 unfold fSheet
                 rw [if_neg h1, if_neg hb, if_pos hn0, if_neg hn4]
               exact ⟨_, _, rfl, rfl, by rw [hq]; exact hR.bq r29.2 r29.1⟩)
            | (have hq : fSheet w z n a1 a2 a3 = (-1000001, w, z, n) := by
                 unfold fSheet
                 rw [if_neg h1, if_neg hb, if_pos hn0, if_neg hn4]
               exact ⟨_, _, rfl, rfl, by rw [hq]; exact hR.bq r30.2 r30.1⟩)
            | (have hq : fSheet w z n a1 a2 a3 = (-1000001, w, z, n) := by
                 unfold fSheet
                 rw [if_neg h1, if_neg hb, if_pos hn0, if_neg hn4]
               exact ⟨_, _, rfl, rfl, by rw [hq]; exact hR.bq r31.2 r31.1⟩)
            | (have hq : fSheet w z n a1 a2 a3 = (-1000001, w, z, n) := by
                 unfold fSheet
                 rw [if_neg h1, if_neg hb, if_pos hn0, if_neg hn4]
               exact ⟨_, _, rfl, rfl, by rw [hq]; exact hR.bq r32.2 r32.1⟩)
            | (have hq : fSheet w z n a1 a2 a3 = (-1000001, w, z, n) := by
                 unfold fSheet
                 rw [if_neg h1, if_neg hb, if_pos hn0, if_neg hn4]
               exact ⟨_, _, rfl, rfl, by rw [hq]; exact hR.bq r33.2 r33.1⟩)
            | (have hq : fSheet w z n a1 a2 a3 = (-1000001, w, z, n) := by
                 unfold fSheet
                 rw [if_neg h1, if_neg hb, if_pos hn0, if_neg hn4]
               exact ⟨_, _, rfl, rfl, by rw [hq]; exact hR.bq r34.2 r34.1⟩)
            | (have hq : fSheet w z n a1 a2 a3 = (-1000001, w, z, n) := by
                 unfold fSheet
                 rw [if_neg h1, if_neg hb, if_pos hn0, if_neg hn4]
               exact ⟨_, _, rfl, rfl, by rw [hq]; exact hR.bq r35.2 r35.1⟩)
            | (have hq : fSheet w z n a1 a2 a3 = (-1000001, w, z, n) := by
                 unfold fSheet
                 rw [if_neg h1, if_neg hb, if_pos hn0, if_neg hn4]
               exact ⟨_, _, rfl, rfl, by rw [hq]; exact hR.bq r36.2 r36.1⟩)
            | (have hq : fSheet w z n a1 a2 a3 = (-1000001, w, z, n) := by
                 unfold fSheet
                 rw [if_neg h1, if_neg hb, if_pos hn0, if_neg hn4]
               exact ⟨_, _, rfl, rfl, by rw [hq]; exact hR.bq r37.2 r37.1⟩)
            | (have hq : fSheet w z n a1 a2 a3 = (-1000001, w, z, n) := by
                 unfold fSheet
                 rw [if_neg h1, if_neg hb, if_pos hn0, if_neg hn4]
               exact ⟨_, _, rfl, rfl, by rw [hq]; exact hR.bq r38.2 r38.1⟩)
            | (have hq : fSheet w z n a1 a2 a3 = (-1000001, w, z, n) := by
                 unfold fSheet
                 rw [if_neg h1, if_neg hb, if_pos hn0, if_neg hn4]
               exact ⟨_, _, rfl, rfl, by rw [hq]; exact hR.bq r39.2 r39.1⟩)
      · have hn0 := h4
        refine x_aload_n hm rfl rfl ?_
        refine x_ldcI hm rfl (v := (-1000007 : Int32)) (by decide +kernel) ?_
        refine x_cVi hm rfl rfl (t7 (by decide +kernel)) (fun v7 M7 r7 => ?_)
        refine x_iret hm rfl rfl (by first | rfl | exact bI_nar | decide) ?_
        first
          | (have hq : fSheet w z n a1 a2 a3 = (-1000007, w, z, n) := by
               unfold fSheet
               rw [if_neg h1, if_neg hb, if_neg hn0]
             exact ⟨_, _, rfl, rfl, by rw [hq]; exact hR.bq r7.2 r7.1⟩)
          | (have hq : fSheet w z n a1 a2 a3 = (-1000007, w, z, n) := by
               unfold fSheet
               rw [if_neg h1, if_neg hb, if_neg hn0]
             exact ⟨_, _, rfl, rfl, by rw [hq]; exact hR.bq r1.2 r1.1⟩)
          | (have hq : fSheet w z n a1 a2 a3 = (-1000007, w, z, n) := by
               unfold fSheet
               rw [if_neg h1, if_neg hb, if_neg hn0]
             exact ⟨_, _, rfl, rfl, by rw [hq]; exact hR.bq r2.2 r2.1⟩)
          | (have hq : fSheet w z n a1 a2 a3 = (-1000007, w, z, n) := by
               unfold fSheet
               rw [if_neg h1, if_neg hb, if_neg hn0]
             exact ⟨_, _, rfl, rfl, by rw [hq]; exact hR.bq r3.2 r3.1⟩)
          | (have hq : fSheet w z n a1 a2 a3 = (-1000007, w, z, n) := by
               unfold fSheet
               rw [if_neg h1, if_neg hb, if_neg hn0]
             exact ⟨_, _, rfl, rfl, by rw [hq]; exact hR.bq r4.2 r4.1⟩)
          | (have hq : fSheet w z n a1 a2 a3 = (-1000007, w, z, n) := by
               unfold fSheet
               rw [if_neg h1, if_neg hb, if_neg hn0]
             exact ⟨_, _, rfl, rfl, by rw [hq]; exact hR.bq r5.2 r5.1⟩)
          | (have hq : fSheet w z n a1 a2 a3 = (-1000007, w, z, n) := by
               unfold fSheet
               rw [if_neg h1, if_neg hb, if_neg hn0]
             exact ⟨_, _, rfl, rfl, by rw [hq]; exact hR.bq r6.2 r6.1⟩)
          | (have hq : fSheet w z n a1 a2 a3 = (-1000007, w, z, n) := by
               unfold fSheet
               rw [if_neg h1, if_neg hb, if_neg hn0]
             exact ⟨_, _, rfl, rfl, by rw [hq]; exact hR.bq r8.2 r8.1⟩)
          | (have hq : fSheet w z n a1 a2 a3 = (-1000007, w, z, n) := by
               unfold fSheet
               rw [if_neg h1, if_neg hb, if_neg hn0]
             exact ⟨_, _, rfl, rfl, by rw [hq]; exact hR.bq r9.2 r9.1⟩)
          | (have hq : fSheet w z n a1 a2 a3 = (-1000007, w, z, n) := by
               unfold fSheet
               rw [if_neg h1, if_neg hb, if_neg hn0]
             exact ⟨_, _, rfl, rfl, by rw [hq]; exact hR.bq r10.2 r10.1⟩)
          | (have hq : fSheet w z n a1 a2 a3 = (-1000007, w, z, n) := by
               unfold fSheet
               rw [if_neg h1, if_neg hb, if_neg hn0]
             exact ⟨_, _, rfl, rfl, by rw [hq]; exact hR.bq r11.2 r11.1⟩)
          | (have hq : fSheet w z n a1 a2 a3 = (-1000007, w, z, n) := by
               unfold fSheet
               rw [if_neg h1, if_neg hb, if_neg hn0]
             exact ⟨_, _, rfl, rfl, by rw [hq]; exact hR.bq r12.2 r12.1⟩)
          | (have hq : fSheet w z n a1 a2 a3 = (-1000007, w, z, n) := by
               unfold fSheet
               rw [if_neg h1, if_neg hb, if_neg hn0]
             exact ⟨_, _, rfl, rfl, by rw [hq]; exact hR.bq r13.2 r13.1⟩)
          | (have hq : fSheet w z n a1 a2 a3 = (-1000007, w, z, n) := by
               unfold fSheet
               rw [if_neg h1, if_neg hb, if_neg hn0]
             exact ⟨_, _, rfl, rfl, by rw [hq]; exact hR.bq r14.2 r14.1⟩)
          | (have hq : fSheet w z n a1 a2 a3 = (-1000007, w, z, n) := by
               unfold fSheet
               rw [if_neg h1, if_neg hb, if_neg hn0]
             exact ⟨_, _, rfl, rfl, by rw [hq]; exact hR.bq r15.2 r15.1⟩)
          | (have hq : fSheet w z n a1 a2 a3 = (-1000007, w, z, n) := by
               unfold fSheet
               rw [if_neg h1, if_neg hb, if_neg hn0]
             exact ⟨_, _, rfl, rfl, by rw [hq]; exact hR.bq r16.2 r16.1⟩)
          | (have hq : fSheet w z n a1 a2 a3 = (-1000007, w, z, n) := by
               unfold fSheet
               rw [if_neg h1, if_neg hb, if_neg hn0]
             exact ⟨_, _, rfl, rfl, by rw [hq]; exact hR.bq r17.2 r17.1⟩)
          | (have hq : fSheet w z n a1 a2 a3 = (-1000007, w, z, n) := by
               unfold fSheet
               rw [if_neg h1, if_neg hb, if_neg hn0]
             exact ⟨_, _, rfl, rfl, by rw [hq]; exact hR.bq r18.2 r18.1⟩)
          | (have hq : fSheet w z n a1 a2 a3 = (-1000007, w, z, n) := by
               unfold fSheet
               rw [if_neg h1, if_neg hb, if_neg hn0]
             exact ⟨_, _, rfl, rfl, by rw [hq]; exact hR.bq r19.2 r19.1⟩)
          | (have hq : fSheet w z n a1 a2 a3 = (-1000007, w, z, n) := by
               unfold fSheet
               rw [if_neg h1, if_neg hb, if_neg hn0]
             exact ⟨_, _, rfl, rfl, by rw [hq]; exact hR.bq r20.2 r20.1⟩)
          | (have hq : fSheet w z n a1 a2 a3 = (-1000007, w, z, n) := by
               unfold fSheet
               rw [if_neg h1, if_neg hb, if_neg hn0]
             exact ⟨_, _, rfl, rfl, by rw [hq]; exact hR.bq r21.2 r21.1⟩)
          | (have hq : fSheet w z n a1 a2 a3 = (-1000007, w, z, n) := by
               unfold fSheet
               rw [if_neg h1, if_neg hb, if_neg hn0]
             exact ⟨_, _, rfl, rfl, by rw [hq]; exact hR.bq r22.2 r22.1⟩)
          | (have hq : fSheet w z n a1 a2 a3 = (-1000007, w, z, n) := by
               unfold fSheet
               rw [if_neg h1, if_neg hb, if_neg hn0]
             exact ⟨_, _, rfl, rfl, by rw [hq]; exact hR.bq r23.2 r23.1⟩)
          | (have hq : fSheet w z n a1 a2 a3 = (-1000007, w, z, n) := by
               unfold fSheet
               rw [if_neg h1, if_neg hb, if_neg hn0]
             exact ⟨_, _, rfl, rfl, by rw [hq]; exact hR.bq r24.2 r24.1⟩)
          | (have hq : fSheet w z n a1 a2 a3 = (-1000007, w, z, n) := by
               unfold fSheet
               rw [if_neg h1, if_neg hb, if_neg hn0]
             exact ⟨_, _, rfl, rfl, by rw [hq]; exact hR.bq r25.2 r25.1⟩)
          | (have hq : fSheet w z n a1 a2 a3 = (-1000007, w, z, n) := by
               unfold fSheet
               rw [if_neg h1, if_neg hb, if_neg hn0]
             exact ⟨_, _, rfl, rfl, by rw [hq]; exact hR.bq r26.2 r26.1⟩)
          | (have hq : fSheet w z n a1 a2 a3 = (-1000007, w, z, n) := by
               unfold fSheet
               rw [if_neg h1, if_neg hb, if_neg hn0]
             exact ⟨_, _, rfl, rfl, by rw [hq]; exact hR.bq r27.2 r27.1⟩)
          | (have hq : fSheet w z n a1 a2 a3 = (-1000007, w, z, n) := by
               unfold fSheet
               rw [if_neg h1, if_neg hb, if_neg hn0]
             exact ⟨_, _, rfl, rfl, by rw [hq]; exact hR.bq r28.2 r28.1⟩)
          | (have hq : fSheet w z n a1 a2 a3 = (-1000007, w, z, n) := by
               unfold fSheet
               rw [if_neg h1, if_neg hb, if_neg hn0]
             exact ⟨_, _, rfl, rfl, by rw [hq]; exact hR.bq r29.2 r29.1⟩)
          | (have hq : fSheet w z n a1 a2 a3 = (-1000007, w, z, n) := by
               unfold fSheet
               rw [if_neg h1, if_neg hb, if_neg hn0]
             exact ⟨_, _, rfl, rfl, by rw [hq]; exact hR.bq r30.2 r30.1⟩)
          | (have hq : fSheet w z n a1 a2 a3 = (-1000007, w, z, n) := by
               unfold fSheet
               rw [if_neg h1, if_neg hb, if_neg hn0]
             exact ⟨_, _, rfl, rfl, by rw [hq]; exact hR.bq r31.2 r31.1⟩)
          | (have hq : fSheet w z n a1 a2 a3 = (-1000007, w, z, n) := by
               unfold fSheet
               rw [if_neg h1, if_neg hb, if_neg hn0]
             exact ⟨_, _, rfl, rfl, by rw [hq]; exact hR.bq r32.2 r32.1⟩)
          | (have hq : fSheet w z n a1 a2 a3 = (-1000007, w, z, n) := by
               unfold fSheet
               rw [if_neg h1, if_neg hb, if_neg hn0]
             exact ⟨_, _, rfl, rfl, by rw [hq]; exact hR.bq r33.2 r33.1⟩)
          | (have hq : fSheet w z n a1 a2 a3 = (-1000007, w, z, n) := by
               unfold fSheet
               rw [if_neg h1, if_neg hb, if_neg hn0]
             exact ⟨_, _, rfl, rfl, by rw [hq]; exact hR.bq r34.2 r34.1⟩)
          | (have hq : fSheet w z n a1 a2 a3 = (-1000007, w, z, n) := by
               unfold fSheet
               rw [if_neg h1, if_neg hb, if_neg hn0]
             exact ⟨_, _, rfl, rfl, by rw [hq]; exact hR.bq r35.2 r35.1⟩)
          | (have hq : fSheet w z n a1 a2 a3 = (-1000007, w, z, n) := by
               unfold fSheet
               rw [if_neg h1, if_neg hb, if_neg hn0]
             exact ⟨_, _, rfl, rfl, by rw [hq]; exact hR.bq r36.2 r36.1⟩)
          | (have hq : fSheet w z n a1 a2 a3 = (-1000007, w, z, n) := by
               unfold fSheet
               rw [if_neg h1, if_neg hb, if_neg hn0]
             exact ⟨_, _, rfl, rfl, by rw [hq]; exact hR.bq r37.2 r37.1⟩)
          | (have hq : fSheet w z n a1 a2 a3 = (-1000007, w, z, n) := by
               unfold fSheet
               rw [if_neg h1, if_neg hb, if_neg hn0]
             exact ⟨_, _, rfl, rfl, by rw [hq]; exact hR.bq r38.2 r38.1⟩)
          | (have hq : fSheet w z n a1 a2 a3 = (-1000007, w, z, n) := by
               unfold fSheet
               rw [if_neg h1, if_neg hb, if_neg hn0]
             exact ⟨_, _, rfl, rfl, by rw [hq]; exact hR.bq r39.2 r39.1⟩)
    · refine x_iload_n hm rfl rfl ?_
      refine x_bipush hm rfl (v := nI 8) (by decide) ?_
      refine x_icmp_eq hm rfl (t := 36) rfl (fun h8 => ?_) (fun h8 => ?_)
      · have hb := okb_t (Or.inr (Or.inl h8))
        refine x_iload_n hm rfl rfl ?_
        refine x_if_ge hm rfl (t := 47) rfl (fun h9 => ?_) (fun h9 => ?_)
        · have hn0 := h9
          refine x_iload_n hm rfl rfl ?_
          refine x_bipush hm rfl (v := nI 40) (by decide) ?_
          refine x_icmp_le hm rfl (t := 60) rfl (fun h10 => ?_) (fun h10 => ?_)
          · have hn4 := h10
            obtain ⟨s, hs, hs3⟩ := le_k (by omega) (bI_ne0 h1)
            subst hs3
            have hq : fSheet w z n (nI s) a2 a3 = ((if a2 = 0 then nI 0 else a3), put1 w s a2, put1 z s (if a2 = 0 then nI 0 else a3), clr n s) := by
              unfold fSheet
              rw [if_neg h1, if_neg hb, if_pos hn0, if_pos hn4, jI_nat (by omega)]
            rw [hq]
            exact g116e hR hs
          · have hn4 := h10
            refine x_aload_n hm rfl rfl ?_
            refine x_ldcI hm rfl (v := (-1000001 : Int32)) (by decide +kernel) ?_
            refine x_cVi hm rfl rfl (t7 (by decide +kernel)) (fun v11 M11 r11 => ?_)
            refine x_iret hm rfl rfl (by first | rfl | exact bI_nar | decide) ?_
            first
              | (have hq : fSheet w z n a1 a2 a3 = (-1000001, w, z, n) := by
                   unfold fSheet
                   rw [if_neg h1, if_neg hb, if_pos hn0, if_neg hn4]
                 exact ⟨_, _, rfl, rfl, by rw [hq]; exact hR.bq r11.2 r11.1⟩)
              | (have hq : fSheet w z n a1 a2 a3 = (-1000001, w, z, n) := by
                   unfold fSheet
                   rw [if_neg h1, if_neg hb, if_pos hn0, if_neg hn4]
                 exact ⟨_, _, rfl, rfl, by rw [hq]; exact hR.bq r1.2 r1.1⟩)
              | (have hq : fSheet w z n a1 a2 a3 = (-1000001, w, z, n) := by
                   unfold fSheet
                   rw [if_neg h1, if_neg hb, if_pos hn0, if_neg hn4]
                 exact ⟨_, _, rfl, rfl, by rw [hq]; exact hR.bq r2.2 r2.1⟩)
              | (have hq : fSheet w z n a1 a2 a3 = (-1000001, w, z, n) := by
                   unfold fSheet
                   rw [if_neg h1, if_neg hb, if_pos hn0, if_neg hn4]
                 exact ⟨_, _, rfl, rfl, by rw [hq]; exact hR.bq r3.2 r3.1⟩)
              | (have hq : fSheet w z n a1 a2 a3 = (-1000001, w, z, n) := by
                   unfold fSheet
                   rw [if_neg h1, if_neg hb, if_pos hn0, if_neg hn4]
                 exact ⟨_, _, rfl, rfl, by rw [hq]; exact hR.bq r4.2 r4.1⟩)
              | (have hq : fSheet w z n a1 a2 a3 = (-1000001, w, z, n) := by
                   unfold fSheet
                   rw [if_neg h1, if_neg hb, if_pos hn0, if_neg hn4]
                 exact ⟨_, _, rfl, rfl, by rw [hq]; exact hR.bq r5.2 r5.1⟩)
              | (have hq : fSheet w z n a1 a2 a3 = (-1000001, w, z, n) := by
                   unfold fSheet
                   rw [if_neg h1, if_neg hb, if_pos hn0, if_neg hn4]
                 exact ⟨_, _, rfl, rfl, by rw [hq]; exact hR.bq r6.2 r6.1⟩)
              | (have hq : fSheet w z n a1 a2 a3 = (-1000001, w, z, n) := by
                   unfold fSheet
                   rw [if_neg h1, if_neg hb, if_pos hn0, if_neg hn4]
                 exact ⟨_, _, rfl, rfl, by rw [hq]; exact hR.bq r7.2 r7.1⟩)
              | (have hq : fSheet w z n a1 a2 a3 = (-1000001, w, z, n) := by
                   unfold fSheet
                   rw [if_neg h1, if_neg hb, if_pos hn0, if_neg hn4]
                 exact ⟨_, _, rfl, rfl, by rw [hq]; exact hR.bq r8.2 r8.1⟩)
              | (have hq : fSheet w z n a1 a2 a3 = (-1000001, w, z, n) := by
                   unfold fSheet
                   rw [if_neg h1, if_neg hb, if_pos hn0, if_neg hn4]
                 exact ⟨_, _, rfl, rfl, by rw [hq]; exact hR.bq r9.2 r9.1⟩)
              | (have hq : fSheet w z n a1 a2 a3 = (-1000001, w, z, n) := by
                   unfold fSheet
                   rw [if_neg h1, if_neg hb, if_pos hn0, if_neg hn4]
                 exact ⟨_, _, rfl, rfl, by rw [hq]; exact hR.bq r10.2 r10.1⟩)
              | (have hq : fSheet w z n a1 a2 a3 = (-1000001, w, z, n) := by
                   unfold fSheet
                   rw [if_neg h1, if_neg hb, if_pos hn0, if_neg hn4]
                 exact ⟨_, _, rfl, rfl, by rw [hq]; exact hR.bq r12.2 r12.1⟩)
              | (have hq : fSheet w z n a1 a2 a3 = (-1000001, w, z, n) := by
                   unfold fSheet
                   rw [if_neg h1, if_neg hb, if_pos hn0, if_neg hn4]
                 exact ⟨_, _, rfl, rfl, by rw [hq]; exact hR.bq r13.2 r13.1⟩)
              | (have hq : fSheet w z n a1 a2 a3 = (-1000001, w, z, n) := by
                   unfold fSheet
                   rw [if_neg h1, if_neg hb, if_pos hn0, if_neg hn4]
                 exact ⟨_, _, rfl, rfl, by rw [hq]; exact hR.bq r14.2 r14.1⟩)
              | (have hq : fSheet w z n a1 a2 a3 = (-1000001, w, z, n) := by
                   unfold fSheet
                   rw [if_neg h1, if_neg hb, if_pos hn0, if_neg hn4]
                 exact ⟨_, _, rfl, rfl, by rw [hq]; exact hR.bq r15.2 r15.1⟩)
              | (have hq : fSheet w z n a1 a2 a3 = (-1000001, w, z, n) := by
                   unfold fSheet
                   rw [if_neg h1, if_neg hb, if_pos hn0, if_neg hn4]
                 exact ⟨_, _, rfl, rfl, by rw [hq]; exact hR.bq r16.2 r16.1⟩)
              | (have hq : fSheet w z n a1 a2 a3 = (-1000001, w, z, n) := by
                   unfold fSheet
                   rw [if_neg h1, if_neg hb, if_pos hn0, if_neg hn4]
                 exact ⟨_, _, rfl, rfl, by rw [hq]; exact hR.bq r17.2 r17.1⟩)
              | (have hq : fSheet w z n a1 a2 a3 = (-1000001, w, z, n) := by
                   unfold fSheet
                   rw [if_neg h1, if_neg hb, if_pos hn0, if_neg hn4]
                 exact ⟨_, _, rfl, rfl, by rw [hq]; exact hR.bq r18.2 r18.1⟩)
              | (have hq : fSheet w z n a1 a2 a3 = (-1000001, w, z, n) := by
                   unfold fSheet
                   rw [if_neg h1, if_neg hb, if_pos hn0, if_neg hn4]
                 exact ⟨_, _, rfl, rfl, by rw [hq]; exact hR.bq r19.2 r19.1⟩)
              | (have hq : fSheet w z n a1 a2 a3 = (-1000001, w, z, n) := by
                   unfold fSheet
                   rw [if_neg h1, if_neg hb, if_pos hn0, if_neg hn4]
                 exact ⟨_, _, rfl, rfl, by rw [hq]; exact hR.bq r20.2 r20.1⟩)
              | (have hq : fSheet w z n a1 a2 a3 = (-1000001, w, z, n) := by
                   unfold fSheet
                   rw [if_neg h1, if_neg hb, if_pos hn0, if_neg hn4]
                 exact ⟨_, _, rfl, rfl, by rw [hq]; exact hR.bq r21.2 r21.1⟩)
              | (have hq : fSheet w z n a1 a2 a3 = (-1000001, w, z, n) := by
                   unfold fSheet
                   rw [if_neg h1, if_neg hb, if_pos hn0, if_neg hn4]
                 exact ⟨_, _, rfl, rfl, by rw [hq]; exact hR.bq r22.2 r22.1⟩)
              | (have hq : fSheet w z n a1 a2 a3 = (-1000001, w, z, n) := by
                   unfold fSheet
                   rw [if_neg h1, if_neg hb, if_pos hn0, if_neg hn4]
                 exact ⟨_, _, rfl, rfl, by rw [hq]; exact hR.bq r23.2 r23.1⟩)
              | (have hq : fSheet w z n a1 a2 a3 = (-1000001, w, z, n) := by
                   unfold fSheet
                   rw [if_neg h1, if_neg hb, if_pos hn0, if_neg hn4]
                 exact ⟨_, _, rfl, rfl, by rw [hq]; exact hR.bq r24.2 r24.1⟩)
              | (have hq : fSheet w z n a1 a2 a3 = (-1000001, w, z, n) := by
                   unfold fSheet
                   rw [if_neg h1, if_neg hb, if_pos hn0, if_neg hn4]
                 exact ⟨_, _, rfl, rfl, by rw [hq]; exact hR.bq r25.2 r25.1⟩)
              | (have hq : fSheet w z n a1 a2 a3 = (-1000001, w, z, n) := by
                   unfold fSheet
                   rw [if_neg h1, if_neg hb, if_pos hn0, if_neg hn4]
                 exact ⟨_, _, rfl, rfl, by rw [hq]; exact hR.bq r26.2 r26.1⟩)
              | (have hq : fSheet w z n a1 a2 a3 = (-1000001, w, z, n) := by
                   unfold fSheet
                   rw [if_neg h1, if_neg hb, if_pos hn0, if_neg hn4]
                 exact ⟨_, _, rfl, rfl, by rw [hq]; exact hR.bq r27.2 r27.1⟩)
              | (have hq : fSheet w z n a1 a2 a3 = (-1000001, w, z, n) := by
                   unfold fSheet
                   rw [if_neg h1, if_neg hb, if_pos hn0, if_neg hn4]
                 exact ⟨_, _, rfl, rfl, by rw [hq]; exact hR.bq r28.2 r28.1⟩)
              | (have hq : fSheet w z n a1 a2 a3 = (-1000001, w, z, n) := by
                   unfold fSheet
                   rw [if_neg h1, if_neg hb, if_pos hn0, if_neg hn4]
                 exact ⟨_, _, rfl, rfl, by rw [hq]; exact hR.bq r29.2 r29.1⟩)
              | (have hq : fSheet w z n a1 a2 a3 = (-1000001, w, z, n) := by
                   unfold fSheet
                   rw [if_neg h1, if_neg hb, if_pos hn0, if_neg hn4]
                 exact ⟨_, _, rfl, rfl, by rw [hq]; exact hR.bq r30.2 r30.1⟩)
              | (have hq : fSheet w z n a1 a2 a3 = (-1000001, w, z, n) := by
                   unfold fSheet
                   rw [if_neg h1, if_neg hb, if_pos hn0, if_neg hn4]
                 exact ⟨_, _, rfl, rfl, by rw [hq]; exact hR.bq r31.2 r31.1⟩)
              | (have hq : fSheet w z n a1 a2 a3 = (-1000001, w, z, n) := by
                   unfold fSheet
                   rw [if_neg h1, if_neg hb, if_pos hn0, if_neg hn4]
                 exact ⟨_, _, rfl, rfl, by rw [hq]; exact hR.bq r32.2 r32.1⟩)
              | (have hq : fSheet w z n a1 a2 a3 = (-1000001, w, z, n) := by
                   unfold fSheet
                   rw [if_neg h1, if_neg hb, if_pos hn0, if_neg hn4]
                 exact ⟨_, _, rfl, rfl, by rw [hq]; exact hR.bq r33.2 r33.1⟩)
              | (have hq : fSheet w z n a1 a2 a3 = (-1000001, w, z, n) := by
                   unfold fSheet
                   rw [if_neg h1, if_neg hb, if_pos hn0, if_neg hn4]
                 exact ⟨_, _, rfl, rfl, by rw [hq]; exact hR.bq r34.2 r34.1⟩)
              | (have hq : fSheet w z n a1 a2 a3 = (-1000001, w, z, n) := by
                   unfold fSheet
                   rw [if_neg h1, if_neg hb, if_pos hn0, if_neg hn4]
                 exact ⟨_, _, rfl, rfl, by rw [hq]; exact hR.bq r35.2 r35.1⟩)
              | (have hq : fSheet w z n a1 a2 a3 = (-1000001, w, z, n) := by
                   unfold fSheet
                   rw [if_neg h1, if_neg hb, if_pos hn0, if_neg hn4]
                 exact ⟨_, _, rfl, rfl, by rw [hq]; exact hR.bq r36.2 r36.1⟩)
              | (have hq : fSheet w z n a1 a2 a3 = (-1000001, w, z, n) := by
                   unfold fSheet
                   rw [if_neg h1, if_neg hb, if_pos hn0, if_neg hn4]
                 exact ⟨_, _, rfl, rfl, by rw [hq]; exact hR.bq r37.2 r37.1⟩)
              | (have hq : fSheet w z n a1 a2 a3 = (-1000001, w, z, n) := by
                   unfold fSheet
                   rw [if_neg h1, if_neg hb, if_pos hn0, if_neg hn4]
                 exact ⟨_, _, rfl, rfl, by rw [hq]; exact hR.bq r38.2 r38.1⟩)
              | (have hq : fSheet w z n a1 a2 a3 = (-1000001, w, z, n) := by
                   unfold fSheet
                   rw [if_neg h1, if_neg hb, if_pos hn0, if_neg hn4]
                 exact ⟨_, _, rfl, rfl, by rw [hq]; exact hR.bq r39.2 r39.1⟩)
        · have hn0 := h9
          refine x_aload_n hm rfl rfl ?_
          refine x_ldcI hm rfl (v := (-1000007 : Int32)) (by decide +kernel) ?_
          refine x_cVi hm rfl rfl (t7 (by decide +kernel)) (fun v12 M12 r12 => ?_)
          refine x_iret hm rfl rfl (by first | rfl | exact bI_nar | decide) ?_
          first
            | (have hq : fSheet w z n a1 a2 a3 = (-1000007, w, z, n) := by
                 unfold fSheet
                 rw [if_neg h1, if_neg hb, if_neg hn0]
               exact ⟨_, _, rfl, rfl, by rw [hq]; exact hR.bq r12.2 r12.1⟩)
            | (have hq : fSheet w z n a1 a2 a3 = (-1000007, w, z, n) := by
                 unfold fSheet
                 rw [if_neg h1, if_neg hb, if_neg hn0]
               exact ⟨_, _, rfl, rfl, by rw [hq]; exact hR.bq r1.2 r1.1⟩)
            | (have hq : fSheet w z n a1 a2 a3 = (-1000007, w, z, n) := by
                 unfold fSheet
                 rw [if_neg h1, if_neg hb, if_neg hn0]
               exact ⟨_, _, rfl, rfl, by rw [hq]; exact hR.bq r2.2 r2.1⟩)
            | (have hq : fSheet w z n a1 a2 a3 = (-1000007, w, z, n) := by
                 unfold fSheet
                 rw [if_neg h1, if_neg hb, if_neg hn0]
               exact ⟨_, _, rfl, rfl, by rw [hq]; exact hR.bq r3.2 r3.1⟩)
            | (have hq : fSheet w z n a1 a2 a3 = (-1000007, w, z, n) := by
                 unfold fSheet
                 rw [if_neg h1, if_neg hb, if_neg hn0]
               exact ⟨_, _, rfl, rfl, by rw [hq]; exact hR.bq r4.2 r4.1⟩)
            | (have hq : fSheet w z n a1 a2 a3 = (-1000007, w, z, n) := by
                 unfold fSheet
                 rw [if_neg h1, if_neg hb, if_neg hn0]
               exact ⟨_, _, rfl, rfl, by rw [hq]; exact hR.bq r5.2 r5.1⟩)
            | (have hq : fSheet w z n a1 a2 a3 = (-1000007, w, z, n) := by
                 unfold fSheet
                 rw [if_neg h1, if_neg hb, if_neg hn0]
               exact ⟨_, _, rfl, rfl, by rw [hq]; exact hR.bq r6.2 r6.1⟩)
            | (have hq : fSheet w z n a1 a2 a3 = (-1000007, w, z, n) := by
                 unfold fSheet
                 rw [if_neg h1, if_neg hb, if_neg hn0]
               exact ⟨_, _, rfl, rfl, by rw [hq]; exact hR.bq r7.2 r7.1⟩)
            | (have hq : fSheet w z n a1 a2 a3 = (-1000007, w, z, n) := by
                 unfold fSheet
                 rw [if_neg h1, if_neg hb, if_neg hn0]
               exact ⟨_, _, rfl, rfl, by rw [hq]; exact hR.bq r8.2 r8.1⟩)
            | (have hq : fSheet w z n a1 a2 a3 = (-1000007, w, z, n) := by
                 unfold fSheet
                 rw [if_neg h1, if_neg hb, if_neg hn0]
               exact ⟨_, _, rfl, rfl, by rw [hq]; exact hR.bq r9.2 r9.1⟩)
            | (have hq : fSheet w z n a1 a2 a3 = (-1000007, w, z, n) := by
                 unfold fSheet
                 rw [if_neg h1, if_neg hb, if_neg hn0]
               exact ⟨_, _, rfl, rfl, by rw [hq]; exact hR.bq r10.2 r10.1⟩)
            | (have hq : fSheet w z n a1 a2 a3 = (-1000007, w, z, n) := by
                 unfold fSheet
                 rw [if_neg h1, if_neg hb, if_neg hn0]
               exact ⟨_, _, rfl, rfl, by rw [hq]; exact hR.bq r11.2 r11.1⟩)
            | (have hq : fSheet w z n a1 a2 a3 = (-1000007, w, z, n) := by
                 unfold fSheet
                 rw [if_neg h1, if_neg hb, if_neg hn0]
               exact ⟨_, _, rfl, rfl, by rw [hq]; exact hR.bq r13.2 r13.1⟩)
            | (have hq : fSheet w z n a1 a2 a3 = (-1000007, w, z, n) := by
                 unfold fSheet
                 rw [if_neg h1, if_neg hb, if_neg hn0]
               exact ⟨_, _, rfl, rfl, by rw [hq]; exact hR.bq r14.2 r14.1⟩)
            | (have hq : fSheet w z n a1 a2 a3 = (-1000007, w, z, n) := by
                 unfold fSheet
                 rw [if_neg h1, if_neg hb, if_neg hn0]
               exact ⟨_, _, rfl, rfl, by rw [hq]; exact hR.bq r15.2 r15.1⟩)
            | (have hq : fSheet w z n a1 a2 a3 = (-1000007, w, z, n) := by
                 unfold fSheet
                 rw [if_neg h1, if_neg hb, if_neg hn0]
               exact ⟨_, _, rfl, rfl, by rw [hq]; exact hR.bq r16.2 r16.1⟩)
            | (have hq : fSheet w z n a1 a2 a3 = (-1000007, w, z, n) := by
                 unfold fSheet
                 rw [if_neg h1, if_neg hb, if_neg hn0]
               exact ⟨_, _, rfl, rfl, by rw [hq]; exact hR.bq r17.2 r17.1⟩)
            | (have hq : fSheet w z n a1 a2 a3 = (-1000007, w, z, n) := by
                 unfold fSheet
                 rw [if_neg h1, if_neg hb, if_neg hn0]
               exact ⟨_, _, rfl, rfl, by rw [hq]; exact hR.bq r18.2 r18.1⟩)
            | (have hq : fSheet w z n a1 a2 a3 = (-1000007, w, z, n) := by
                 unfold fSheet
                 rw [if_neg h1, if_neg hb, if_neg hn0]
               exact ⟨_, _, rfl, rfl, by rw [hq]; exact hR.bq r19.2 r19.1⟩)
            | (have hq : fSheet w z n a1 a2 a3 = (-1000007, w, z, n) := by
                 unfold fSheet
                 rw [if_neg h1, if_neg hb, if_neg hn0]
               exact ⟨_, _, rfl, rfl, by rw [hq]; exact hR.bq r20.2 r20.1⟩)
            | (have hq : fSheet w z n a1 a2 a3 = (-1000007, w, z, n) := by
                 unfold fSheet
                 rw [if_neg h1, if_neg hb, if_neg hn0]
               exact ⟨_, _, rfl, rfl, by rw [hq]; exact hR.bq r21.2 r21.1⟩)
            | (have hq : fSheet w z n a1 a2 a3 = (-1000007, w, z, n) := by
                 unfold fSheet
                 rw [if_neg h1, if_neg hb, if_neg hn0]
               exact ⟨_, _, rfl, rfl, by rw [hq]; exact hR.bq r22.2 r22.1⟩)
            | (have hq : fSheet w z n a1 a2 a3 = (-1000007, w, z, n) := by
                 unfold fSheet
                 rw [if_neg h1, if_neg hb, if_neg hn0]
               exact ⟨_, _, rfl, rfl, by rw [hq]; exact hR.bq r23.2 r23.1⟩)
            | (have hq : fSheet w z n a1 a2 a3 = (-1000007, w, z, n) := by
                 unfold fSheet
                 rw [if_neg h1, if_neg hb, if_neg hn0]
               exact ⟨_, _, rfl, rfl, by rw [hq]; exact hR.bq r24.2 r24.1⟩)
            | (have hq : fSheet w z n a1 a2 a3 = (-1000007, w, z, n) := by
                 unfold fSheet
                 rw [if_neg h1, if_neg hb, if_neg hn0]
               exact ⟨_, _, rfl, rfl, by rw [hq]; exact hR.bq r25.2 r25.1⟩)
            | (have hq : fSheet w z n a1 a2 a3 = (-1000007, w, z, n) := by
                 unfold fSheet
                 rw [if_neg h1, if_neg hb, if_neg hn0]
               exact ⟨_, _, rfl, rfl, by rw [hq]; exact hR.bq r26.2 r26.1⟩)
            | (have hq : fSheet w z n a1 a2 a3 = (-1000007, w, z, n) := by
                 unfold fSheet
                 rw [if_neg h1, if_neg hb, if_neg hn0]
               exact ⟨_, _, rfl, rfl, by rw [hq]; exact hR.bq r27.2 r27.1⟩)
            | (have hq : fSheet w z n a1 a2 a3 = (-1000007, w, z, n) := by
                 unfold fSheet
                 rw [if_neg h1, if_neg hb, if_neg hn0]
               exact ⟨_, _, rfl, rfl, by rw [hq]; exact hR.bq r28.2 r28.1⟩)
            | (have hq : fSheet w z n a1 a2 a3 = (-1000007, w, z, n) := by
                 unfold fSheet
                 rw [if_neg h1, if_neg hb, if_neg hn0]
               exact ⟨_, _, rfl, rfl, by rw [hq]; exact hR.bq r29.2 r29.1⟩)
            | (have hq : fSheet w z n a1 a2 a3 = (-1000007, w, z, n) := by
                 unfold fSheet
                 rw [if_neg h1, if_neg hb, if_neg hn0]
               exact ⟨_, _, rfl, rfl, by rw [hq]; exact hR.bq r30.2 r30.1⟩)
            | (have hq : fSheet w z n a1 a2 a3 = (-1000007, w, z, n) := by
                 unfold fSheet
                 rw [if_neg h1, if_neg hb, if_neg hn0]
               exact ⟨_, _, rfl, rfl, by rw [hq]; exact hR.bq r31.2 r31.1⟩)
            | (have hq : fSheet w z n a1 a2 a3 = (-1000007, w, z, n) := by
                 unfold fSheet
                 rw [if_neg h1, if_neg hb, if_neg hn0]
               exact ⟨_, _, rfl, rfl, by rw [hq]; exact hR.bq r32.2 r32.1⟩)
            | (have hq : fSheet w z n a1 a2 a3 = (-1000007, w, z, n) := by
                 unfold fSheet
                 rw [if_neg h1, if_neg hb, if_neg hn0]
               exact ⟨_, _, rfl, rfl, by rw [hq]; exact hR.bq r33.2 r33.1⟩)
            | (have hq : fSheet w z n a1 a2 a3 = (-1000007, w, z, n) := by
                 unfold fSheet
                 rw [if_neg h1, if_neg hb, if_neg hn0]
               exact ⟨_, _, rfl, rfl, by rw [hq]; exact hR.bq r34.2 r34.1⟩)
            | (have hq : fSheet w z n a1 a2 a3 = (-1000007, w, z, n) := by
                 unfold fSheet
                 rw [if_neg h1, if_neg hb, if_neg hn0]
               exact ⟨_, _, rfl, rfl, by rw [hq]; exact hR.bq r35.2 r35.1⟩)
            | (have hq : fSheet w z n a1 a2 a3 = (-1000007, w, z, n) := by
                 unfold fSheet
                 rw [if_neg h1, if_neg hb, if_neg hn0]
               exact ⟨_, _, rfl, rfl, by rw [hq]; exact hR.bq r36.2 r36.1⟩)
            | (have hq : fSheet w z n a1 a2 a3 = (-1000007, w, z, n) := by
                 unfold fSheet
                 rw [if_neg h1, if_neg hb, if_neg hn0]
               exact ⟨_, _, rfl, rfl, by rw [hq]; exact hR.bq r37.2 r37.1⟩)
            | (have hq : fSheet w z n a1 a2 a3 = (-1000007, w, z, n) := by
                 unfold fSheet
                 rw [if_neg h1, if_neg hb, if_neg hn0]
               exact ⟨_, _, rfl, rfl, by rw [hq]; exact hR.bq r38.2 r38.1⟩)
            | (have hq : fSheet w z n a1 a2 a3 = (-1000007, w, z, n) := by
                 unfold fSheet
                 rw [if_neg h1, if_neg hb, if_neg hn0]
               exact ⟨_, _, rfl, rfl, by rw [hq]; exact hR.bq r39.2 r39.1⟩)
      · refine x_iload_n hm rfl rfl ?_
        refine x_bipush hm rfl (v := nI 16) (by decide) ?_
        refine x_icmp_eq hm rfl (t := 36) rfl (fun h13 => ?_) (fun h13 => ?_)
        · have hb := okb_t (Or.inr (Or.inr (Or.inl h13)))
          refine x_iload_n hm rfl rfl ?_
          refine x_if_ge hm rfl (t := 47) rfl (fun h14 => ?_) (fun h14 => ?_)
          · have hn0 := h14
            refine x_iload_n hm rfl rfl ?_
            refine x_bipush hm rfl (v := nI 40) (by decide) ?_
            refine x_icmp_le hm rfl (t := 60) rfl (fun h15 => ?_) (fun h15 => ?_)
            · have hn4 := h15
              obtain ⟨s, hs, hs3⟩ := le_k (by omega) (bI_ne0 h1)
              subst hs3
              have hq : fSheet w z n (nI s) a2 a3 = ((if a2 = 0 then nI 0 else a3), put1 w s a2, put1 z s (if a2 = 0 then nI 0 else a3), clr n s) := by
                unfold fSheet
                rw [if_neg h1, if_neg hb, if_pos hn0, if_pos hn4, jI_nat (by omega)]
              rw [hq]
              exact g116e hR hs
            · have hn4 := h15
              refine x_aload_n hm rfl rfl ?_
              refine x_ldcI hm rfl (v := (-1000001 : Int32)) (by decide +kernel) ?_
              refine x_cVi hm rfl rfl (t7 (by decide +kernel)) (fun v16 M16 r16 => ?_)
              refine x_iret hm rfl rfl (by first | rfl | exact bI_nar | decide) ?_
              first
                | (have hq : fSheet w z n a1 a2 a3 = (-1000001, w, z, n) := by
                     unfold fSheet
                     rw [if_neg h1, if_neg hb, if_pos hn0, if_neg hn4]
                   exact ⟨_, _, rfl, rfl, by rw [hq]; exact hR.bq r16.2 r16.1⟩)
                | (have hq : fSheet w z n a1 a2 a3 = (-1000001, w, z, n) := by
                     unfold fSheet
                     rw [if_neg h1, if_neg hb, if_pos hn0, if_neg hn4]
                   exact ⟨_, _, rfl, rfl, by rw [hq]; exact hR.bq r1.2 r1.1⟩)
                | (have hq : fSheet w z n a1 a2 a3 = (-1000001, w, z, n) := by
                     unfold fSheet
                     rw [if_neg h1, if_neg hb, if_pos hn0, if_neg hn4]
                   exact ⟨_, _, rfl, rfl, by rw [hq]; exact hR.bq r2.2 r2.1⟩)
                | (have hq : fSheet w z n a1 a2 a3 = (-1000001, w, z, n) := by
                     unfold fSheet
                     rw [if_neg h1, if_neg hb, if_pos hn0, if_neg hn4]
                   exact ⟨_, _, rfl, rfl, by rw [hq]; exact hR.bq r3.2 r3.1⟩)
                | (have hq : fSheet w z n a1 a2 a3 = (-1000001, w, z, n) := by
                     unfold fSheet
                     rw [if_neg h1, if_neg hb, if_pos hn0, if_neg hn4]
                   exact ⟨_, _, rfl, rfl, by rw [hq]; exact hR.bq r4.2 r4.1⟩)
                | (have hq : fSheet w z n a1 a2 a3 = (-1000001, w, z, n) := by
                     unfold fSheet
                     rw [if_neg h1, if_neg hb, if_pos hn0, if_neg hn4]
                   exact ⟨_, _, rfl, rfl, by rw [hq]; exact hR.bq r5.2 r5.1⟩)
                | (have hq : fSheet w z n a1 a2 a3 = (-1000001, w, z, n) := by
                     unfold fSheet
                     rw [if_neg h1, if_neg hb, if_pos hn0, if_neg hn4]
                   exact ⟨_, _, rfl, rfl, by rw [hq]; exact hR.bq r6.2 r6.1⟩)
                | (have hq : fSheet w z n a1 a2 a3 = (-1000001, w, z, n) := by
                     unfold fSheet
                     rw [if_neg h1, if_neg hb, if_pos hn0, if_neg hn4]
                   exact ⟨_, _, rfl, rfl, by rw [hq]; exact hR.bq r7.2 r7.1⟩)
                | (have hq : fSheet w z n a1 a2 a3 = (-1000001, w, z, n) := by
                     unfold fSheet
                     rw [if_neg h1, if_neg hb, if_pos hn0, if_neg hn4]
                   exact ⟨_, _, rfl, rfl, by rw [hq]; exact hR.bq r8.2 r8.1⟩)
                | (have hq : fSheet w z n a1 a2 a3 = (-1000001, w, z, n) := by
                     unfold fSheet
                     rw [if_neg h1, if_neg hb, if_pos hn0, if_neg hn4]
                   exact ⟨_, _, rfl, rfl, by rw [hq]; exact hR.bq r9.2 r9.1⟩)
                | (have hq : fSheet w z n a1 a2 a3 = (-1000001, w, z, n) := by
                     unfold fSheet
                     rw [if_neg h1, if_neg hb, if_pos hn0, if_neg hn4]
                   exact ⟨_, _, rfl, rfl, by rw [hq]; exact hR.bq r10.2 r10.1⟩)
                | (have hq : fSheet w z n a1 a2 a3 = (-1000001, w, z, n) := by
                     unfold fSheet
                     rw [if_neg h1, if_neg hb, if_pos hn0, if_neg hn4]
                   exact ⟨_, _, rfl, rfl, by rw [hq]; exact hR.bq r11.2 r11.1⟩)
                | (have hq : fSheet w z n a1 a2 a3 = (-1000001, w, z, n) := by
                     unfold fSheet
                     rw [if_neg h1, if_neg hb, if_pos hn0, if_neg hn4]
                   exact ⟨_, _, rfl, rfl, by rw [hq]; exact hR.bq r12.2 r12.1⟩)
                | (have hq : fSheet w z n a1 a2 a3 = (-1000001, w, z, n) := by
                     unfold fSheet
                     rw [if_neg h1, if_neg hb, if_pos hn0, if_neg hn4]
                   exact ⟨_, _, rfl, rfl, by rw [hq]; exact hR.bq r13.2 r13.1⟩)
                | (have hq : fSheet w z n a1 a2 a3 = (-1000001, w, z, n) := by
                     unfold fSheet
                     rw [if_neg h1, if_neg hb, if_pos hn0, if_neg hn4]
                   exact ⟨_, _, rfl, rfl, by rw [hq]; exact hR.bq r14.2 r14.1⟩)
                | (have hq : fSheet w z n a1 a2 a3 = (-1000001, w, z, n) := by
                     unfold fSheet
                     rw [if_neg h1, if_neg hb, if_pos hn0, if_neg hn4]
                   exact ⟨_, _, rfl, rfl, by rw [hq]; exact hR.bq r15.2 r15.1⟩)
                | (have hq : fSheet w z n a1 a2 a3 = (-1000001, w, z, n) := by
                     unfold fSheet
                     rw [if_neg h1, if_neg hb, if_pos hn0, if_neg hn4]
                   exact ⟨_, _, rfl, rfl, by rw [hq]; exact hR.bq r17.2 r17.1⟩)
                | (have hq : fSheet w z n a1 a2 a3 = (-1000001, w, z, n) := by
                     unfold fSheet
                     rw [if_neg h1, if_neg hb, if_pos hn0, if_neg hn4]
                   exact ⟨_, _, rfl, rfl, by rw [hq]; exact hR.bq r18.2 r18.1⟩)
                | (have hq : fSheet w z n a1 a2 a3 = (-1000001, w, z, n) := by
                     unfold fSheet
                     rw [if_neg h1, if_neg hb, if_pos hn0, if_neg hn4]
                   exact ⟨_, _, rfl, rfl, by rw [hq]; exact hR.bq r19.2 r19.1⟩)
                | (have hq : fSheet w z n a1 a2 a3 = (-1000001, w, z, n) := by
                     unfold fSheet
                     rw [if_neg h1, if_neg hb, if_pos hn0, if_neg hn4]
                   exact ⟨_, _, rfl, rfl, by rw [hq]; exact hR.bq r20.2 r20.1⟩)
                | (have hq : fSheet w z n a1 a2 a3 = (-1000001, w, z, n) := by
                     unfold fSheet
                     rw [if_neg h1, if_neg hb, if_pos hn0, if_neg hn4]
                   exact ⟨_, _, rfl, rfl, by rw [hq]; exact hR.bq r21.2 r21.1⟩)
                | (have hq : fSheet w z n a1 a2 a3 = (-1000001, w, z, n) := by
                     unfold fSheet
                     rw [if_neg h1, if_neg hb, if_pos hn0, if_neg hn4]
                   exact ⟨_, _, rfl, rfl, by rw [hq]; exact hR.bq r22.2 r22.1⟩)
                | (have hq : fSheet w z n a1 a2 a3 = (-1000001, w, z, n) := by
                     unfold fSheet
                     rw [if_neg h1, if_neg hb, if_pos hn0, if_neg hn4]
                   exact ⟨_, _, rfl, rfl, by rw [hq]; exact hR.bq r23.2 r23.1⟩)
                | (have hq : fSheet w z n a1 a2 a3 = (-1000001, w, z, n) := by
                     unfold fSheet
                     rw [if_neg h1, if_neg hb, if_pos hn0, if_neg hn4]
                   exact ⟨_, _, rfl, rfl, by rw [hq]; exact hR.bq r24.2 r24.1⟩)
                | (have hq : fSheet w z n a1 a2 a3 = (-1000001, w, z, n) := by
                     unfold fSheet
                     rw [if_neg h1, if_neg hb, if_pos hn0, if_neg hn4]
                   exact ⟨_, _, rfl, rfl, by rw [hq]; exact hR.bq r25.2 r25.1⟩)
                | (have hq : fSheet w z n a1 a2 a3 = (-1000001, w, z, n) := by
                     unfold fSheet
                     rw [if_neg h1, if_neg hb, if_pos hn0, if_neg hn4]
                   exact ⟨_, _, rfl, rfl, by rw [hq]; exact hR.bq r26.2 r26.1⟩)
                | (have hq : fSheet w z n a1 a2 a3 = (-1000001, w, z, n) := by
                     unfold fSheet
                     rw [if_neg h1, if_neg hb, if_pos hn0, if_neg hn4]
                   exact ⟨_, _, rfl, rfl, by rw [hq]; exact hR.bq r27.2 r27.1⟩)
                | (have hq : fSheet w z n a1 a2 a3 = (-1000001, w, z, n) := by
                     unfold fSheet
                     rw [if_neg h1, if_neg hb, if_pos hn0, if_neg hn4]
                   exact ⟨_, _, rfl, rfl, by rw [hq]; exact hR.bq r28.2 r28.1⟩)
                | (have hq : fSheet w z n a1 a2 a3 = (-1000001, w, z, n) := by
                     unfold fSheet
                     rw [if_neg h1, if_neg hb, if_pos hn0, if_neg hn4]
                   exact ⟨_, _, rfl, rfl, by rw [hq]; exact hR.bq r29.2 r29.1⟩)
                | (have hq : fSheet w z n a1 a2 a3 = (-1000001, w, z, n) := by
                     unfold fSheet
                     rw [if_neg h1, if_neg hb, if_pos hn0, if_neg hn4]
                   exact ⟨_, _, rfl, rfl, by rw [hq]; exact hR.bq r30.2 r30.1⟩)
                | (have hq : fSheet w z n a1 a2 a3 = (-1000001, w, z, n) := by
                     unfold fSheet
                     rw [if_neg h1, if_neg hb, if_pos hn0, if_neg hn4]
                   exact ⟨_, _, rfl, rfl, by rw [hq]; exact hR.bq r31.2 r31.1⟩)
                | (have hq : fSheet w z n a1 a2 a3 = (-1000001, w, z, n) := by
                     unfold fSheet
                     rw [if_neg h1, if_neg hb, if_pos hn0, if_neg hn4]
                   exact ⟨_, _, rfl, rfl, by rw [hq]; exact hR.bq r32.2 r32.1⟩)
                | (have hq : fSheet w z n a1 a2 a3 = (-1000001, w, z, n) := by
                     unfold fSheet
                     rw [if_neg h1, if_neg hb, if_pos hn0, if_neg hn4]
                   exact ⟨_, _, rfl, rfl, by rw [hq]; exact hR.bq r33.2 r33.1⟩)
                | (have hq : fSheet w z n a1 a2 a3 = (-1000001, w, z, n) := by
                     unfold fSheet
                     rw [if_neg h1, if_neg hb, if_pos hn0, if_neg hn4]
                   exact ⟨_, _, rfl, rfl, by rw [hq]; exact hR.bq r34.2 r34.1⟩)
                | (have hq : fSheet w z n a1 a2 a3 = (-1000001, w, z, n) := by
                     unfold fSheet
                     rw [if_neg h1, if_neg hb, if_pos hn0, if_neg hn4]
                   exact ⟨_, _, rfl, rfl, by rw [hq]; exact hR.bq r35.2 r35.1⟩)
                | (have hq : fSheet w z n a1 a2 a3 = (-1000001, w, z, n) := by
                     unfold fSheet
                     rw [if_neg h1, if_neg hb, if_pos hn0, if_neg hn4]
                   exact ⟨_, _, rfl, rfl, by rw [hq]; exact hR.bq r36.2 r36.1⟩)
                | (have hq : fSheet w z n a1 a2 a3 = (-1000001, w, z, n) := by
                     unfold fSheet
                     rw [if_neg h1, if_neg hb, if_pos hn0, if_neg hn4]
                   exact ⟨_, _, rfl, rfl, by rw [hq]; exact hR.bq r37.2 r37.1⟩)
                | (have hq : fSheet w z n a1 a2 a3 = (-1000001, w, z, n) := by
                     unfold fSheet
                     rw [if_neg h1, if_neg hb, if_pos hn0, if_neg hn4]
                   exact ⟨_, _, rfl, rfl, by rw [hq]; exact hR.bq r38.2 r38.1⟩)
                | (have hq : fSheet w z n a1 a2 a3 = (-1000001, w, z, n) := by
                     unfold fSheet
                     rw [if_neg h1, if_neg hb, if_pos hn0, if_neg hn4]
                   exact ⟨_, _, rfl, rfl, by rw [hq]; exact hR.bq r39.2 r39.1⟩)
          · have hn0 := h14
            refine x_aload_n hm rfl rfl ?_
            refine x_ldcI hm rfl (v := (-1000007 : Int32)) (by decide +kernel) ?_
            refine x_cVi hm rfl rfl (t7 (by decide +kernel)) (fun v17 M17 r17 => ?_)
            refine x_iret hm rfl rfl (by first | rfl | exact bI_nar | decide) ?_
            first
              | (have hq : fSheet w z n a1 a2 a3 = (-1000007, w, z, n) := by
                   unfold fSheet
                   rw [if_neg h1, if_neg hb, if_neg hn0]
                 exact ⟨_, _, rfl, rfl, by rw [hq]; exact hR.bq r17.2 r17.1⟩)
              | (have hq : fSheet w z n a1 a2 a3 = (-1000007, w, z, n) := by
                   unfold fSheet
                   rw [if_neg h1, if_neg hb, if_neg hn0]
                 exact ⟨_, _, rfl, rfl, by rw [hq]; exact hR.bq r1.2 r1.1⟩)
              | (have hq : fSheet w z n a1 a2 a3 = (-1000007, w, z, n) := by
                   unfold fSheet
                   rw [if_neg h1, if_neg hb, if_neg hn0]
                 exact ⟨_, _, rfl, rfl, by rw [hq]; exact hR.bq r2.2 r2.1⟩)
              | (have hq : fSheet w z n a1 a2 a3 = (-1000007, w, z, n) := by
                   unfold fSheet
                   rw [if_neg h1, if_neg hb, if_neg hn0]
                 exact ⟨_, _, rfl, rfl, by rw [hq]; exact hR.bq r3.2 r3.1⟩)
              | (have hq : fSheet w z n a1 a2 a3 = (-1000007, w, z, n) := by
                   unfold fSheet
                   rw [if_neg h1, if_neg hb, if_neg hn0]
                 exact ⟨_, _, rfl, rfl, by rw [hq]; exact hR.bq r4.2 r4.1⟩)
              | (have hq : fSheet w z n a1 a2 a3 = (-1000007, w, z, n) := by
                   unfold fSheet
                   rw [if_neg h1, if_neg hb, if_neg hn0]
                 exact ⟨_, _, rfl, rfl, by rw [hq]; exact hR.bq r5.2 r5.1⟩)
              | (have hq : fSheet w z n a1 a2 a3 = (-1000007, w, z, n) := by
                   unfold fSheet
                   rw [if_neg h1, if_neg hb, if_neg hn0]
                 exact ⟨_, _, rfl, rfl, by rw [hq]; exact hR.bq r6.2 r6.1⟩)
              | (have hq : fSheet w z n a1 a2 a3 = (-1000007, w, z, n) := by
                   unfold fSheet
                   rw [if_neg h1, if_neg hb, if_neg hn0]
                 exact ⟨_, _, rfl, rfl, by rw [hq]; exact hR.bq r7.2 r7.1⟩)
              | (have hq : fSheet w z n a1 a2 a3 = (-1000007, w, z, n) := by
                   unfold fSheet
                   rw [if_neg h1, if_neg hb, if_neg hn0]
                 exact ⟨_, _, rfl, rfl, by rw [hq]; exact hR.bq r8.2 r8.1⟩)
              | (have hq : fSheet w z n a1 a2 a3 = (-1000007, w, z, n) := by
                   unfold fSheet
                   rw [if_neg h1, if_neg hb, if_neg hn0]
                 exact ⟨_, _, rfl, rfl, by rw [hq]; exact hR.bq r9.2 r9.1⟩)
              | (have hq : fSheet w z n a1 a2 a3 = (-1000007, w, z, n) := by
                   unfold fSheet
                   rw [if_neg h1, if_neg hb, if_neg hn0]
                 exact ⟨_, _, rfl, rfl, by rw [hq]; exact hR.bq r10.2 r10.1⟩)
              | (have hq : fSheet w z n a1 a2 a3 = (-1000007, w, z, n) := by
                   unfold fSheet
                   rw [if_neg h1, if_neg hb, if_neg hn0]
                 exact ⟨_, _, rfl, rfl, by rw [hq]; exact hR.bq r11.2 r11.1⟩)
              | (have hq : fSheet w z n a1 a2 a3 = (-1000007, w, z, n) := by
                   unfold fSheet
                   rw [if_neg h1, if_neg hb, if_neg hn0]
                 exact ⟨_, _, rfl, rfl, by rw [hq]; exact hR.bq r12.2 r12.1⟩)
              | (have hq : fSheet w z n a1 a2 a3 = (-1000007, w, z, n) := by
                   unfold fSheet
                   rw [if_neg h1, if_neg hb, if_neg hn0]
                 exact ⟨_, _, rfl, rfl, by rw [hq]; exact hR.bq r13.2 r13.1⟩)
              | (have hq : fSheet w z n a1 a2 a3 = (-1000007, w, z, n) := by
                   unfold fSheet
                   rw [if_neg h1, if_neg hb, if_neg hn0]
                 exact ⟨_, _, rfl, rfl, by rw [hq]; exact hR.bq r14.2 r14.1⟩)
              | (have hq : fSheet w z n a1 a2 a3 = (-1000007, w, z, n) := by
                   unfold fSheet
                   rw [if_neg h1, if_neg hb, if_neg hn0]
                 exact ⟨_, _, rfl, rfl, by rw [hq]; exact hR.bq r15.2 r15.1⟩)
              | (have hq : fSheet w z n a1 a2 a3 = (-1000007, w, z, n) := by
                   unfold fSheet
                   rw [if_neg h1, if_neg hb, if_neg hn0]
                 exact ⟨_, _, rfl, rfl, by rw [hq]; exact hR.bq r16.2 r16.1⟩)
              | (have hq : fSheet w z n a1 a2 a3 = (-1000007, w, z, n) := by
                   unfold fSheet
                   rw [if_neg h1, if_neg hb, if_neg hn0]
                 exact ⟨_, _, rfl, rfl, by rw [hq]; exact hR.bq r18.2 r18.1⟩)
              | (have hq : fSheet w z n a1 a2 a3 = (-1000007, w, z, n) := by
                   unfold fSheet
                   rw [if_neg h1, if_neg hb, if_neg hn0]
                 exact ⟨_, _, rfl, rfl, by rw [hq]; exact hR.bq r19.2 r19.1⟩)
              | (have hq : fSheet w z n a1 a2 a3 = (-1000007, w, z, n) := by
                   unfold fSheet
                   rw [if_neg h1, if_neg hb, if_neg hn0]
                 exact ⟨_, _, rfl, rfl, by rw [hq]; exact hR.bq r20.2 r20.1⟩)
              | (have hq : fSheet w z n a1 a2 a3 = (-1000007, w, z, n) := by
                   unfold fSheet
                   rw [if_neg h1, if_neg hb, if_neg hn0]
                 exact ⟨_, _, rfl, rfl, by rw [hq]; exact hR.bq r21.2 r21.1⟩)
              | (have hq : fSheet w z n a1 a2 a3 = (-1000007, w, z, n) := by
                   unfold fSheet
                   rw [if_neg h1, if_neg hb, if_neg hn0]
                 exact ⟨_, _, rfl, rfl, by rw [hq]; exact hR.bq r22.2 r22.1⟩)
              | (have hq : fSheet w z n a1 a2 a3 = (-1000007, w, z, n) := by
                   unfold fSheet
                   rw [if_neg h1, if_neg hb, if_neg hn0]
                 exact ⟨_, _, rfl, rfl, by rw [hq]; exact hR.bq r23.2 r23.1⟩)
              | (have hq : fSheet w z n a1 a2 a3 = (-1000007, w, z, n) := by
                   unfold fSheet
                   rw [if_neg h1, if_neg hb, if_neg hn0]
                 exact ⟨_, _, rfl, rfl, by rw [hq]; exact hR.bq r24.2 r24.1⟩)
              | (have hq : fSheet w z n a1 a2 a3 = (-1000007, w, z, n) := by
                   unfold fSheet
                   rw [if_neg h1, if_neg hb, if_neg hn0]
                 exact ⟨_, _, rfl, rfl, by rw [hq]; exact hR.bq r25.2 r25.1⟩)
              | (have hq : fSheet w z n a1 a2 a3 = (-1000007, w, z, n) := by
                   unfold fSheet
                   rw [if_neg h1, if_neg hb, if_neg hn0]
                 exact ⟨_, _, rfl, rfl, by rw [hq]; exact hR.bq r26.2 r26.1⟩)
              | (have hq : fSheet w z n a1 a2 a3 = (-1000007, w, z, n) := by
                   unfold fSheet
                   rw [if_neg h1, if_neg hb, if_neg hn0]
                 exact ⟨_, _, rfl, rfl, by rw [hq]; exact hR.bq r27.2 r27.1⟩)
              | (have hq : fSheet w z n a1 a2 a3 = (-1000007, w, z, n) := by
                   unfold fSheet
                   rw [if_neg h1, if_neg hb, if_neg hn0]
                 exact ⟨_, _, rfl, rfl, by rw [hq]; exact hR.bq r28.2 r28.1⟩)
              | (have hq : fSheet w z n a1 a2 a3 = (-1000007, w, z, n) := by
                   unfold fSheet
                   rw [if_neg h1, if_neg hb, if_neg hn0]
                 exact ⟨_, _, rfl, rfl, by rw [hq]; exact hR.bq r29.2 r29.1⟩)
              | (have hq : fSheet w z n a1 a2 a3 = (-1000007, w, z, n) := by
                   unfold fSheet
                   rw [if_neg h1, if_neg hb, if_neg hn0]
                 exact ⟨_, _, rfl, rfl, by rw [hq]; exact hR.bq r30.2 r30.1⟩)
              | (have hq : fSheet w z n a1 a2 a3 = (-1000007, w, z, n) := by
                   unfold fSheet
                   rw [if_neg h1, if_neg hb, if_neg hn0]
                 exact ⟨_, _, rfl, rfl, by rw [hq]; exact hR.bq r31.2 r31.1⟩)
              | (have hq : fSheet w z n a1 a2 a3 = (-1000007, w, z, n) := by
                   unfold fSheet
                   rw [if_neg h1, if_neg hb, if_neg hn0]
                 exact ⟨_, _, rfl, rfl, by rw [hq]; exact hR.bq r32.2 r32.1⟩)
              | (have hq : fSheet w z n a1 a2 a3 = (-1000007, w, z, n) := by
                   unfold fSheet
                   rw [if_neg h1, if_neg hb, if_neg hn0]
                 exact ⟨_, _, rfl, rfl, by rw [hq]; exact hR.bq r33.2 r33.1⟩)
              | (have hq : fSheet w z n a1 a2 a3 = (-1000007, w, z, n) := by
                   unfold fSheet
                   rw [if_neg h1, if_neg hb, if_neg hn0]
                 exact ⟨_, _, rfl, rfl, by rw [hq]; exact hR.bq r34.2 r34.1⟩)
              | (have hq : fSheet w z n a1 a2 a3 = (-1000007, w, z, n) := by
                   unfold fSheet
                   rw [if_neg h1, if_neg hb, if_neg hn0]
                 exact ⟨_, _, rfl, rfl, by rw [hq]; exact hR.bq r35.2 r35.1⟩)
              | (have hq : fSheet w z n a1 a2 a3 = (-1000007, w, z, n) := by
                   unfold fSheet
                   rw [if_neg h1, if_neg hb, if_neg hn0]
                 exact ⟨_, _, rfl, rfl, by rw [hq]; exact hR.bq r36.2 r36.1⟩)
              | (have hq : fSheet w z n a1 a2 a3 = (-1000007, w, z, n) := by
                   unfold fSheet
                   rw [if_neg h1, if_neg hb, if_neg hn0]
                 exact ⟨_, _, rfl, rfl, by rw [hq]; exact hR.bq r37.2 r37.1⟩)
              | (have hq : fSheet w z n a1 a2 a3 = (-1000007, w, z, n) := by
                   unfold fSheet
                   rw [if_neg h1, if_neg hb, if_neg hn0]
                 exact ⟨_, _, rfl, rfl, by rw [hq]; exact hR.bq r38.2 r38.1⟩)
              | (have hq : fSheet w z n a1 a2 a3 = (-1000007, w, z, n) := by
                   unfold fSheet
                   rw [if_neg h1, if_neg hb, if_neg hn0]
                 exact ⟨_, _, rfl, rfl, by rw [hq]; exact hR.bq r39.2 r39.1⟩)
        · refine x_iload_n hm rfl rfl ?_
          refine x_bipush hm rfl (v := nI 32) (by decide) ?_
          refine x_icmp_eq hm rfl (t := 36) rfl (fun h18 => ?_) (fun h18 => ?_)
          · have hb := okb_t (Or.inr (Or.inr (Or.inr h18)))
            refine x_iload_n hm rfl rfl ?_
            refine x_if_ge hm rfl (t := 47) rfl (fun h19 => ?_) (fun h19 => ?_)
            · have hn0 := h19
              refine x_iload_n hm rfl rfl ?_
              refine x_bipush hm rfl (v := nI 40) (by decide) ?_
              refine x_icmp_le hm rfl (t := 60) rfl (fun h20 => ?_) (fun h20 => ?_)
              · have hn4 := h20
                obtain ⟨s, hs, hs3⟩ := le_k (by omega) (bI_ne0 h1)
                subst hs3
                have hq : fSheet w z n (nI s) a2 a3 = ((if a2 = 0 then nI 0 else a3), put1 w s a2, put1 z s (if a2 = 0 then nI 0 else a3), clr n s) := by
                  unfold fSheet
                  rw [if_neg h1, if_neg hb, if_pos hn0, if_pos hn4, jI_nat (by omega)]
                rw [hq]
                exact g116e hR hs
              · have hn4 := h20
                refine x_aload_n hm rfl rfl ?_
                refine x_ldcI hm rfl (v := (-1000001 : Int32)) (by decide +kernel) ?_
                refine x_cVi hm rfl rfl (t7 (by decide +kernel)) (fun v21 M21 r21 => ?_)
                refine x_iret hm rfl rfl (by first | rfl | exact bI_nar | decide) ?_
                first
                  | (have hq : fSheet w z n a1 a2 a3 = (-1000001, w, z, n) := by
                       unfold fSheet
                       rw [if_neg h1, if_neg hb, if_pos hn0, if_neg hn4]
                     exact ⟨_, _, rfl, rfl, by rw [hq]; exact hR.bq r21.2 r21.1⟩)
                  | (have hq : fSheet w z n a1 a2 a3 = (-1000001, w, z, n) := by
                       unfold fSheet
                       rw [if_neg h1, if_neg hb, if_pos hn0, if_neg hn4]
                     exact ⟨_, _, rfl, rfl, by rw [hq]; exact hR.bq r1.2 r1.1⟩)
                  | (have hq : fSheet w z n a1 a2 a3 = (-1000001, w, z, n) := by
                       unfold fSheet
                       rw [if_neg h1, if_neg hb, if_pos hn0, if_neg hn4]
                     exact ⟨_, _, rfl, rfl, by rw [hq]; exact hR.bq r2.2 r2.1⟩)
                  | (have hq : fSheet w z n a1 a2 a3 = (-1000001, w, z, n) := by
                       unfold fSheet
                       rw [if_neg h1, if_neg hb, if_pos hn0, if_neg hn4]
                     exact ⟨_, _, rfl, rfl, by rw [hq]; exact hR.bq r3.2 r3.1⟩)
                  | (have hq : fSheet w z n a1 a2 a3 = (-1000001, w, z, n) := by
                       unfold fSheet
                       rw [if_neg h1, if_neg hb, if_pos hn0, if_neg hn4]
                     exact ⟨_, _, rfl, rfl, by rw [hq]; exact hR.bq r4.2 r4.1⟩)
                  | (have hq : fSheet w z n a1 a2 a3 = (-1000001, w, z, n) := by
                       unfold fSheet
                       rw [if_neg h1, if_neg hb, if_pos hn0, if_neg hn4]
                     exact ⟨_, _, rfl, rfl, by rw [hq]; exact hR.bq r5.2 r5.1⟩)
                  | (have hq : fSheet w z n a1 a2 a3 = (-1000001, w, z, n) := by
                       unfold fSheet
                       rw [if_neg h1, if_neg hb, if_pos hn0, if_neg hn4]
                     exact ⟨_, _, rfl, rfl, by rw [hq]; exact hR.bq r6.2 r6.1⟩)
                  | (have hq : fSheet w z n a1 a2 a3 = (-1000001, w, z, n) := by
                       unfold fSheet
                       rw [if_neg h1, if_neg hb, if_pos hn0, if_neg hn4]
                     exact ⟨_, _, rfl, rfl, by rw [hq]; exact hR.bq r7.2 r7.1⟩)
                  | (have hq : fSheet w z n a1 a2 a3 = (-1000001, w, z, n) := by
                       unfold fSheet
                       rw [if_neg h1, if_neg hb, if_pos hn0, if_neg hn4]
                     exact ⟨_, _, rfl, rfl, by rw [hq]; exact hR.bq r8.2 r8.1⟩)
                  | (have hq : fSheet w z n a1 a2 a3 = (-1000001, w, z, n) := by
                       unfold fSheet
                       rw [if_neg h1, if_neg hb, if_pos hn0, if_neg hn4]
                     exact ⟨_, _, rfl, rfl, by rw [hq]; exact hR.bq r9.2 r9.1⟩)
                  | (have hq : fSheet w z n a1 a2 a3 = (-1000001, w, z, n) := by
                       unfold fSheet
                       rw [if_neg h1, if_neg hb, if_pos hn0, if_neg hn4]
                     exact ⟨_, _, rfl, rfl, by rw [hq]; exact hR.bq r10.2 r10.1⟩)
                  | (have hq : fSheet w z n a1 a2 a3 = (-1000001, w, z, n) := by
                       unfold fSheet
                       rw [if_neg h1, if_neg hb, if_pos hn0, if_neg hn4]
                     exact ⟨_, _, rfl, rfl, by rw [hq]; exact hR.bq r11.2 r11.1⟩)
                  | (have hq : fSheet w z n a1 a2 a3 = (-1000001, w, z, n) := by
                       unfold fSheet
                       rw [if_neg h1, if_neg hb, if_pos hn0, if_neg hn4]
                     exact ⟨_, _, rfl, rfl, by rw [hq]; exact hR.bq r12.2 r12.1⟩)
                  | (have hq : fSheet w z n a1 a2 a3 = (-1000001, w, z, n) := by
                       unfold fSheet
                       rw [if_neg h1, if_neg hb, if_pos hn0, if_neg hn4]
                     exact ⟨_, _, rfl, rfl, by rw [hq]; exact hR.bq r13.2 r13.1⟩)
                  | (have hq : fSheet w z n a1 a2 a3 = (-1000001, w, z, n) := by
                       unfold fSheet
                       rw [if_neg h1, if_neg hb, if_pos hn0, if_neg hn4]
                     exact ⟨_, _, rfl, rfl, by rw [hq]; exact hR.bq r14.2 r14.1⟩)
                  | (have hq : fSheet w z n a1 a2 a3 = (-1000001, w, z, n) := by
                       unfold fSheet
                       rw [if_neg h1, if_neg hb, if_pos hn0, if_neg hn4]
                     exact ⟨_, _, rfl, rfl, by rw [hq]; exact hR.bq r15.2 r15.1⟩)
                  | (have hq : fSheet w z n a1 a2 a3 = (-1000001, w, z, n) := by
                       unfold fSheet
                       rw [if_neg h1, if_neg hb, if_pos hn0, if_neg hn4]
                     exact ⟨_, _, rfl, rfl, by rw [hq]; exact hR.bq r16.2 r16.1⟩)
                  | (have hq : fSheet w z n a1 a2 a3 = (-1000001, w, z, n) := by
                       unfold fSheet
                       rw [if_neg h1, if_neg hb, if_pos hn0, if_neg hn4]
                     exact ⟨_, _, rfl, rfl, by rw [hq]; exact hR.bq r17.2 r17.1⟩)
                  | (have hq : fSheet w z n a1 a2 a3 = (-1000001, w, z, n) := by
                       unfold fSheet
                       rw [if_neg h1, if_neg hb, if_pos hn0, if_neg hn4]
                     exact ⟨_, _, rfl, rfl, by rw [hq]; exact hR.bq r18.2 r18.1⟩)
                  | (have hq : fSheet w z n a1 a2 a3 = (-1000001, w, z, n) := by
                       unfold fSheet
                       rw [if_neg h1, if_neg hb, if_pos hn0, if_neg hn4]
                     exact ⟨_, _, rfl, rfl, by rw [hq]; exact hR.bq r19.2 r19.1⟩)
                  | (have hq : fSheet w z n a1 a2 a3 = (-1000001, w, z, n) := by
                       unfold fSheet
                       rw [if_neg h1, if_neg hb, if_pos hn0, if_neg hn4]
                     exact ⟨_, _, rfl, rfl, by rw [hq]; exact hR.bq r20.2 r20.1⟩)
                  | (have hq : fSheet w z n a1 a2 a3 = (-1000001, w, z, n) := by
                       unfold fSheet
                       rw [if_neg h1, if_neg hb, if_pos hn0, if_neg hn4]
                     exact ⟨_, _, rfl, rfl, by rw [hq]; exact hR.bq r22.2 r22.1⟩)
                  | (have hq : fSheet w z n a1 a2 a3 = (-1000001, w, z, n) := by
                       unfold fSheet
                       rw [if_neg h1, if_neg hb, if_pos hn0, if_neg hn4]
                     exact ⟨_, _, rfl, rfl, by rw [hq]; exact hR.bq r23.2 r23.1⟩)
                  | (have hq : fSheet w z n a1 a2 a3 = (-1000001, w, z, n) := by
                       unfold fSheet
                       rw [if_neg h1, if_neg hb, if_pos hn0, if_neg hn4]
                     exact ⟨_, _, rfl, rfl, by rw [hq]; exact hR.bq r24.2 r24.1⟩)
                  | (have hq : fSheet w z n a1 a2 a3 = (-1000001, w, z, n) := by
                       unfold fSheet
                       rw [if_neg h1, if_neg hb, if_pos hn0, if_neg hn4]
                     exact ⟨_, _, rfl, rfl, by rw [hq]; exact hR.bq r25.2 r25.1⟩)
                  | (have hq : fSheet w z n a1 a2 a3 = (-1000001, w, z, n) := by
                       unfold fSheet
                       rw [if_neg h1, if_neg hb, if_pos hn0, if_neg hn4]
                     exact ⟨_, _, rfl, rfl, by rw [hq]; exact hR.bq r26.2 r26.1⟩)
                  | (have hq : fSheet w z n a1 a2 a3 = (-1000001, w, z, n) := by
                       unfold fSheet
                       rw [if_neg h1, if_neg hb, if_pos hn0, if_neg hn4]
                     exact ⟨_, _, rfl, rfl, by rw [hq]; exact hR.bq r27.2 r27.1⟩)
                  | (have hq : fSheet w z n a1 a2 a3 = (-1000001, w, z, n) := by
                       unfold fSheet
                       rw [if_neg h1, if_neg hb, if_pos hn0, if_neg hn4]
                     exact ⟨_, _, rfl, rfl, by rw [hq]; exact hR.bq r28.2 r28.1⟩)
                  | (have hq : fSheet w z n a1 a2 a3 = (-1000001, w, z, n) := by
                       unfold fSheet
                       rw [if_neg h1, if_neg hb, if_pos hn0, if_neg hn4]
                     exact ⟨_, _, rfl, rfl, by rw [hq]; exact hR.bq r29.2 r29.1⟩)
                  | (have hq : fSheet w z n a1 a2 a3 = (-1000001, w, z, n) := by
                       unfold fSheet
                       rw [if_neg h1, if_neg hb, if_pos hn0, if_neg hn4]
                     exact ⟨_, _, rfl, rfl, by rw [hq]; exact hR.bq r30.2 r30.1⟩)
                  | (have hq : fSheet w z n a1 a2 a3 = (-1000001, w, z, n) := by
                       unfold fSheet
                       rw [if_neg h1, if_neg hb, if_pos hn0, if_neg hn4]
                     exact ⟨_, _, rfl, rfl, by rw [hq]; exact hR.bq r31.2 r31.1⟩)
                  | (have hq : fSheet w z n a1 a2 a3 = (-1000001, w, z, n) := by
                       unfold fSheet
                       rw [if_neg h1, if_neg hb, if_pos hn0, if_neg hn4]
                     exact ⟨_, _, rfl, rfl, by rw [hq]; exact hR.bq r32.2 r32.1⟩)
                  | (have hq : fSheet w z n a1 a2 a3 = (-1000001, w, z, n) := by
                       unfold fSheet
                       rw [if_neg h1, if_neg hb, if_pos hn0, if_neg hn4]
                     exact ⟨_, _, rfl, rfl, by rw [hq]; exact hR.bq r33.2 r33.1⟩)
                  | (have hq : fSheet w z n a1 a2 a3 = (-1000001, w, z, n) := by
                       unfold fSheet
                       rw [if_neg h1, if_neg hb, if_pos hn0, if_neg hn4]
                     exact ⟨_, _, rfl, rfl, by rw [hq]; exact hR.bq r34.2 r34.1⟩)
                  | (have hq : fSheet w z n a1 a2 a3 = (-1000001, w, z, n) := by
                       unfold fSheet
                       rw [if_neg h1, if_neg hb, if_pos hn0, if_neg hn4]
                     exact ⟨_, _, rfl, rfl, by rw [hq]; exact hR.bq r35.2 r35.1⟩)
                  | (have hq : fSheet w z n a1 a2 a3 = (-1000001, w, z, n) := by
                       unfold fSheet
                       rw [if_neg h1, if_neg hb, if_pos hn0, if_neg hn4]
                     exact ⟨_, _, rfl, rfl, by rw [hq]; exact hR.bq r36.2 r36.1⟩)
                  | (have hq : fSheet w z n a1 a2 a3 = (-1000001, w, z, n) := by
                       unfold fSheet
                       rw [if_neg h1, if_neg hb, if_pos hn0, if_neg hn4]
                     exact ⟨_, _, rfl, rfl, by rw [hq]; exact hR.bq r37.2 r37.1⟩)
                  | (have hq : fSheet w z n a1 a2 a3 = (-1000001, w, z, n) := by
                       unfold fSheet
                       rw [if_neg h1, if_neg hb, if_pos hn0, if_neg hn4]
                     exact ⟨_, _, rfl, rfl, by rw [hq]; exact hR.bq r38.2 r38.1⟩)
                  | (have hq : fSheet w z n a1 a2 a3 = (-1000001, w, z, n) := by
                       unfold fSheet
                       rw [if_neg h1, if_neg hb, if_pos hn0, if_neg hn4]
                     exact ⟨_, _, rfl, rfl, by rw [hq]; exact hR.bq r39.2 r39.1⟩)
            · have hn0 := h19
              refine x_aload_n hm rfl rfl ?_
              refine x_ldcI hm rfl (v := (-1000007 : Int32)) (by decide +kernel) ?_
              refine x_cVi hm rfl rfl (t7 (by decide +kernel)) (fun v22 M22 r22 => ?_)
              refine x_iret hm rfl rfl (by first | rfl | exact bI_nar | decide) ?_
              first
                | (have hq : fSheet w z n a1 a2 a3 = (-1000007, w, z, n) := by
                     unfold fSheet
                     rw [if_neg h1, if_neg hb, if_neg hn0]
                   exact ⟨_, _, rfl, rfl, by rw [hq]; exact hR.bq r22.2 r22.1⟩)
                | (have hq : fSheet w z n a1 a2 a3 = (-1000007, w, z, n) := by
                     unfold fSheet
                     rw [if_neg h1, if_neg hb, if_neg hn0]
                   exact ⟨_, _, rfl, rfl, by rw [hq]; exact hR.bq r1.2 r1.1⟩)
                | (have hq : fSheet w z n a1 a2 a3 = (-1000007, w, z, n) := by
                     unfold fSheet
                     rw [if_neg h1, if_neg hb, if_neg hn0]
                   exact ⟨_, _, rfl, rfl, by rw [hq]; exact hR.bq r2.2 r2.1⟩)
                | (have hq : fSheet w z n a1 a2 a3 = (-1000007, w, z, n) := by
                     unfold fSheet
                     rw [if_neg h1, if_neg hb, if_neg hn0]
                   exact ⟨_, _, rfl, rfl, by rw [hq]; exact hR.bq r3.2 r3.1⟩)
                | (have hq : fSheet w z n a1 a2 a3 = (-1000007, w, z, n) := by
                     unfold fSheet
                     rw [if_neg h1, if_neg hb, if_neg hn0]
                   exact ⟨_, _, rfl, rfl, by rw [hq]; exact hR.bq r4.2 r4.1⟩)
                | (have hq : fSheet w z n a1 a2 a3 = (-1000007, w, z, n) := by
                     unfold fSheet
                     rw [if_neg h1, if_neg hb, if_neg hn0]
                   exact ⟨_, _, rfl, rfl, by rw [hq]; exact hR.bq r5.2 r5.1⟩)
                | (have hq : fSheet w z n a1 a2 a3 = (-1000007, w, z, n) := by
                     unfold fSheet
                     rw [if_neg h1, if_neg hb, if_neg hn0]
                   exact ⟨_, _, rfl, rfl, by rw [hq]; exact hR.bq r6.2 r6.1⟩)
                | (have hq : fSheet w z n a1 a2 a3 = (-1000007, w, z, n) := by
                     unfold fSheet
                     rw [if_neg h1, if_neg hb, if_neg hn0]
                   exact ⟨_, _, rfl, rfl, by rw [hq]; exact hR.bq r7.2 r7.1⟩)
                | (have hq : fSheet w z n a1 a2 a3 = (-1000007, w, z, n) := by
                     unfold fSheet
                     rw [if_neg h1, if_neg hb, if_neg hn0]
                   exact ⟨_, _, rfl, rfl, by rw [hq]; exact hR.bq r8.2 r8.1⟩)
                | (have hq : fSheet w z n a1 a2 a3 = (-1000007, w, z, n) := by
                     unfold fSheet
                     rw [if_neg h1, if_neg hb, if_neg hn0]
                   exact ⟨_, _, rfl, rfl, by rw [hq]; exact hR.bq r9.2 r9.1⟩)
                | (have hq : fSheet w z n a1 a2 a3 = (-1000007, w, z, n) := by
                     unfold fSheet
                     rw [if_neg h1, if_neg hb, if_neg hn0]
                   exact ⟨_, _, rfl, rfl, by rw [hq]; exact hR.bq r10.2 r10.1⟩)
                | (have hq : fSheet w z n a1 a2 a3 = (-1000007, w, z, n) := by
                     unfold fSheet
                     rw [if_neg h1, if_neg hb, if_neg hn0]
                   exact ⟨_, _, rfl, rfl, by rw [hq]; exact hR.bq r11.2 r11.1⟩)
                | (have hq : fSheet w z n a1 a2 a3 = (-1000007, w, z, n) := by
                     unfold fSheet
                     rw [if_neg h1, if_neg hb, if_neg hn0]
                   exact ⟨_, _, rfl, rfl, by rw [hq]; exact hR.bq r12.2 r12.1⟩)
                | (have hq : fSheet w z n a1 a2 a3 = (-1000007, w, z, n) := by
                     unfold fSheet
                     rw [if_neg h1, if_neg hb, if_neg hn0]
                   exact ⟨_, _, rfl, rfl, by rw [hq]; exact hR.bq r13.2 r13.1⟩)
                | (have hq : fSheet w z n a1 a2 a3 = (-1000007, w, z, n) := by
                     unfold fSheet
                     rw [if_neg h1, if_neg hb, if_neg hn0]
                   exact ⟨_, _, rfl, rfl, by rw [hq]; exact hR.bq r14.2 r14.1⟩)
                | (have hq : fSheet w z n a1 a2 a3 = (-1000007, w, z, n) := by
                     unfold fSheet
                     rw [if_neg h1, if_neg hb, if_neg hn0]
                   exact ⟨_, _, rfl, rfl, by rw [hq]; exact hR.bq r15.2 r15.1⟩)
                | (have hq : fSheet w z n a1 a2 a3 = (-1000007, w, z, n) := by
                     unfold fSheet
                     rw [if_neg h1, if_neg hb, if_neg hn0]
                   exact ⟨_, _, rfl, rfl, by rw [hq]; exact hR.bq r16.2 r16.1⟩)
                | (have hq : fSheet w z n a1 a2 a3 = (-1000007, w, z, n) := by
                     unfold fSheet
                     rw [if_neg h1, if_neg hb, if_neg hn0]
                   exact ⟨_, _, rfl, rfl, by rw [hq]; exact hR.bq r17.2 r17.1⟩)
                | (have hq : fSheet w z n a1 a2 a3 = (-1000007, w, z, n) := by
                     unfold fSheet
                     rw [if_neg h1, if_neg hb, if_neg hn0]
                   exact ⟨_, _, rfl, rfl, by rw [hq]; exact hR.bq r18.2 r18.1⟩)
                | (have hq : fSheet w z n a1 a2 a3 = (-1000007, w, z, n) := by
                     unfold fSheet
                     rw [if_neg h1, if_neg hb, if_neg hn0]
                   exact ⟨_, _, rfl, rfl, by rw [hq]; exact hR.bq r19.2 r19.1⟩)
                | (have hq : fSheet w z n a1 a2 a3 = (-1000007, w, z, n) := by
                     unfold fSheet
                     rw [if_neg h1, if_neg hb, if_neg hn0]
                   exact ⟨_, _, rfl, rfl, by rw [hq]; exact hR.bq r20.2 r20.1⟩)
                | (have hq : fSheet w z n a1 a2 a3 = (-1000007, w, z, n) := by
                     unfold fSheet
                     rw [if_neg h1, if_neg hb, if_neg hn0]
                   exact ⟨_, _, rfl, rfl, by rw [hq]; exact hR.bq r21.2 r21.1⟩)
                | (have hq : fSheet w z n a1 a2 a3 = (-1000007, w, z, n) := by
                     unfold fSheet
                     rw [if_neg h1, if_neg hb, if_neg hn0]
                   exact ⟨_, _, rfl, rfl, by rw [hq]; exact hR.bq r23.2 r23.1⟩)
                | (have hq : fSheet w z n a1 a2 a3 = (-1000007, w, z, n) := by
                     unfold fSheet
                     rw [if_neg h1, if_neg hb, if_neg hn0]
                   exact ⟨_, _, rfl, rfl, by rw [hq]; exact hR.bq r24.2 r24.1⟩)
                | (have hq : fSheet w z n a1 a2 a3 = (-1000007, w, z, n) := by
                     unfold fSheet
                     rw [if_neg h1, if_neg hb, if_neg hn0]
                   exact ⟨_, _, rfl, rfl, by rw [hq]; exact hR.bq r25.2 r25.1⟩)
                | (have hq : fSheet w z n a1 a2 a3 = (-1000007, w, z, n) := by
                     unfold fSheet
                     rw [if_neg h1, if_neg hb, if_neg hn0]
                   exact ⟨_, _, rfl, rfl, by rw [hq]; exact hR.bq r26.2 r26.1⟩)
                | (have hq : fSheet w z n a1 a2 a3 = (-1000007, w, z, n) := by
                     unfold fSheet
                     rw [if_neg h1, if_neg hb, if_neg hn0]
                   exact ⟨_, _, rfl, rfl, by rw [hq]; exact hR.bq r27.2 r27.1⟩)
                | (have hq : fSheet w z n a1 a2 a3 = (-1000007, w, z, n) := by
                     unfold fSheet
                     rw [if_neg h1, if_neg hb, if_neg hn0]
                   exact ⟨_, _, rfl, rfl, by rw [hq]; exact hR.bq r28.2 r28.1⟩)
                | (have hq : fSheet w z n a1 a2 a3 = (-1000007, w, z, n) := by
                     unfold fSheet
                     rw [if_neg h1, if_neg hb, if_neg hn0]
                   exact ⟨_, _, rfl, rfl, by rw [hq]; exact hR.bq r29.2 r29.1⟩)
                | (have hq : fSheet w z n a1 a2 a3 = (-1000007, w, z, n) := by
                     unfold fSheet
                     rw [if_neg h1, if_neg hb, if_neg hn0]
                   exact ⟨_, _, rfl, rfl, by rw [hq]; exact hR.bq r30.2 r30.1⟩)
                | (have hq : fSheet w z n a1 a2 a3 = (-1000007, w, z, n) := by
                     unfold fSheet
                     rw [if_neg h1, if_neg hb, if_neg hn0]
                   exact ⟨_, _, rfl, rfl, by rw [hq]; exact hR.bq r31.2 r31.1⟩)
                | (have hq : fSheet w z n a1 a2 a3 = (-1000007, w, z, n) := by
                     unfold fSheet
                     rw [if_neg h1, if_neg hb, if_neg hn0]
                   exact ⟨_, _, rfl, rfl, by rw [hq]; exact hR.bq r32.2 r32.1⟩)
                | (have hq : fSheet w z n a1 a2 a3 = (-1000007, w, z, n) := by
                     unfold fSheet
                     rw [if_neg h1, if_neg hb, if_neg hn0]
                   exact ⟨_, _, rfl, rfl, by rw [hq]; exact hR.bq r33.2 r33.1⟩)
                | (have hq : fSheet w z n a1 a2 a3 = (-1000007, w, z, n) := by
                     unfold fSheet
                     rw [if_neg h1, if_neg hb, if_neg hn0]
                   exact ⟨_, _, rfl, rfl, by rw [hq]; exact hR.bq r34.2 r34.1⟩)
                | (have hq : fSheet w z n a1 a2 a3 = (-1000007, w, z, n) := by
                     unfold fSheet
                     rw [if_neg h1, if_neg hb, if_neg hn0]
                   exact ⟨_, _, rfl, rfl, by rw [hq]; exact hR.bq r35.2 r35.1⟩)
                | (have hq : fSheet w z n a1 a2 a3 = (-1000007, w, z, n) := by
                     unfold fSheet
                     rw [if_neg h1, if_neg hb, if_neg hn0]
                   exact ⟨_, _, rfl, rfl, by rw [hq]; exact hR.bq r36.2 r36.1⟩)
                | (have hq : fSheet w z n a1 a2 a3 = (-1000007, w, z, n) := by
                     unfold fSheet
                     rw [if_neg h1, if_neg hb, if_neg hn0]
                   exact ⟨_, _, rfl, rfl, by rw [hq]; exact hR.bq r37.2 r37.1⟩)
                | (have hq : fSheet w z n a1 a2 a3 = (-1000007, w, z, n) := by
                     unfold fSheet
                     rw [if_neg h1, if_neg hb, if_neg hn0]
                   exact ⟨_, _, rfl, rfl, by rw [hq]; exact hR.bq r38.2 r38.1⟩)
                | (have hq : fSheet w z n a1 a2 a3 = (-1000007, w, z, n) := by
                     unfold fSheet
                     rw [if_neg h1, if_neg hb, if_neg hn0]
                   exact ⟨_, _, rfl, rfl, by rw [hq]; exact hR.bq r39.2 r39.1⟩)
          · refine x_aload_n hm rfl rfl ?_
            refine x_ldcI hm rfl (v := (-1000001 : Int32)) (by decide +kernel) ?_
            refine x_cVi hm rfl rfl (t7 (by decide +kernel)) (fun v23 M23 r23 => ?_)
            refine x_iret hm rfl rfl (by first | rfl | exact bI_nar | decide) ?_
            first
              | (have hq : fSheet w z n a1 a2 a3 = (-1000001, w, z, n) := by
                   unfold fSheet
                   rw [if_pos h1]
                 exact ⟨_, _, rfl, rfl, by rw [hq]; exact hR.bq r23.2 r23.1⟩)
              | (have hq : fSheet w z n a1 a2 a3 = (-1000001, w, z, n) := by
                   unfold fSheet
                   rw [if_neg h1, if_pos (okb_f (by assumption) (by assumption) (by assumption) (by assumption))]
                 exact ⟨_, _, rfl, rfl, by rw [hq]; exact hR.bq r23.2 r23.1⟩)
              | (have hq : fSheet w z n a1 a2 a3 = (-1000001, w, z, n) := by
                   unfold fSheet
                   rw [if_pos h1]
                 exact ⟨_, _, rfl, rfl, by rw [hq]; exact hR.bq r1.2 r1.1⟩)
              | (have hq : fSheet w z n a1 a2 a3 = (-1000001, w, z, n) := by
                   unfold fSheet
                   rw [if_pos h1]
                 exact ⟨_, _, rfl, rfl, by rw [hq]; exact hR.bq r2.2 r2.1⟩)
              | (have hq : fSheet w z n a1 a2 a3 = (-1000001, w, z, n) := by
                   unfold fSheet
                   rw [if_pos h1]
                 exact ⟨_, _, rfl, rfl, by rw [hq]; exact hR.bq r3.2 r3.1⟩)
              | (have hq : fSheet w z n a1 a2 a3 = (-1000001, w, z, n) := by
                   unfold fSheet
                   rw [if_pos h1]
                 exact ⟨_, _, rfl, rfl, by rw [hq]; exact hR.bq r4.2 r4.1⟩)
              | (have hq : fSheet w z n a1 a2 a3 = (-1000001, w, z, n) := by
                   unfold fSheet
                   rw [if_pos h1]
                 exact ⟨_, _, rfl, rfl, by rw [hq]; exact hR.bq r5.2 r5.1⟩)
              | (have hq : fSheet w z n a1 a2 a3 = (-1000001, w, z, n) := by
                   unfold fSheet
                   rw [if_pos h1]
                 exact ⟨_, _, rfl, rfl, by rw [hq]; exact hR.bq r6.2 r6.1⟩)
              | (have hq : fSheet w z n a1 a2 a3 = (-1000001, w, z, n) := by
                   unfold fSheet
                   rw [if_pos h1]
                 exact ⟨_, _, rfl, rfl, by rw [hq]; exact hR.bq r7.2 r7.1⟩)
              | (have hq : fSheet w z n a1 a2 a3 = (-1000001, w, z, n) := by
                   unfold fSheet
                   rw [if_pos h1]
                 exact ⟨_, _, rfl, rfl, by rw [hq]; exact hR.bq r8.2 r8.1⟩)
              | (have hq : fSheet w z n a1 a2 a3 = (-1000001, w, z, n) := by
                   unfold fSheet
                   rw [if_pos h1]
                 exact ⟨_, _, rfl, rfl, by rw [hq]; exact hR.bq r9.2 r9.1⟩)
              | (have hq : fSheet w z n a1 a2 a3 = (-1000001, w, z, n) := by
                   unfold fSheet
                   rw [if_pos h1]
                 exact ⟨_, _, rfl, rfl, by rw [hq]; exact hR.bq r10.2 r10.1⟩)
              | (have hq : fSheet w z n a1 a2 a3 = (-1000001, w, z, n) := by
                   unfold fSheet
                   rw [if_pos h1]
                 exact ⟨_, _, rfl, rfl, by rw [hq]; exact hR.bq r11.2 r11.1⟩)
              | (have hq : fSheet w z n a1 a2 a3 = (-1000001, w, z, n) := by
                   unfold fSheet
                   rw [if_pos h1]
                 exact ⟨_, _, rfl, rfl, by rw [hq]; exact hR.bq r12.2 r12.1⟩)
              | (have hq : fSheet w z n a1 a2 a3 = (-1000001, w, z, n) := by
                   unfold fSheet
                   rw [if_pos h1]
                 exact ⟨_, _, rfl, rfl, by rw [hq]; exact hR.bq r13.2 r13.1⟩)
              | (have hq : fSheet w z n a1 a2 a3 = (-1000001, w, z, n) := by
                   unfold fSheet
                   rw [if_pos h1]
                 exact ⟨_, _, rfl, rfl, by rw [hq]; exact hR.bq r14.2 r14.1⟩)
              | (have hq : fSheet w z n a1 a2 a3 = (-1000001, w, z, n) := by
                   unfold fSheet
                   rw [if_pos h1]
                 exact ⟨_, _, rfl, rfl, by rw [hq]; exact hR.bq r15.2 r15.1⟩)
              | (have hq : fSheet w z n a1 a2 a3 = (-1000001, w, z, n) := by
                   unfold fSheet
                   rw [if_pos h1]
                 exact ⟨_, _, rfl, rfl, by rw [hq]; exact hR.bq r16.2 r16.1⟩)
              | (have hq : fSheet w z n a1 a2 a3 = (-1000001, w, z, n) := by
                   unfold fSheet
                   rw [if_pos h1]
                 exact ⟨_, _, rfl, rfl, by rw [hq]; exact hR.bq r17.2 r17.1⟩)
              | (have hq : fSheet w z n a1 a2 a3 = (-1000001, w, z, n) := by
                   unfold fSheet
                   rw [if_pos h1]
                 exact ⟨_, _, rfl, rfl, by rw [hq]; exact hR.bq r18.2 r18.1⟩)
              | (have hq : fSheet w z n a1 a2 a3 = (-1000001, w, z, n) := by
                   unfold fSheet
                   rw [if_pos h1]
                 exact ⟨_, _, rfl, rfl, by rw [hq]; exact hR.bq r19.2 r19.1⟩)
              | (have hq : fSheet w z n a1 a2 a3 = (-1000001, w, z, n) := by
                   unfold fSheet
                   rw [if_pos h1]
                 exact ⟨_, _, rfl, rfl, by rw [hq]; exact hR.bq r20.2 r20.1⟩)
              | (have hq : fSheet w z n a1 a2 a3 = (-1000001, w, z, n) := by
                   unfold fSheet
                   rw [if_pos h1]
                 exact ⟨_, _, rfl, rfl, by rw [hq]; exact hR.bq r21.2 r21.1⟩)
              | (have hq : fSheet w z n a1 a2 a3 = (-1000001, w, z, n) := by
                   unfold fSheet
                   rw [if_pos h1]
                 exact ⟨_, _, rfl, rfl, by rw [hq]; exact hR.bq r22.2 r22.1⟩)
              | (have hq : fSheet w z n a1 a2 a3 = (-1000001, w, z, n) := by
                   unfold fSheet
                   rw [if_pos h1]
                 exact ⟨_, _, rfl, rfl, by rw [hq]; exact hR.bq r24.2 r24.1⟩)
              | (have hq : fSheet w z n a1 a2 a3 = (-1000001, w, z, n) := by
                   unfold fSheet
                   rw [if_pos h1]
                 exact ⟨_, _, rfl, rfl, by rw [hq]; exact hR.bq r25.2 r25.1⟩)
              | (have hq : fSheet w z n a1 a2 a3 = (-1000001, w, z, n) := by
                   unfold fSheet
                   rw [if_pos h1]
                 exact ⟨_, _, rfl, rfl, by rw [hq]; exact hR.bq r26.2 r26.1⟩)
              | (have hq : fSheet w z n a1 a2 a3 = (-1000001, w, z, n) := by
                   unfold fSheet
                   rw [if_pos h1]
                 exact ⟨_, _, rfl, rfl, by rw [hq]; exact hR.bq r27.2 r27.1⟩)
              | (have hq : fSheet w z n a1 a2 a3 = (-1000001, w, z, n) := by
                   unfold fSheet
                   rw [if_pos h1]
                 exact ⟨_, _, rfl, rfl, by rw [hq]; exact hR.bq r28.2 r28.1⟩)
              | (have hq : fSheet w z n a1 a2 a3 = (-1000001, w, z, n) := by
                   unfold fSheet
                   rw [if_pos h1]
                 exact ⟨_, _, rfl, rfl, by rw [hq]; exact hR.bq r29.2 r29.1⟩)
              | (have hq : fSheet w z n a1 a2 a3 = (-1000001, w, z, n) := by
                   unfold fSheet
                   rw [if_pos h1]
                 exact ⟨_, _, rfl, rfl, by rw [hq]; exact hR.bq r30.2 r30.1⟩)
              | (have hq : fSheet w z n a1 a2 a3 = (-1000001, w, z, n) := by
                   unfold fSheet
                   rw [if_pos h1]
                 exact ⟨_, _, rfl, rfl, by rw [hq]; exact hR.bq r31.2 r31.1⟩)
              | (have hq : fSheet w z n a1 a2 a3 = (-1000001, w, z, n) := by
                   unfold fSheet
                   rw [if_pos h1]
                 exact ⟨_, _, rfl, rfl, by rw [hq]; exact hR.bq r32.2 r32.1⟩)
              | (have hq : fSheet w z n a1 a2 a3 = (-1000001, w, z, n) := by
                   unfold fSheet
                   rw [if_pos h1]
                 exact ⟨_, _, rfl, rfl, by rw [hq]; exact hR.bq r33.2 r33.1⟩)
              | (have hq : fSheet w z n a1 a2 a3 = (-1000001, w, z, n) := by
                   unfold fSheet
                   rw [if_pos h1]
                 exact ⟨_, _, rfl, rfl, by rw [hq]; exact hR.bq r34.2 r34.1⟩)
              | (have hq : fSheet w z n a1 a2 a3 = (-1000001, w, z, n) := by
                   unfold fSheet
                   rw [if_pos h1]
                 exact ⟨_, _, rfl, rfl, by rw [hq]; exact hR.bq r35.2 r35.1⟩)
              | (have hq : fSheet w z n a1 a2 a3 = (-1000001, w, z, n) := by
                   unfold fSheet
                   rw [if_pos h1]
                 exact ⟨_, _, rfl, rfl, by rw [hq]; exact hR.bq r36.2 r36.1⟩)
              | (have hq : fSheet w z n a1 a2 a3 = (-1000001, w, z, n) := by
                   unfold fSheet
                   rw [if_pos h1]
                 exact ⟨_, _, rfl, rfl, by rw [hq]; exact hR.bq r37.2 r37.1⟩)
              | (have hq : fSheet w z n a1 a2 a3 = (-1000001, w, z, n) := by
                   unfold fSheet
                   rw [if_pos h1]
                 exact ⟨_, _, rfl, rfl, by rw [hq]; exact hR.bq r38.2 r38.1⟩)
              | (have hq : fSheet w z n a1 a2 a3 = (-1000001, w, z, n) := by
                   unfold fSheet
                   rw [if_pos h1]
                 exact ⟨_, _, rfl, rfl, by rw [hq]; exact hR.bq r39.2 r39.1⟩)
              | (have hq : fSheet w z n a1 a2 a3 = (-1000001, w, z, n) := by
                   unfold fSheet
                   rw [if_neg h1, if_pos (okb_f (by assumption) (by assumption) (by assumption) (by assumption))]
                 exact ⟨_, _, rfl, rfl, by rw [hq]; exact hR.bq r1.2 r1.1⟩)
              | (have hq : fSheet w z n a1 a2 a3 = (-1000001, w, z, n) := by
                   unfold fSheet
                   rw [if_neg h1, if_pos (okb_f (by assumption) (by assumption) (by assumption) (by assumption))]
                 exact ⟨_, _, rfl, rfl, by rw [hq]; exact hR.bq r2.2 r2.1⟩)
              | (have hq : fSheet w z n a1 a2 a3 = (-1000001, w, z, n) := by
                   unfold fSheet
                   rw [if_neg h1, if_pos (okb_f (by assumption) (by assumption) (by assumption) (by assumption))]
                 exact ⟨_, _, rfl, rfl, by rw [hq]; exact hR.bq r3.2 r3.1⟩)
              | (have hq : fSheet w z n a1 a2 a3 = (-1000001, w, z, n) := by
                   unfold fSheet
                   rw [if_neg h1, if_pos (okb_f (by assumption) (by assumption) (by assumption) (by assumption))]
                 exact ⟨_, _, rfl, rfl, by rw [hq]; exact hR.bq r4.2 r4.1⟩)
              | (have hq : fSheet w z n a1 a2 a3 = (-1000001, w, z, n) := by
                   unfold fSheet
                   rw [if_neg h1, if_pos (okb_f (by assumption) (by assumption) (by assumption) (by assumption))]
                 exact ⟨_, _, rfl, rfl, by rw [hq]; exact hR.bq r5.2 r5.1⟩)
              | (have hq : fSheet w z n a1 a2 a3 = (-1000001, w, z, n) := by
                   unfold fSheet
                   rw [if_neg h1, if_pos (okb_f (by assumption) (by assumption) (by assumption) (by assumption))]
                 exact ⟨_, _, rfl, rfl, by rw [hq]; exact hR.bq r6.2 r6.1⟩)
              | (have hq : fSheet w z n a1 a2 a3 = (-1000001, w, z, n) := by
                   unfold fSheet
                   rw [if_neg h1, if_pos (okb_f (by assumption) (by assumption) (by assumption) (by assumption))]
                 exact ⟨_, _, rfl, rfl, by rw [hq]; exact hR.bq r7.2 r7.1⟩)
              | (have hq : fSheet w z n a1 a2 a3 = (-1000001, w, z, n) := by
                   unfold fSheet
                   rw [if_neg h1, if_pos (okb_f (by assumption) (by assumption) (by assumption) (by assumption))]
                 exact ⟨_, _, rfl, rfl, by rw [hq]; exact hR.bq r8.2 r8.1⟩)
              | (have hq : fSheet w z n a1 a2 a3 = (-1000001, w, z, n) := by
                   unfold fSheet
                   rw [if_neg h1, if_pos (okb_f (by assumption) (by assumption) (by assumption) (by assumption))]
                 exact ⟨_, _, rfl, rfl, by rw [hq]; exact hR.bq r9.2 r9.1⟩)
              | (have hq : fSheet w z n a1 a2 a3 = (-1000001, w, z, n) := by
                   unfold fSheet
                   rw [if_neg h1, if_pos (okb_f (by assumption) (by assumption) (by assumption) (by assumption))]
                 exact ⟨_, _, rfl, rfl, by rw [hq]; exact hR.bq r10.2 r10.1⟩)
              | (have hq : fSheet w z n a1 a2 a3 = (-1000001, w, z, n) := by
                   unfold fSheet
                   rw [if_neg h1, if_pos (okb_f (by assumption) (by assumption) (by assumption) (by assumption))]
                 exact ⟨_, _, rfl, rfl, by rw [hq]; exact hR.bq r11.2 r11.1⟩)
              | (have hq : fSheet w z n a1 a2 a3 = (-1000001, w, z, n) := by
                   unfold fSheet
                   rw [if_neg h1, if_pos (okb_f (by assumption) (by assumption) (by assumption) (by assumption))]
                 exact ⟨_, _, rfl, rfl, by rw [hq]; exact hR.bq r12.2 r12.1⟩)
              | (have hq : fSheet w z n a1 a2 a3 = (-1000001, w, z, n) := by
                   unfold fSheet
                   rw [if_neg h1, if_pos (okb_f (by assumption) (by assumption) (by assumption) (by assumption))]
                 exact ⟨_, _, rfl, rfl, by rw [hq]; exact hR.bq r13.2 r13.1⟩)
              | (have hq : fSheet w z n a1 a2 a3 = (-1000001, w, z, n) := by
                   unfold fSheet
                   rw [if_neg h1, if_pos (okb_f (by assumption) (by assumption) (by assumption) (by assumption))]
                 exact ⟨_, _, rfl, rfl, by rw [hq]; exact hR.bq r14.2 r14.1⟩)
              | (have hq : fSheet w z n a1 a2 a3 = (-1000001, w, z, n) := by
                   unfold fSheet
                   rw [if_neg h1, if_pos (okb_f (by assumption) (by assumption) (by assumption) (by assumption))]
                 exact ⟨_, _, rfl, rfl, by rw [hq]; exact hR.bq r15.2 r15.1⟩)
              | (have hq : fSheet w z n a1 a2 a3 = (-1000001, w, z, n) := by
                   unfold fSheet
                   rw [if_neg h1, if_pos (okb_f (by assumption) (by assumption) (by assumption) (by assumption))]
                 exact ⟨_, _, rfl, rfl, by rw [hq]; exact hR.bq r16.2 r16.1⟩)
              | (have hq : fSheet w z n a1 a2 a3 = (-1000001, w, z, n) := by
                   unfold fSheet
                   rw [if_neg h1, if_pos (okb_f (by assumption) (by assumption) (by assumption) (by assumption))]
                 exact ⟨_, _, rfl, rfl, by rw [hq]; exact hR.bq r17.2 r17.1⟩)
              | (have hq : fSheet w z n a1 a2 a3 = (-1000001, w, z, n) := by
                   unfold fSheet
                   rw [if_neg h1, if_pos (okb_f (by assumption) (by assumption) (by assumption) (by assumption))]
                 exact ⟨_, _, rfl, rfl, by rw [hq]; exact hR.bq r18.2 r18.1⟩)
              | (have hq : fSheet w z n a1 a2 a3 = (-1000001, w, z, n) := by
                   unfold fSheet
                   rw [if_neg h1, if_pos (okb_f (by assumption) (by assumption) (by assumption) (by assumption))]
                 exact ⟨_, _, rfl, rfl, by rw [hq]; exact hR.bq r19.2 r19.1⟩)
              | (have hq : fSheet w z n a1 a2 a3 = (-1000001, w, z, n) := by
                   unfold fSheet
                   rw [if_neg h1, if_pos (okb_f (by assumption) (by assumption) (by assumption) (by assumption))]
                 exact ⟨_, _, rfl, rfl, by rw [hq]; exact hR.bq r20.2 r20.1⟩)
              | (have hq : fSheet w z n a1 a2 a3 = (-1000001, w, z, n) := by
                   unfold fSheet
                   rw [if_neg h1, if_pos (okb_f (by assumption) (by assumption) (by assumption) (by assumption))]
                 exact ⟨_, _, rfl, rfl, by rw [hq]; exact hR.bq r21.2 r21.1⟩)
              | (have hq : fSheet w z n a1 a2 a3 = (-1000001, w, z, n) := by
                   unfold fSheet
                   rw [if_neg h1, if_pos (okb_f (by assumption) (by assumption) (by assumption) (by assumption))]
                 exact ⟨_, _, rfl, rfl, by rw [hq]; exact hR.bq r22.2 r22.1⟩)
              | (have hq : fSheet w z n a1 a2 a3 = (-1000001, w, z, n) := by
                   unfold fSheet
                   rw [if_neg h1, if_pos (okb_f (by assumption) (by assumption) (by assumption) (by assumption))]
                 exact ⟨_, _, rfl, rfl, by rw [hq]; exact hR.bq r24.2 r24.1⟩)
              | (have hq : fSheet w z n a1 a2 a3 = (-1000001, w, z, n) := by
                   unfold fSheet
                   rw [if_neg h1, if_pos (okb_f (by assumption) (by assumption) (by assumption) (by assumption))]
                 exact ⟨_, _, rfl, rfl, by rw [hq]; exact hR.bq r25.2 r25.1⟩)
              | (have hq : fSheet w z n a1 a2 a3 = (-1000001, w, z, n) := by
                   unfold fSheet
                   rw [if_neg h1, if_pos (okb_f (by assumption) (by assumption) (by assumption) (by assumption))]
                 exact ⟨_, _, rfl, rfl, by rw [hq]; exact hR.bq r26.2 r26.1⟩)
              | (have hq : fSheet w z n a1 a2 a3 = (-1000001, w, z, n) := by
                   unfold fSheet
                   rw [if_neg h1, if_pos (okb_f (by assumption) (by assumption) (by assumption) (by assumption))]
                 exact ⟨_, _, rfl, rfl, by rw [hq]; exact hR.bq r27.2 r27.1⟩)
              | (have hq : fSheet w z n a1 a2 a3 = (-1000001, w, z, n) := by
                   unfold fSheet
                   rw [if_neg h1, if_pos (okb_f (by assumption) (by assumption) (by assumption) (by assumption))]
                 exact ⟨_, _, rfl, rfl, by rw [hq]; exact hR.bq r28.2 r28.1⟩)
              | (have hq : fSheet w z n a1 a2 a3 = (-1000001, w, z, n) := by
                   unfold fSheet
                   rw [if_neg h1, if_pos (okb_f (by assumption) (by assumption) (by assumption) (by assumption))]
                 exact ⟨_, _, rfl, rfl, by rw [hq]; exact hR.bq r29.2 r29.1⟩)
              | (have hq : fSheet w z n a1 a2 a3 = (-1000001, w, z, n) := by
                   unfold fSheet
                   rw [if_neg h1, if_pos (okb_f (by assumption) (by assumption) (by assumption) (by assumption))]
                 exact ⟨_, _, rfl, rfl, by rw [hq]; exact hR.bq r30.2 r30.1⟩)
              | (have hq : fSheet w z n a1 a2 a3 = (-1000001, w, z, n) := by
                   unfold fSheet
                   rw [if_neg h1, if_pos (okb_f (by assumption) (by assumption) (by assumption) (by assumption))]
                 exact ⟨_, _, rfl, rfl, by rw [hq]; exact hR.bq r31.2 r31.1⟩)
              | (have hq : fSheet w z n a1 a2 a3 = (-1000001, w, z, n) := by
                   unfold fSheet
                   rw [if_neg h1, if_pos (okb_f (by assumption) (by assumption) (by assumption) (by assumption))]
                 exact ⟨_, _, rfl, rfl, by rw [hq]; exact hR.bq r32.2 r32.1⟩)
              | (have hq : fSheet w z n a1 a2 a3 = (-1000001, w, z, n) := by
                   unfold fSheet
                   rw [if_neg h1, if_pos (okb_f (by assumption) (by assumption) (by assumption) (by assumption))]
                 exact ⟨_, _, rfl, rfl, by rw [hq]; exact hR.bq r33.2 r33.1⟩)
              | (have hq : fSheet w z n a1 a2 a3 = (-1000001, w, z, n) := by
                   unfold fSheet
                   rw [if_neg h1, if_pos (okb_f (by assumption) (by assumption) (by assumption) (by assumption))]
                 exact ⟨_, _, rfl, rfl, by rw [hq]; exact hR.bq r34.2 r34.1⟩)
              | (have hq : fSheet w z n a1 a2 a3 = (-1000001, w, z, n) := by
                   unfold fSheet
                   rw [if_neg h1, if_pos (okb_f (by assumption) (by assumption) (by assumption) (by assumption))]
                 exact ⟨_, _, rfl, rfl, by rw [hq]; exact hR.bq r35.2 r35.1⟩)
              | (have hq : fSheet w z n a1 a2 a3 = (-1000001, w, z, n) := by
                   unfold fSheet
                   rw [if_neg h1, if_pos (okb_f (by assumption) (by assumption) (by assumption) (by assumption))]
                 exact ⟨_, _, rfl, rfl, by rw [hq]; exact hR.bq r36.2 r36.1⟩)
              | (have hq : fSheet w z n a1 a2 a3 = (-1000001, w, z, n) := by
                   unfold fSheet
                   rw [if_neg h1, if_pos (okb_f (by assumption) (by assumption) (by assumption) (by assumption))]
                 exact ⟨_, _, rfl, rfl, by rw [hq]; exact hR.bq r37.2 r37.1⟩)
              | (have hq : fSheet w z n a1 a2 a3 = (-1000001, w, z, n) := by
                   unfold fSheet
                   rw [if_neg h1, if_pos (okb_f (by assumption) (by assumption) (by assumption) (by assumption))]
                 exact ⟨_, _, rfl, rfl, by rw [hq]; exact hR.bq r38.2 r38.1⟩)
              | (have hq : fSheet w z n a1 a2 a3 = (-1000001, w, z, n) := by
                   unfold fSheet
                   rw [if_neg h1, if_pos (okb_f (by assumption) (by assumption) (by assumption) (by assumption))]
                 exact ⟨_, _, rfl, rfl, by rw [hq]; exact hR.bq r39.2 r39.1⟩)
theorem g77 {a1 : Int32} (hR : Rs w z n M) : mT X 77 [.ref 0, .int a1] (con M) (some (.int (lkS w a1))) (con M) := by
  refine mT.of (row := _) rfl (Nat.le_of_ble_eq_true rfl) ?_
  have hm : mMet 77 = some _ := rfl
  refine x_iload_n hm rfl rfl ?_
  refine x_callS hm rfl rfl (t78) ?_
  refine x_if_ne hm rfl (t := 10) rfl (fun h1 => ?_) (fun h1 => ?_)
  · obtain ⟨s, hs, rfl⟩ := le_k (by omega) (bI_ne0 h1)
    have hw := (hR s (by omega)).1
    refine x_aload_n hm rfl rfl ?_
    refine x_getf hm rfl (gR rfl rfl) ?_
    refine x_iload_n hm rfl rfl ?_
    refine x_aald hm rfl (by first | exact lQ 2 (Or.inl rfl) rfl (shk hs) (by omega) (by decide) | exact lQ 3 (Or.inr (Or.inl rfl)) rfl rfl (by omega) (by decide)) ?_
    refine x_callV hm rfl (by first | exact mCallSh hs (by decide) rfl rfl rfl rfl rfl) (t79 hs) ?_
    refine x_if_eq hm rfl (t := 27) rfl (fun h2 => ?_) (fun h2 => ?_)
    · have hg := lkS_c (w := w) hs (fun q => absurd h2 (by rw [bI_eq0]; exact fun g => g (hw.trans q)))
      refine x_iconst hm rfl (v := nI 0) (by decide) ?_
      refine x_iret hm rfl rfl (by first | rfl | exact bI_nar | decide) ?_
      exact qt (congrArg Value.int hg.symm)
    · have hg := lkS_b (w := w) hs (hw.symm.trans (bI_ne0 h2))
      refine x_ldcI hm rfl (v := (-1000006 : Int32)) (by decide +kernel) ?_
      refine x_goto hm rfl (t := 28) rfl ?_
      refine x_iret hm rfl rfl (by first | rfl | exact bI_nar | decide) ?_
      exact qt (congrArg Value.int hg.symm)
  · have ha := lkS_a (w := w) h1
    refine x_ldcI hm rfl (v := (-1000001 : Int32)) (by decide +kernel) ?_
    refine x_iret hm rfl rfl (by first | rfl | exact bI_nar | decide) ?_
    exact qt (congrArg Value.int ha.symm)
theorem g118 {a1 a2 a3 : Int32} (hR : Rs w z n M) (hz : ∀ u, u < 4 → ∃ k, k ≤ 40 ∧ z u = nI k) : ∃ v M', mT X 118 [.ref 0, .int a1, .int a2, .int a3] (con M) (some (.int v)) (con M') ∧ Gq (fWrite w z n a1 a2 a3) v M M' := by
  refine ti_of (row := _) rfl (Nat.le_of_ble_eq_true rfl) ?_
  have hm : mMet 118 = some _ := rfl
  refine x_aload_n hm rfl rfl ?_
  refine x_iload_n hm rfl rfl ?_
  refine x_callV hm rfl rfl (g77 hR) ?_
  refine x_istore hm rfl rfl ?_
  refine x_iload hm rfl rfl ?_
  refine x_if_eq hm rfl (t := 19) rfl (fun h1 => ?_) (fun h1 => ?_)
  · have hlk := h1
    obtain ⟨s, hs, hs3, hw0⟩ := lkS_0 hlk
    subst hs3
    obtain ⟨k, hk, hzk⟩ := hz s (by omega)
    have hRs := hR s (by omega)
    refine x_iload_n hm rfl rfl ?_
    refine x_iconst hm rfl (v := nI 0) (by decide) ?_
    refine x_aload_n hm rfl rfl ?_
    refine x_getf hm rfl (gR rfl rfl) ?_
    refine x_iload_n hm rfl rfl ?_
    refine x_aald hm rfl (by first | exact lQ 2 (Or.inl rfl) rfl (shk hs) (by omega) (by decide) | exact lQ 3 (Or.inr (Or.inl rfl)) rfl rfl (by omega) (by decide)) ?_
    refine x_getf hm rfl (by first | exact gI (sO hs) rfl) ?_
    rw [hRs.2.1]
    refine x_iconst hm rfl (v := nI 1) (by decide) ?_
    refine x_isub hm rfl ?_
    refine x_callS hm rfl rfl (t6) ?_
    refine x_if_ne hm rfl (t := 45) rfl (fun h2 => ?_) (fun h2 => ?_)
    · have hj := h2
      obtain ⟨i, hi, rfl⟩ := in_k hzk (by omega) (bI_ne0 hj)
      refine x_aload_n hm rfl rfl ?_
      refine x_getf hm rfl (gR rfl rfl) ?_
      refine x_iload_n hm rfl rfl ?_
      refine x_aald hm rfl (by first | exact lQ 2 (Or.inl rfl) rfl (shk hs) (by omega) (by decide) | exact lQ 3 (Or.inr (Or.inl rfl)) rfl rfl (by omega) (by decide)) ?_
      refine x_iload_n hm rfl rfl ?_
      refine x_iload_n hm rfl rfl ?_
      refine x_cVv hm rfl (by first | exact mCallSh hs (by decide) rfl rfl rfl rfl rfl) (g119 hs (by omega)) (fun M3 r3 => ?_)
      refine x_iconst hm rfl (v := nI 1) (by decide) ?_
      refine x_iret hm rfl rfl (by first | rfl | exact bI_nar | decide) ?_
      first
        | (obtain rfl := r3
           have hq : fWrite w z n (nI s) (nI i) a3 = (nI 1, w, z, put1 n (40 * s + i) (cut (w s) a3)) := by
             unfold fWrite
             rw [if_neg (not_not_intro hlk), jI_nat (by omega), if_neg hj, jI_nat (by omega)]
           exact ⟨_, _, rfl, rfl, by rw [hq]; exact ⟨rfl, by rw [hRs.1]; exact hR.put hs (by omega), fun a ha => mpo (by omega)⟩⟩)
        | (obtain rfl := r1
           have hq : fWrite w z n (nI s) (nI i) a3 = (nI 1, w, z, put1 n (40 * s + i) (cut (w s) a3)) := by
             unfold fWrite
             rw [if_neg (not_not_intro hlk), jI_nat (by omega), if_neg hj, jI_nat (by omega)]
           exact ⟨_, _, rfl, rfl, by rw [hq]; exact ⟨rfl, by rw [hRs.1]; exact hR.put hs (by omega), fun a ha => mpo (by omega)⟩⟩)
        | (obtain rfl := r2
           have hq : fWrite w z n (nI s) (nI i) a3 = (nI 1, w, z, put1 n (40 * s + i) (cut (w s) a3)) := by
             unfold fWrite
             rw [if_neg (not_not_intro hlk), jI_nat (by omega), if_neg hj, jI_nat (by omega)]
           exact ⟨_, _, rfl, rfl, by rw [hq]; exact ⟨rfl, by rw [hRs.1]; exact hR.put hs (by omega), fun a ha => mpo (by omega)⟩⟩)
        | (obtain rfl := r4
           have hq : fWrite w z n (nI s) (nI i) a3 = (nI 1, w, z, put1 n (40 * s + i) (cut (w s) a3)) := by
             unfold fWrite
             rw [if_neg (not_not_intro hlk), jI_nat (by omega), if_neg hj, jI_nat (by omega)]
           exact ⟨_, _, rfl, rfl, by rw [hq]; exact ⟨rfl, by rw [hRs.1]; exact hR.put hs (by omega), fun a ha => mpo (by omega)⟩⟩)
        | (obtain rfl := r5
           have hq : fWrite w z n (nI s) (nI i) a3 = (nI 1, w, z, put1 n (40 * s + i) (cut (w s) a3)) := by
             unfold fWrite
             rw [if_neg (not_not_intro hlk), jI_nat (by omega), if_neg hj, jI_nat (by omega)]
           exact ⟨_, _, rfl, rfl, by rw [hq]; exact ⟨rfl, by rw [hRs.1]; exact hR.put hs (by omega), fun a ha => mpo (by omega)⟩⟩)
        | (obtain rfl := r6
           have hq : fWrite w z n (nI s) (nI i) a3 = (nI 1, w, z, put1 n (40 * s + i) (cut (w s) a3)) := by
             unfold fWrite
             rw [if_neg (not_not_intro hlk), jI_nat (by omega), if_neg hj, jI_nat (by omega)]
           exact ⟨_, _, rfl, rfl, by rw [hq]; exact ⟨rfl, by rw [hRs.1]; exact hR.put hs (by omega), fun a ha => mpo (by omega)⟩⟩)
        | (obtain rfl := r7
           have hq : fWrite w z n (nI s) (nI i) a3 = (nI 1, w, z, put1 n (40 * s + i) (cut (w s) a3)) := by
             unfold fWrite
             rw [if_neg (not_not_intro hlk), jI_nat (by omega), if_neg hj, jI_nat (by omega)]
           exact ⟨_, _, rfl, rfl, by rw [hq]; exact ⟨rfl, by rw [hRs.1]; exact hR.put hs (by omega), fun a ha => mpo (by omega)⟩⟩)
        | (obtain rfl := r8
           have hq : fWrite w z n (nI s) (nI i) a3 = (nI 1, w, z, put1 n (40 * s + i) (cut (w s) a3)) := by
             unfold fWrite
             rw [if_neg (not_not_intro hlk), jI_nat (by omega), if_neg hj, jI_nat (by omega)]
           exact ⟨_, _, rfl, rfl, by rw [hq]; exact ⟨rfl, by rw [hRs.1]; exact hR.put hs (by omega), fun a ha => mpo (by omega)⟩⟩)
    · refine x_aload_n hm rfl rfl ?_
      refine x_ldcI hm rfl (v := (-1000001 : Int32)) (by decide +kernel) ?_
      refine x_cVi hm rfl rfl (t7 (by decide +kernel)) (fun v4 M4 r4 => ?_)
      refine x_iret hm rfl rfl (by first | rfl | exact bI_nar | decide) ?_
      first
        | (have hq : fWrite w z n (nI s) a2 a3 = (-1000001, w, z, n) := by
             unfold fWrite
             rw [if_neg (not_not_intro hlk), jI_nat (by omega), if_pos (by assumption)]
           exact ⟨_, _, rfl, rfl, by rw [hq]; exact hR.bq r4.2 r4.1⟩)
        | (have hq : fWrite w z n (nI s) a2 a3 = (-1000001, w, z, n) := by
             unfold fWrite
             rw [if_neg (not_not_intro hlk), jI_nat (by omega), if_pos (by assumption)]
           exact ⟨_, _, rfl, rfl, by rw [hq]; exact hR.bq r1.2 r1.1⟩)
        | (have hq : fWrite w z n (nI s) a2 a3 = (-1000001, w, z, n) := by
             unfold fWrite
             rw [if_neg (not_not_intro hlk), jI_nat (by omega), if_pos (by assumption)]
           exact ⟨_, _, rfl, rfl, by rw [hq]; exact hR.bq r2.2 r2.1⟩)
        | (have hq : fWrite w z n (nI s) a2 a3 = (-1000001, w, z, n) := by
             unfold fWrite
             rw [if_neg (not_not_intro hlk), jI_nat (by omega), if_pos (by assumption)]
           exact ⟨_, _, rfl, rfl, by rw [hq]; exact hR.bq r3.2 r3.1⟩)
        | (have hq : fWrite w z n (nI s) a2 a3 = (-1000001, w, z, n) := by
             unfold fWrite
             rw [if_neg (not_not_intro hlk), jI_nat (by omega), if_pos (by assumption)]
           exact ⟨_, _, rfl, rfl, by rw [hq]; exact hR.bq r5.2 r5.1⟩)
        | (have hq : fWrite w z n (nI s) a2 a3 = (-1000001, w, z, n) := by
             unfold fWrite
             rw [if_neg (not_not_intro hlk), jI_nat (by omega), if_pos (by assumption)]
           exact ⟨_, _, rfl, rfl, by rw [hq]; exact hR.bq r6.2 r6.1⟩)
        | (have hq : fWrite w z n (nI s) a2 a3 = (-1000001, w, z, n) := by
             unfold fWrite
             rw [if_neg (not_not_intro hlk), jI_nat (by omega), if_pos (by assumption)]
           exact ⟨_, _, rfl, rfl, by rw [hq]; exact hR.bq r7.2 r7.1⟩)
        | (have hq : fWrite w z n (nI s) a2 a3 = (-1000001, w, z, n) := by
             unfold fWrite
             rw [if_neg (not_not_intro hlk), jI_nat (by omega), if_pos (by assumption)]
           exact ⟨_, _, rfl, rfl, by rw [hq]; exact hR.bq r8.2 r8.1⟩)
  · refine x_aload_n hm rfl rfl ?_
    refine x_iload hm rfl rfl ?_
    refine x_cVi hm rfl rfl (t7 (lkS_fd h1)) (fun v5 M5 r5 => ?_)
    refine x_iret hm rfl rfl (by first | rfl | exact bI_nar | decide) ?_
    first
      | (have hq : fWrite w z n a1 a2 a3 = (lkS w a1, w, z, n) := by
           unfold fWrite
           rw [if_pos h1]
         exact ⟨_, _, rfl, rfl, by rw [hq]; exact hR.bq r5.2 r5.1⟩)
      | (have hq : fWrite w z n a1 a2 a3 = (lkS w a1, w, z, n) := by
           unfold fWrite
           rw [if_pos h1]
         exact ⟨_, _, rfl, rfl, by rw [hq]; exact hR.bq r1.2 r1.1⟩)
      | (have hq : fWrite w z n a1 a2 a3 = (lkS w a1, w, z, n) := by
           unfold fWrite
           rw [if_pos h1]
         exact ⟨_, _, rfl, rfl, by rw [hq]; exact hR.bq r2.2 r2.1⟩)
      | (have hq : fWrite w z n a1 a2 a3 = (lkS w a1, w, z, n) := by
           unfold fWrite
           rw [if_pos h1]
         exact ⟨_, _, rfl, rfl, by rw [hq]; exact hR.bq r3.2 r3.1⟩)
      | (have hq : fWrite w z n a1 a2 a3 = (lkS w a1, w, z, n) := by
           unfold fWrite
           rw [if_pos h1]
         exact ⟨_, _, rfl, rfl, by rw [hq]; exact hR.bq r4.2 r4.1⟩)
      | (have hq : fWrite w z n a1 a2 a3 = (lkS w a1, w, z, n) := by
           unfold fWrite
           rw [if_pos h1]
         exact ⟨_, _, rfl, rfl, by rw [hq]; exact hR.bq r6.2 r6.1⟩)
      | (have hq : fWrite w z n a1 a2 a3 = (lkS w a1, w, z, n) := by
           unfold fWrite
           rw [if_pos h1]
         exact ⟨_, _, rfl, rfl, by rw [hq]; exact hR.bq r7.2 r7.1⟩)
      | (have hq : fWrite w z n a1 a2 a3 = (lkS w a1, w, z, n) := by
           unfold fWrite
           rw [if_pos h1]
         exact ⟨_, _, rfl, rfl, by rw [hq]; exact hR.bq r8.2 r8.1⟩)
theorem m234 {a2 a3 b l : Int32} (hs : s ≤ 3) : ∀ (n k : Nat) (M1 : mM), 40 - k < n → k ≤ 40 → Lr s b l k M M1 → mEv X (QI (fun v M' => v = l ∧ Lr s b l 40 M M')) 234 86 [some (.ref 66), some (.int (nI s)), some (.int a2), some (.int a3), some (.int (nI k))] [] (con M1) := by
  have hm : mMet 234 = some _ := rfl
  intro n
  induction n with
  | zero =>
    intro k M1 hkn hkb hS
    omega
  | succ n ih =>
    intro k M1 hkn hkb hS
    refine x_iload hm rfl rfl ?_
    refine x_bipush hm rfl (v := nI 40) (by decide) ?_
    refine x_icmp_ge hm rfl (t := 112) rfl (fun h1 => ?_) (fun h1 => ?_)
    · obtain rfl : k = 40 := Nat.le_antisymm hkb ((jI_le (by decide) (by omega)).mp h1)
      refine x_aload_n hm rfl rfl ?_
      refine x_getf hm rfl (gR rfl rfl) ?_
      refine x_iload_n hm rfl rfl ?_
      refine x_iald hm rfl (lI rfl (by omega) (by decide)) ?_
      refine x_iret hm rfl rfl (by first | rfl | exact bI_nar | decide) ?_
      exact ⟨_, _, rfl, rfl, (congrFun hS.2.1 s).trans put1_s, hS⟩
    · have hk : k < 40 := Nat.lt_of_not_le fun h => h1 (nI_le h (by omega))
      refine x_aload_n hm rfl rfl ?_
      refine x_getf hm rfl (gR rfl rfl) ?_
      refine x_bipush hm rfl (v := nI 40) (by decide) ?_
      refine x_iload_n hm rfl rfl ?_
      refine x_imul hm rfl ?_
      rw [jI_mul]
      refine x_iload hm rfl rfl ?_
      refine x_iadd hm rfl ?_
      rw [jI_add]
      refine x_iconst hm rfl (v := nI 0) (by decide) ?_
      refine x_iast hm rfl (sI rfl (by omega) (by decide)) ?_
      refine x_iinc hm rfl rfl (v := nI 1) (by decide) rfl ?_
      rw [jI_add]
      refine x_goto hm rfl (t := 86) rfl ?_
      refine ih _ _ (by omega) (by omega) ⟨(mpo (by decide)).trans hS.1, (mpo (by decide)).trans hS.2.1, fun i => ?_, fun a h1 h2 h3 => (mpo h3).trans (hS.2.2.2 a h1 h2 h3)⟩
      by_cases e : i = 40 * s + k
      · subst e
        rw [mp0, if_pos ⟨by omega, by omega⟩]
      · rw [mpf e, hS.2.2.1 i]
        by_cases g : 40 * s ≤ i ∧ i < 40 * s + k
        · rw [if_pos g, if_pos ⟨by omega, by omega⟩]
        · rw [if_neg g, if_neg (by omega)]
theorem g234e {a2 a3 : Int32} (hs : s ≤ 3) : mEv X (QI (fun v M' => Hq ((if a2 = 0 then nI 0 else a3), put1 (M 76) s a2, put1 (M 77) s (if a2 = 0 then nI 0 else a3), clr (M 78) s) v M M')) 234 61 [some (.ref 66), some (.int (nI s)), some (.int a2), some (.int a3), none] [] (con M) := by
  have hm : mMet 234 = some _ := rfl
  refine x_aload_n hm rfl rfl ?_
  refine x_getf hm rfl (gR rfl rfl) ?_
  refine x_iload_n hm rfl rfl ?_
  refine x_iload_n hm rfl rfl ?_
  refine x_iast hm rfl (sI rfl (by omega) (by decide)) ?_
  refine x_aload_n hm rfl rfl ?_
  refine x_getf hm rfl (gR rfl rfl) ?_
  refine x_iload_n hm rfl rfl ?_
  refine x_iload_n hm rfl rfl ?_
  refine x_if_ne hm rfl (t := 81) rfl (fun h1 => ?_) (fun h1 => ?_)
  · have hv : a3 = (if a2 = 0 then nI 0 else a3) := (if_neg h1).symm
    refine x_iload_n hm rfl rfl ?_
    refine x_iast hm rfl (sI rfl (by omega) (by decide)) ?_
    refine x_iconst hm rfl (v := nI 0) (by decide) ?_
    refine x_istore hm rfl rfl ?_
    exact ev_mono (m234 (M := M) (b := a2) (l := (if a2 = 0 then nI 0 else a3)) hs _ 0 _ (Nat.lt_succ_self _) (Nat.zero_le _) ⟨(mpo (by decide)).trans mputf, by rw [mputf, mpo (by decide), ← hv], fun i => ((congrFun (mpo (by decide)) i).trans (congrFun (mpo (by decide)) i)).trans (if_neg (by omega)).symm, fun a h1 h2 _ => (mpo h2).trans (mpo h1)⟩) (fun r D ⟨v, M2, g1, g2, g3, g4, g5, g6, g7⟩ => ⟨v, M2, g1, g2, g3, g4, g5, funext g6, fun a _ h2 h3 h4 _ => g7 a h2 h3 h4⟩)
  · have hv : nI 0 = (if a2 = 0 then nI 0 else a3) := (if_pos h1).symm
    refine x_iconst hm rfl (v := nI 0) (by decide) ?_
    refine x_goto hm rfl (t := 82) rfl ?_
    refine x_iast hm rfl (sI rfl (by omega) (by decide)) ?_
    refine x_iconst hm rfl (v := nI 0) (by decide) ?_
    refine x_istore hm rfl rfl ?_
    exact ev_mono (m234 (M := M) (b := a2) (l := (if a2 = 0 then nI 0 else a3)) hs _ 0 _ (Nat.lt_succ_self _) (Nat.zero_le _) ⟨(mpo (by decide)).trans mputf, by rw [mputf, mpo (by decide), ← hv], fun i => ((congrFun (mpo (by decide)) i).trans (congrFun (mpo (by decide)) i)).trans (if_neg (by omega)).symm, fun a h1 h2 _ => (mpo h2).trans (mpo h1)⟩) (fun r D ⟨v, M2, g1, g2, g3, g4, g5, g6, g7⟩ => ⟨v, M2, g1, g2, g3, g4, g5, funext g6, fun a _ h2 h3 h4 _ => g7 a h2 h3 h4⟩)
theorem g234 {a1 a2 a3 : Int32} : ∃ v M', mT X 234 [.ref 66, .int a1, .int a2, .int a3] (con M) (some (.int v)) (con M') ∧ Hq (fSheet (M 76) (M 77) (M 78) a1 a2 a3) v M M' := by
  refine ti_of (row := _) rfl (Nat.le_of_ble_eq_true rfl) ?_
  have hm : mMet 234 = some _ := rfl
  refine x_iload_n hm rfl rfl ?_
  refine x_callS hm rfl rfl (t210) ?_
  refine x_if_eq hm rfl (t := 29) rfl (fun h1 => ?_) (fun h1 => ?_)
  · refine x_aload_n hm rfl rfl ?_
    refine x_ldcI hm rfl (v := (-1000001 : Int32)) (by decide +kernel) ?_
    refine x_callV hm rfl rfl (e135 (by decide +kernel)) ?_
    refine x_iret hm rfl rfl (by first | rfl | exact bI_nar | decide) ?_
    first
      | (have hq : fSheet (M 76) (M 77) (M 78) a1 a2 a3 = (-1000001, M 76, M 77, M 78) := by
           unfold fSheet
           rw [if_pos h1]
         exact ⟨_, _, rfl, rfl, by rw [hq]; exact fnd_hq⟩)
      | (have hq : fSheet (M 76) (M 77) (M 78) a1 a2 a3 = (-1000001, M 76, M 77, M 78) := by
           unfold fSheet
           rw [if_neg h1, if_pos (okb_f (by assumption) (by assumption) (by assumption) (by assumption))]
         exact ⟨_, _, rfl, rfl, by rw [hq]; exact fnd_hq⟩)
  · refine x_iload_n hm rfl rfl ?_
    refine x_if_eq hm rfl (t := 36) rfl (fun h2 => ?_) (fun h2 => ?_)
    · have hb := okb_t (Or.inl h2)
      refine x_iload_n hm rfl rfl ?_
      refine x_if_ge hm rfl (t := 48) rfl (fun h3 => ?_) (fun h3 => ?_)
      · have hn0 := h3
        refine x_iload_n hm rfl rfl ?_
        refine x_bipush hm rfl (v := nI 40) (by decide) ?_
        refine x_icmp_le hm rfl (t := 61) rfl (fun h4 => ?_) (fun h4 => ?_)
        · have hn4 := h4
          obtain ⟨s, hs, hs3⟩ := le_k (by omega) (bI_ne0 h1)
          subst hs3
          have hq : fSheet (M 76) (M 77) (M 78) (nI s) a2 a3 = ((if a2 = 0 then nI 0 else a3), put1 (M 76) s a2, put1 (M 77) s (if a2 = 0 then nI 0 else a3), clr (M 78) s) := by
            unfold fSheet
            rw [if_neg h1, if_neg hb, if_pos hn0, if_pos hn4, jI_nat (by omega)]
          rw [hq]
          exact g234e hs
        · have hn4 := h4
          refine x_aload_n hm rfl rfl ?_
          refine x_ldcI hm rfl (v := (-1000001 : Int32)) (by decide +kernel) ?_
          refine x_callV hm rfl rfl (e135 (by decide +kernel)) ?_
          refine x_iret hm rfl rfl (by first | rfl | exact bI_nar | decide) ?_
          have hq : fSheet (M 76) (M 77) (M 78) a1 a2 a3 = (-1000001, M 76, M 77, M 78) := by
            unfold fSheet
            rw [if_neg h1, if_neg hb, if_pos hn0, if_neg hn4]
          exact ⟨_, _, rfl, rfl, by rw [hq]; exact fnd_hq⟩
      · have hn0 := h3
        refine x_aload_n hm rfl rfl ?_
        refine x_ldc_wI hm rfl (v := (-1000007 : Int32)) (by decide) ?_
        refine x_callV hm rfl rfl (e135 (by decide +kernel)) ?_
        refine x_iret hm rfl rfl (by first | rfl | exact bI_nar | decide) ?_
        have hq : fSheet (M 76) (M 77) (M 78) a1 a2 a3 = (-1000007, M 76, M 77, M 78) := by
          unfold fSheet
          rw [if_neg h1, if_neg hb, if_neg hn0]
        exact ⟨_, _, rfl, rfl, by rw [hq]; exact fnd_hq⟩
    · refine x_iload_n hm rfl rfl ?_
      refine x_bipush hm rfl (v := nI 8) (by decide) ?_
      refine x_icmp_eq hm rfl (t := 36) rfl (fun h5 => ?_) (fun h5 => ?_)
      · have hb := okb_t (Or.inr (Or.inl h5))
        refine x_iload_n hm rfl rfl ?_
        refine x_if_ge hm rfl (t := 48) rfl (fun h6 => ?_) (fun h6 => ?_)
        · have hn0 := h6
          refine x_iload_n hm rfl rfl ?_
          refine x_bipush hm rfl (v := nI 40) (by decide) ?_
          refine x_icmp_le hm rfl (t := 61) rfl (fun h7 => ?_) (fun h7 => ?_)
          · have hn4 := h7
            obtain ⟨s, hs, hs3⟩ := le_k (by omega) (bI_ne0 h1)
            subst hs3
            have hq : fSheet (M 76) (M 77) (M 78) (nI s) a2 a3 = ((if a2 = 0 then nI 0 else a3), put1 (M 76) s a2, put1 (M 77) s (if a2 = 0 then nI 0 else a3), clr (M 78) s) := by
              unfold fSheet
              rw [if_neg h1, if_neg hb, if_pos hn0, if_pos hn4, jI_nat (by omega)]
            rw [hq]
            exact g234e hs
          · have hn4 := h7
            refine x_aload_n hm rfl rfl ?_
            refine x_ldcI hm rfl (v := (-1000001 : Int32)) (by decide +kernel) ?_
            refine x_callV hm rfl rfl (e135 (by decide +kernel)) ?_
            refine x_iret hm rfl rfl (by first | rfl | exact bI_nar | decide) ?_
            have hq : fSheet (M 76) (M 77) (M 78) a1 a2 a3 = (-1000001, M 76, M 77, M 78) := by
              unfold fSheet
              rw [if_neg h1, if_neg hb, if_pos hn0, if_neg hn4]
            exact ⟨_, _, rfl, rfl, by rw [hq]; exact fnd_hq⟩
        · have hn0 := h6
          refine x_aload_n hm rfl rfl ?_
          refine x_ldc_wI hm rfl (v := (-1000007 : Int32)) (by decide) ?_
          refine x_callV hm rfl rfl (e135 (by decide +kernel)) ?_
          refine x_iret hm rfl rfl (by first | rfl | exact bI_nar | decide) ?_
          have hq : fSheet (M 76) (M 77) (M 78) a1 a2 a3 = (-1000007, M 76, M 77, M 78) := by
            unfold fSheet
            rw [if_neg h1, if_neg hb, if_neg hn0]
          exact ⟨_, _, rfl, rfl, by rw [hq]; exact fnd_hq⟩
      · refine x_iload_n hm rfl rfl ?_
        refine x_bipush hm rfl (v := nI 16) (by decide) ?_
        refine x_icmp_eq hm rfl (t := 36) rfl (fun h8 => ?_) (fun h8 => ?_)
        · have hb := okb_t (Or.inr (Or.inr (Or.inl h8)))
          refine x_iload_n hm rfl rfl ?_
          refine x_if_ge hm rfl (t := 48) rfl (fun h9 => ?_) (fun h9 => ?_)
          · have hn0 := h9
            refine x_iload_n hm rfl rfl ?_
            refine x_bipush hm rfl (v := nI 40) (by decide) ?_
            refine x_icmp_le hm rfl (t := 61) rfl (fun h10 => ?_) (fun h10 => ?_)
            · have hn4 := h10
              obtain ⟨s, hs, hs3⟩ := le_k (by omega) (bI_ne0 h1)
              subst hs3
              have hq : fSheet (M 76) (M 77) (M 78) (nI s) a2 a3 = ((if a2 = 0 then nI 0 else a3), put1 (M 76) s a2, put1 (M 77) s (if a2 = 0 then nI 0 else a3), clr (M 78) s) := by
                unfold fSheet
                rw [if_neg h1, if_neg hb, if_pos hn0, if_pos hn4, jI_nat (by omega)]
              rw [hq]
              exact g234e hs
            · have hn4 := h10
              refine x_aload_n hm rfl rfl ?_
              refine x_ldcI hm rfl (v := (-1000001 : Int32)) (by decide +kernel) ?_
              refine x_callV hm rfl rfl (e135 (by decide +kernel)) ?_
              refine x_iret hm rfl rfl (by first | rfl | exact bI_nar | decide) ?_
              have hq : fSheet (M 76) (M 77) (M 78) a1 a2 a3 = (-1000001, M 76, M 77, M 78) := by
                unfold fSheet
                rw [if_neg h1, if_neg hb, if_pos hn0, if_neg hn4]
              exact ⟨_, _, rfl, rfl, by rw [hq]; exact fnd_hq⟩
          · have hn0 := h9
            refine x_aload_n hm rfl rfl ?_
            refine x_ldc_wI hm rfl (v := (-1000007 : Int32)) (by decide) ?_
            refine x_callV hm rfl rfl (e135 (by decide +kernel)) ?_
            refine x_iret hm rfl rfl (by first | rfl | exact bI_nar | decide) ?_
            have hq : fSheet (M 76) (M 77) (M 78) a1 a2 a3 = (-1000007, M 76, M 77, M 78) := by
              unfold fSheet
              rw [if_neg h1, if_neg hb, if_neg hn0]
            exact ⟨_, _, rfl, rfl, by rw [hq]; exact fnd_hq⟩
        · refine x_iload_n hm rfl rfl ?_
          refine x_bipush hm rfl (v := nI 32) (by decide) ?_
          refine x_icmp_eq hm rfl (t := 36) rfl (fun h11 => ?_) (fun h11 => ?_)
          · have hb := okb_t (Or.inr (Or.inr (Or.inr h11)))
            refine x_iload_n hm rfl rfl ?_
            refine x_if_ge hm rfl (t := 48) rfl (fun h12 => ?_) (fun h12 => ?_)
            · have hn0 := h12
              refine x_iload_n hm rfl rfl ?_
              refine x_bipush hm rfl (v := nI 40) (by decide) ?_
              refine x_icmp_le hm rfl (t := 61) rfl (fun h13 => ?_) (fun h13 => ?_)
              · have hn4 := h13
                obtain ⟨s, hs, hs3⟩ := le_k (by omega) (bI_ne0 h1)
                subst hs3
                have hq : fSheet (M 76) (M 77) (M 78) (nI s) a2 a3 = ((if a2 = 0 then nI 0 else a3), put1 (M 76) s a2, put1 (M 77) s (if a2 = 0 then nI 0 else a3), clr (M 78) s) := by
                  unfold fSheet
                  rw [if_neg h1, if_neg hb, if_pos hn0, if_pos hn4, jI_nat (by omega)]
                rw [hq]
                exact g234e hs
              · have hn4 := h13
                refine x_aload_n hm rfl rfl ?_
                refine x_ldcI hm rfl (v := (-1000001 : Int32)) (by decide +kernel) ?_
                refine x_callV hm rfl rfl (e135 (by decide +kernel)) ?_
                refine x_iret hm rfl rfl (by first | rfl | exact bI_nar | decide) ?_
                have hq : fSheet (M 76) (M 77) (M 78) a1 a2 a3 = (-1000001, M 76, M 77, M 78) := by
                  unfold fSheet
                  rw [if_neg h1, if_neg hb, if_pos hn0, if_neg hn4]
                exact ⟨_, _, rfl, rfl, by rw [hq]; exact fnd_hq⟩
            · have hn0 := h12
              refine x_aload_n hm rfl rfl ?_
              refine x_ldc_wI hm rfl (v := (-1000007 : Int32)) (by decide) ?_
              refine x_callV hm rfl rfl (e135 (by decide +kernel)) ?_
              refine x_iret hm rfl rfl (by first | rfl | exact bI_nar | decide) ?_
              have hq : fSheet (M 76) (M 77) (M 78) a1 a2 a3 = (-1000007, M 76, M 77, M 78) := by
                unfold fSheet
                rw [if_neg h1, if_neg hb, if_neg hn0]
              exact ⟨_, _, rfl, rfl, by rw [hq]; exact fnd_hq⟩
          · refine x_aload_n hm rfl rfl ?_
            refine x_ldcI hm rfl (v := (-1000001 : Int32)) (by decide +kernel) ?_
            refine x_callV hm rfl rfl (e135 (by decide +kernel)) ?_
            refine x_iret hm rfl rfl (by first | rfl | exact bI_nar | decide) ?_
            first
              | (have hq : fSheet (M 76) (M 77) (M 78) a1 a2 a3 = (-1000001, M 76, M 77, M 78) := by
                   unfold fSheet
                   rw [if_pos h1]
                 exact ⟨_, _, rfl, rfl, by rw [hq]; exact fnd_hq⟩)
              | (have hq : fSheet (M 76) (M 77) (M 78) a1 a2 a3 = (-1000001, M 76, M 77, M 78) := by
                   unfold fSheet
                   rw [if_neg h1, if_pos (okb_f (by assumption) (by assumption) (by assumption) (by assumption))]
                 exact ⟨_, _, rfl, rfl, by rw [hq]; exact fnd_hq⟩)
theorem g236 {v b : Int32} : mT X 236 [.int v, .int b] (con M) (some (.int (cut b v))) (con M) := by
  refine mT.of (row := _) rfl (Nat.le_of_ble_eq_true rfl) ?_
  have hm : mMet 236 = some _ := rfl
  refine x_iload_n hm rfl rfl ?_
  refine x_bipush hm rfl (v := nI 8) (by decide) ?_
  refine x_icmp_ne hm rfl (t := 11) rfl (fun h1 => ?_) (fun h1 => ?_)
  · have n8 := h1
    refine x_iload_n hm rfl rfl ?_
    refine x_bipush hm rfl (v := nI 16) (by decide) ?_
    refine x_icmp_ne hm rfl (t := 22) rfl (fun h2 => ?_) (fun h2 => ?_)
    · have hv : v = cut b v := ((if_neg n8).trans (if_neg h2)).symm
      refine x_iload_n hm rfl rfl ?_
      refine x_iret hm rfl rfl (by first | rfl | exact bI_nar | decide) ?_
      exact qt (congrArg Value.int hv)
    · have hv : v.toInt16.toInt32 = cut b v := ((if_neg n8).trans (if_pos h2)).symm
      refine x_iload_n hm rfl rfl ?_
      refine x_i2s hm rfl ?_
      refine x_goto hm rfl (t := 23) rfl ?_
      refine x_iret hm rfl rfl (by first | rfl | exact bI_nar | decide) ?_
      exact qt (congrArg Value.int hv)
  · have hv : v.toInt8.toInt32 = cut b v := (if_pos h1).symm
    refine x_iload_n hm rfl rfl ?_
    refine x_i2b hm rfl ?_
    refine x_goto hm rfl (t := 23) rfl ?_
    refine x_iret hm rfl rfl (by first | rfl | exact bI_nar | decide) ?_
    exact qt (congrArg Value.int hv)
theorem g235 {a1 a2 a3 : Int32} (hz : ∀ u, u < 4 → ∃ k, k ≤ 40 ∧ M 77 u = nI k) : ∃ v M', mT X 235 [.ref 66, .int a1, .int a2, .int a3] (con M) (some (.int v)) (con M') ∧ Hq (fWrite (M 76) (M 77) (M 78) a1 a2 a3) v M M' := by
  refine ti_of (row := _) rfl (Nat.le_of_ble_eq_true rfl) ?_
  have hm : mMet 235 = some _ := rfl
  refine x_iload_n hm rfl rfl ?_
  refine x_callS hm rfl rfl (t210) ?_
  refine x_if_ne hm rfl (t := 14) rfl (fun h1 => ?_) (fun h1 => ?_)
  · obtain ⟨s, hs, hs3⟩ := le_k (by omega) (bI_ne0 h1)
    subst hs3
    obtain ⟨k, hk, hzk⟩ := hz s (by omega)
    refine x_aload_n hm rfl rfl ?_
    refine x_getf hm rfl (gR rfl rfl) ?_
    refine x_iload_n hm rfl rfl ?_
    refine x_iald hm rfl (lI rfl (by omega) (by decide)) ?_
    refine x_if_ne hm rfl (t := 30) rfl (fun h2 => ?_) (fun h2 => ?_)
    · have hlk : lkS (M 76) (nI s) = 0 := lkS_c (w := M 76) hs h2
      refine x_iload_n hm rfl rfl ?_
      refine x_iconst hm rfl (v := nI 0) (by decide) ?_
      refine x_aload_n hm rfl rfl ?_
      refine x_getf hm rfl (gR rfl rfl) ?_
      refine x_iload_n hm rfl rfl ?_
      refine x_iald hm rfl (lI rfl (by omega) (by decide)) ?_
      refine x_iconst hm rfl (v := nI 1) (by decide) ?_
      refine x_isub hm rfl ?_
      refine x_callS hm rfl rfl (t133) ?_
      refine x_if_ne hm rfl (t := 53) rfl (fun h3 => ?_) (fun h3 => ?_)
      · have hj := h3
        obtain ⟨i, hi, rfl⟩ := in_k hzk (by omega) (bI_ne0 hj)
        refine x_aload_n hm rfl rfl ?_
        refine x_getf hm rfl (gR rfl rfl) ?_
        refine x_bipush hm rfl (v := nI 40) (by decide) ?_
        refine x_iload_n hm rfl rfl ?_
        refine x_imul hm rfl ?_
        rw [jI_mul]
        refine x_iload_n hm rfl rfl ?_
        refine x_iadd hm rfl ?_
        rw [jI_add]
        refine x_iload_n hm rfl rfl ?_
        refine x_aload_n hm rfl rfl ?_
        refine x_getf hm rfl (gR rfl rfl) ?_
        refine x_iload_n hm rfl rfl ?_
        refine x_iald hm rfl (lI rfl (by omega) (by decide)) ?_
        refine x_callS hm rfl rfl (g236) ?_
        refine x_iast hm rfl (sI rfl (by omega) (by decide)) ?_
        refine x_iconst hm rfl (v := nI 1) (by decide) ?_
        refine x_iret hm rfl rfl (by first | rfl | exact bI_nar | decide) ?_
        have hq : fWrite (M 76) (M 77) (M 78) (nI s) (nI i) a3 = (nI 1, M 76, M 77, put1 (M 78) (40 * s + i) (cut (M 76 s) a3)) := by
          unfold fWrite
          rw [if_neg (not_not_intro hlk), jI_nat (by omega), if_neg hj, jI_nat (by omega)]
        exact ⟨_, _, rfl, rfl, by rw [hq]; exact ⟨rfl, mpo (by decide), mpo (by decide), mputf, fun a _ _ _ h _ => mpo h⟩⟩
      · refine x_aload_n hm rfl rfl ?_
        refine x_ldcI hm rfl (v := (-1000001 : Int32)) (by decide +kernel) ?_
        refine x_callV hm rfl rfl (e135 (by decide +kernel)) ?_
        refine x_iret hm rfl rfl (by first | rfl | exact bI_nar | decide) ?_
        have hq : fWrite (M 76) (M 77) (M 78) (nI s) a2 a3 = (-1000001, M 76, M 77, M 78) := by
          unfold fWrite
          rw [if_neg (not_not_intro hlk), jI_nat (by omega), if_pos (by assumption)]
        exact ⟨_, _, rfl, rfl, by rw [hq]; exact fnd_hq⟩
    · have hlk := lkS_b (w := M 76) hs h2
      refine x_aload_n hm rfl rfl ?_
      refine x_ldcI hm rfl (v := (-1000006 : Int32)) (by decide +kernel) ?_
      refine x_callV hm rfl rfl (e135 (by decide +kernel)) ?_
      refine x_iret hm rfl rfl (by first | rfl | exact bI_nar | decide) ?_
      have hq : fWrite (M 76) (M 77) (M 78) (nI s) a2 a3 = (-1000006, M 76, M 77, M 78) := by
        unfold fWrite
        rw [if_pos (by rw [hlk]; decide), hlk]
      exact ⟨_, _, rfl, rfl, by rw [hq]; exact fnd_hq⟩
  · have hlk := lkS_a (w := M 76) h1
    refine x_aload_n hm rfl rfl ?_
    refine x_ldcI hm rfl (v := (-1000001 : Int32)) (by decide +kernel) ?_
    refine x_callV hm rfl rfl (e135 (by decide +kernel)) ?_
    refine x_iret hm rfl rfl (by first | rfl | exact bI_nar | decide) ?_
    have hq : fWrite (M 76) (M 77) (M 78) a1 a2 a3 = (-1000001, M 76, M 77, M 78) := by
      unfold fWrite
      rw [if_pos (by rw [hlk]; decide), hlk]
    exact ⟨_, _, rfl, rfl, by rw [hq]; exact fnd_hq⟩
theorem Wok.put {i : Nat} {v : Int32} (h : Wok w) (hv : v = 0 ∨ v = nI 8 ∨ v = nI 16 ∨ v = nI 32) : Wok (put1 w i v) := by
  intro s hs
  by_cases e : s = i
  · subst e
    rw [put1_s]
    exact hv
  · rw [put1_o e]
    exact h s hs
theorem okb_4 {v : Int32} (h : ¬ okb v = false) : v = 0 ∨ v = nI 8 ∨ v = nI 16 ∨ v = nI 32 := by
  have this : okb v = true := by simpa using h
  unfold okb at this
  simp only [Bool.or_eq_true, decide_eq_true_eq] at this
  rcases this with ((h | h) | h) | h
  · exact Or.inl h
  · exact Or.inr (Or.inl h)
  · exact Or.inr (Or.inr (Or.inl h))
  · exact Or.inr (Or.inr (Or.inr h))
theorem Wok.sheet {a1 a2 a3 : Int32} (h : Wok w) : Wok (fSheet w z n a1 a2 a3).2.1 := by
  unfold fSheet
  split
  · exact h
  · split
    · exact h
    · rename_i hb
      split
      · split
        · exact h.put (okb_4 hb)
        · exact h
      · exact h
theorem Wok.write {a1 a2 a3 : Int32} (h : Wok w) : Wok (fWrite w z n a1 a2 a3).2.1 := by
  unfold fWrite
  split
  · exact h
  · split
    · exact h
    · exact h
theorem j_sheet {a1 a2 a3 : Int32} (hJ : J M) : JJ X 116 234 [.ref 0, .int a1, .int a2, .int a3] [.ref 66, .int a1, .int a2, .int a3] M Eq := by
  refine J.shj hJ (t116 hJ.1.1) (g116 hJ.rs.1) (fun M1 i => t234 i) (fun M1 i k => ?_) hJ.rs.2.sheet
  rw [← k 76 (by decide), ← k 77 (by decide), ← k 78 (by decide)]
  exact g234
theorem j_write {a1 a2 a3 : Int32} (hJ : J M) : JJ X 118 235 [.ref 0, .int a1, .int a2, .int a3] [.ref 66, .int a1, .int a2, .int a3] M Eq := by
  refine J.shj hJ (t118 hJ.1.1) (g118 hJ.rs.1 (fun u _ => hJ.1.1.size u)) (fun M1 i => t235 i) (fun M1 i k => ?_) hJ.rs.2.write
  rw [← k 76 (by decide), ← k 77 (by decide), ← k 78 (by decide)]
  exact g235 (fun u _ => i.1.size u)
end EV
end
section
/-! ===== load ===== -/
def sLd (g : Nat → Int32) (m : Nat) : Nat → Nat → (Nat → Int32) → Int32 × (Nat → Int32)
  | 0, k, r => (nI k, r)
  | f + 1, k, r => if k < m then (if bI (nI 0 ≤ g k ∧ g k ≤ nI 999) = 0 then (nI k, r) else sLd g m f (k + 1) (put1 r (14 + 6 * k + 2) (g k))) else (nI k, r)
theorem sLd_n {g : Nat → Int32} {m f k : Nat} {r : Nat → Int32} (h : ¬ k < m) : sLd g m f k r = (nI k, r) := by
  cases f with
  | zero => rfl
  | succ f => exact if_neg h
theorem sLd_b {g : Nat → Int32} {m f k : Nat} {r : Nat → Int32} (h : bI (nI 0 ≤ g k ∧ g k ≤ nI 999) = 0) : sLd g m f k r = (nI k, r) := by
  cases f with
  | zero => rfl
  | succ f =>
    unfold sLd
    by_cases hk : k < m
    · rw [if_pos hk, if_pos h]
    · rw [if_neg hk]
theorem sLd_s {g : Nat → Int32} {m f k : Nat} {r : Nat → Int32} (hk : k < m) (hf : k < f) (h : ¬ bI (nI 0 ≤ g k ∧ g k ≤ nI 999) = 0) : sLd g m (f - k) k r = sLd g m (f - (k + 1)) (k + 1) (put1 r (14 + 6 * k + 2) (g k)) := by
  rw [show f - k = (f - (k + 1)) + 1 by omega]
  show (if k < m then _ else _) = _
  rw [if_pos hk, if_neg h]
/-- the numbers of a sheet -/
def sY (y : Nat → Int32) (s : Nat) : Nat → Int32 := fun j => y (40 * s + j)
def fLoad (w z y : Nat → Int32) (nt np : Nat) (r : Nat → Int32) (a1 : Int32) : Sq4 :=
  if ¬ lkS w a1 = 0 then (lkS w a1, nt, np, r) else ((sLd (sY y a1.toNatClampNeg) (min (z a1.toNatClampNeg).toNatClampNeg nt) 9 0 r).1, nt, np, (sLd (sY y a1.toNatClampNeg) (min (z a1.toNatClampNeg).toNatClampNeg nt) 9 0 r).2)
section EW
variable {X : mSc} {Q : Option Value → mHp → Prop} {M : mM} {s nt np : Nat} {w z y r : Nat → Int32}
theorem m122 {c : Int32} {m : Nat} (hS : Rs w z y M) (hn8 : nt ≤ 8) (hs : s ≤ 3) (hm40 : m ≤ 40) (hm8 : m ≤ nt) : ∀ (n k : Nat) (x5 : Option Value) (q : Nat → Int32) (M1 : mM), m - k < n → k ≤ m → Tc 1 nt np q M M1 → mEv X (QI (fun v M' => v = (sLd (sY y s) m (9 - k) k q).1 ∧ Tc 1 nt np (sLd (sY y s) m (9 - k) k q).2 M M')) 122 39 [some (.ref 0), some (.int (nI s)), some (.int c), some (.int (nI m)), some (.int (nI k)), x5] [] (con M1) := by
  have hm : mMet 122 = some _ := rfl
  intro n
  induction n with
  | zero =>
    intro k x5 q M1 hkn hkb hC
    omega
  | succ n ih =>
    intro k x5 q M1 hkn hkb hC
    have hrow : ∀ j, j < 40 → M1 (2 * s + 59) j = sY y s j := fun j hj => (congrFun (hC.2.2 _ (by omega)) j).trans ((hS s (by omega)).2.2 j hj)
    refine x_iload hm rfl rfl ?_
    refine x_iload_n hm rfl rfl ?_
    refine x_icmp_ge hm rfl (t := 94) rfl (fun h1 => ?_) (fun h1 => ?_)
    · have hge : ¬ k < m := fun h => absurd h1 (Int32.not_le.mpr ((jI_lt (by omega) (by omega)).mpr h))
      refine x_iload_n hm rfl rfl ?_
      refine x_iret hm rfl rfl (by first | rfl | exact bI_nar | decide) ?_
      exact ⟨_, _, rfl, rfl, by rw [sLd_n hge, Nat.le_antisymm hkb (Nat.le_of_not_lt hge)], by rw [sLd_n hge]; exact hC⟩
    · have hk : k < m := Nat.lt_of_not_le fun h => h1 (nI_le h (by omega))
      refine x_aload_n hm rfl rfl ?_
      refine x_getf hm rfl (gR rfl rfl) ?_
      refine x_iload_n hm rfl rfl ?_
      refine x_aald hm rfl (by first | exact lQ 2 (Or.inl rfl) rfl (shk hs) (by omega) (by decide) | exact lQ 3 (Or.inr (Or.inl rfl)) rfl rfl (by omega) (by decide)) ?_
      refine x_getf hm rfl (by first | exact gR (sO hs) rfl) ?_
      refine x_iload hm rfl rfl ?_
      refine x_iald hm rfl (by first | exact lI (sRow hs) (by omega) (by decide) | exact lI rfl (by omega) (by decide)) ?_
      rw [hrow k (by omega)]
      refine x_istore hm rfl rfl ?_
      refine x_iload hm rfl rfl ?_
      refine x_iconst hm rfl (v := nI 0) (by decide) ?_
      refine x_sipush hm rfl (v := nI 999) (by decide) ?_
      refine x_callS hm rfl rfl (t6) ?_
      refine x_if_ne hm rfl (t := 74) rfl (fun h2 => ?_) (fun h2 => ?_)
      · have hgd := h2
        refine x_aload_n hm rfl rfl ?_
        refine x_getf hm rfl (gR rfl rfl) ?_
        refine x_getf hm rfl (gR rfl rfl) ?_
        refine x_iconst hm rfl (v := nI 2) (by decide) ?_
        refine x_aald hm rfl (by first | exact lQ 2 (Or.inl rfl) rfl (shk hs) (by omega) (by decide) | exact lQ 3 (Or.inr (Or.inl rfl)) rfl rfl (by omega) (by decide)) ?_
        refine x_iload hm rfl rfl ?_
        refine x_iload hm rfl rfl ?_
        refine x_iast hm rfl (by first | exact sI (sRow hs) (by omega) (by decide) | exact sI rfl (by omega) (by decide)) ?_
        refine x_iinc hm rfl rfl (v := nI 1) (by decide) rfl ?_
        rw [jI_add]
        refine x_goto hm rfl (t := 39) rfl ?_
        rw [sLd_s hk (by omega) hgd]
        exact ih _ _ _ _ (by omega) (by omega) (hC.pi (f := 2) hn8 (by decide) (by omega))
      · have hbd := h2
        refine x_iload hm rfl rfl ?_
        refine x_iret hm rfl rfl (by first | rfl | exact bI_nar | decide) ?_
        exact ⟨_, _, rfl, rfl, by rw [sLd_b hbd], by rw [sLd_b hbd]; exact hC⟩
theorem g122 {a1 : Int32} (hR : Rel 1 nt np M r) (hS : Rs w z y M) (hn8 : nt ≤ 8) (hz : ∀ u, u < 4 → ∃ k, k ≤ 40 ∧ z u = nI k) : ∃ v M', mT X 122 [.ref 0, .int a1] (con M) (some (.int v)) (con M') ∧ Tq (fLoad w z y nt np r a1) v M M' := by
  refine ti_of (row := _) rfl (Nat.le_of_ble_eq_true rfl) ?_
  have hm : mMet 122 = some _ := rfl
  refine x_aload_n hm rfl rfl ?_
  refine x_iload_n hm rfl rfl ?_
  refine x_callV hm rfl rfl (g77 hS) ?_
  refine x_istore_n hm rfl rfl ?_
  refine x_iload_n hm rfl rfl ?_
  refine x_if_eq hm rfl (t := 16) rfl (fun h1 => ?_) (fun h1 => ?_)
  · have hlk := h1
    obtain ⟨s, hs, hs3, hw0⟩ := lkS_0 hlk
    subst hs3
    obtain ⟨zz, hz40, hzk⟩ := hz s (by omega)
    have hRs := hS s (by omega)
    refine x_aload_n hm rfl rfl ?_
    refine x_getf hm rfl (gR rfl rfl) ?_
    refine x_iload_n hm rfl rfl ?_
    refine x_aald hm rfl (by first | exact lQ 2 (Or.inl rfl) rfl (shk hs) (by omega) (by decide) | exact lQ 3 (Or.inr (Or.inl rfl)) rfl rfl (by omega) (by decide)) ?_
    refine x_getf hm rfl (by first | exact gI (sO hs) rfl) ?_
    rw [hRs.2.1, hzk]
    refine x_aload_n hm rfl rfl ?_
    refine x_getf hm rfl (gR rfl rfl) ?_
    refine x_getf hm rfl (gI rfl rfl) ?_
    rw [hR.1]
    refine x_lib hm rfl rfl ?_
    dsimp only
    rw [min_k (by omega) (by omega)]
    refine x_istore_n hm rfl rfl ?_
    refine x_iconst hm rfl (v := nI 0) (by decide) ?_
    refine x_istore hm rfl rfl ?_
    have hq : fLoad w z y nt np r (nI s) = ((sLd (sY y s) (min zz nt) 9 0 r).1, nt, np, (sLd (sY y s) (min zz nt) 9 0 r).2) := by
      unfold fLoad
      rw [if_neg (not_not_intro hlk), jI_nat (by omega), hzk, jI_nat (by omega)]
    exact ev_mono (m122 (m := min zz nt) hS hn8 hs (by omega) (by omega) _ 0 none r _ (Nat.lt_succ_self _) (Nat.zero_le _) hR.tc) (fun r0 D ⟨v, M2, g1, g2, g3, g4⟩ => ⟨v, M2, g1, g2, by rw [hq]; exact ⟨g3, g4.tm⟩⟩)
  · refine x_aload_n hm rfl rfl ?_
    refine x_iload_n hm rfl rfl ?_
    refine x_cVi hm rfl rfl (t7 (lkS_fd h1)) (fun v2 M2 r2 => ?_)
    refine x_iret hm rfl rfl (by first | rfl | exact bI_nar | decide) ?_
    first
      | (have hq : fLoad w z y nt np r a1 = (lkS w a1, nt, np, r) := by
           unfold fLoad
           rw [if_pos h1]
         exact ⟨_, _, rfl, rfl, by rw [hq]; exact ⟨r2.1, hR.bq r2.2⟩⟩)
      | (have hq : fLoad w z y nt np r a1 = (lkS w a1, nt, np, r) := by
           unfold fLoad
           rw [if_pos h1]
         exact ⟨_, _, rfl, rfl, by rw [hq]; exact ⟨r1.1, hR.bq r1.2⟩⟩)
      | (have hq : fLoad w z y nt np r a1 = (lkS w a1, nt, np, r) := by
           unfold fLoad
           rw [if_pos h1]
         exact ⟨_, _, rfl, rfl, by rw [hq]; exact ⟨r3.1, hR.bq r3.2⟩⟩)
      | (have hq : fLoad w z y nt np r a1 = (lkS w a1, nt, np, r) := by
           unfold fLoad
           rw [if_pos h1]
         exact ⟨_, _, rfl, rfl, by rw [hq]; exact ⟨r4.1, hR.bq r4.2⟩⟩)
      | (have hq : fLoad w z y nt np r a1 = (lkS w a1, nt, np, r) := by
           unfold fLoad
           rw [if_pos h1]
         exact ⟨_, _, rfl, rfl, by rw [hq]; exact ⟨r5.1, hR.bq r5.2⟩⟩)
      | (have hq : fLoad w z y nt np r a1 = (lkS w a1, nt, np, r) := by
           unfold fLoad
           rw [if_pos h1]
         exact ⟨_, _, rfl, rfl, by rw [hq]; exact ⟨r6.1, hR.bq r6.2⟩⟩)
      | (have hq : fLoad w z y nt np r a1 = (lkS w a1, nt, np, r) := by
           unfold fLoad
           rw [if_pos h1]
         exact ⟨_, _, rfl, rfl, by rw [hq]; exact ⟨r7.1, hR.bq r7.2⟩⟩)
      | (have hq : fLoad w z y nt np r a1 = (lkS w a1, nt, np, r) := by
           unfold fLoad
           rw [if_pos h1]
         exact ⟨_, _, rfl, rfl, by rw [hq]; exact ⟨r8.1, hR.bq r8.2⟩⟩)
theorem m238 {zz : Nat} (hs : s ≤ 3) (hnt : M 67 1 = nI nt) (hn8 : nt ≤ 8) (hz40 : zz ≤ 40) (hzk : M 77 s = nI zz) (m : Nat) (hm : m = min zz nt) : ∀ (n k : Nat) (q : Nat → Int32) (M1 : mM), m - k < n → k ≤ m → q 1 = nI nt → Dd q M M1 → mEv X (QI (fun v M' => v = (sLd (sY (M 78) s) m (9 - k) k q).1 ∧ Dd (sLd (sY (M 78) s) m (9 - k) k q).2 M M')) 238 20 [some (.ref 66), some (.int (nI s)), some (.int (nI k))] [] (con M1) := by
  have hm : mMet 238 = some _ := rfl
  intro n
  induction n with
  | zero =>
    intro k q M1 hkn hkb hq1 hd
    omega
  | succ n ih =>
    intro k q M1 hkn hkb hq1 hd
    have h78 : M1 78 = M 78 := hd.2 78 (by decide) (by decide)
    have h77 : M1 77 s = nI zz := (congrFun (hd.2 77 (by decide) (by decide)) s).trans hzk
    have hn1 : M1 67 1 = nI nt := (congrFun hd.1 1).trans hq1
    refine x_iload_n hm rfl rfl ?_
    refine x_aload_n hm rfl rfl ?_
    refine x_getf hm rfl (gR rfl rfl) ?_
    refine x_iload_n hm rfl rfl ?_
    refine x_iald hm rfl (lI rfl (by omega) (by decide)) ?_
    rw [h77]
    refine x_icmp_ge hm rfl (t := 82) rfl (fun h1 => ?_) (fun h1 => ?_)
    · have hge : ¬ k < m := fun h => absurd h1 (Int32.not_le.mpr ((jI_lt (by omega) (by omega)).mpr (by omega)))
      refine x_iload_n hm rfl rfl ?_
      refine x_iret hm rfl rfl (by first | rfl | exact bI_nar | decide) ?_
      first
        | exact ⟨_, _, rfl, rfl, by rw [sLd_n hge], by rw [sLd_n hge]; exact hd⟩
        | exact ⟨_, _, rfl, rfl, by rw [sLd_b hbd], by rw [sLd_b hbd]; exact hd⟩
    · have hkz : k < zz := Nat.lt_of_not_le fun h => h1 (nI_le h (by omega))
      refine x_aload_n hm rfl rfl ?_
      refine x_iload_n hm rfl rfl ?_
      refine x_callV hm rfl rfl (t139) ?_
      rw [hn1]
      refine x_if_eq hm rfl (t := 82) rfl (fun h2 => ?_) (fun h2 => ?_)
      · have hge : ¬ k < m := fun h => bI_eq0.mp h2 ⟨(jI_le (by omega) (by omega)).mpr (Nat.zero_le _), by rw [show nI 1 = nI 1 from rfl, sub_le (by omega)]; exact (jI_le (by omega) (by omega)).mpr (by omega)⟩
        refine x_iload_n hm rfl rfl ?_
        refine x_iret hm rfl rfl (by first | rfl | exact bI_nar | decide) ?_
        first
          | exact ⟨_, _, rfl, rfl, by rw [sLd_n hge], by rw [sLd_n hge]; exact hd⟩
          | exact ⟨_, _, rfl, rfl, by rw [sLd_b hbd], by rw [sLd_b hbd]; exact hd⟩
      · have hkt : k < nt := by
          obtain ⟨x, hx, ex⟩ := in_k rfl (by omega) (bI_ne0 h2)
          have := jI_inj (by omega) (by omega) ex
          omega
        have hk : k < m := by omega
        refine x_aload_n hm rfl rfl ?_
        refine x_getf hm rfl (gR rfl rfl) ?_
        refine x_bipush hm rfl (v := nI 40) (by decide) ?_
        refine x_iload_n hm rfl rfl ?_
        refine x_imul hm rfl ?_
        rw [jI_mul]
        refine x_iload_n hm rfl rfl ?_
        refine x_iadd hm rfl ?_
        rw [jI_add]
        refine x_iald hm rfl (lI rfl (by omega) (by decide)) ?_
        rw [h78]
        refine x_callS hm rfl rfl (t151) ?_
        refine x_if_eq hm rfl (t := 82) rfl (fun h3 => ?_) (fun h3 => ?_)
        · have hbd : bI (nI 0 ≤ sY (M 78) s k ∧ sY (M 78) s k ≤ nI 999) = 0 := h3
          refine x_iload_n hm rfl rfl ?_
          refine x_iret hm rfl rfl (by first | rfl | exact bI_nar | decide) ?_
          first
            | exact ⟨_, _, rfl, rfl, by rw [sLd_n hge], by rw [sLd_n hge]; exact hd⟩
            | exact ⟨_, _, rfl, rfl, by rw [sLd_b hbd], by rw [sLd_b hbd]; exact hd⟩
        · have hgd : ¬ bI (nI 0 ≤ sY (M 78) s k ∧ sY (M 78) s k ≤ nI 999) = 0 := h3
          refine x_aload_n hm rfl rfl ?_
          refine x_getf hm rfl (gR rfl rfl) ?_
          refine x_iload_n hm rfl rfl ?_
          refine x_iconst hm rfl (v := nI 2) (by decide) ?_
          refine x_callS hm rfl rfl (t137) ?_
          refine x_aload_n hm rfl rfl ?_
          refine x_getf hm rfl (gR rfl rfl) ?_
          refine x_bipush hm rfl (v := nI 40) (by decide) ?_
          refine x_iload_n hm rfl rfl ?_
          refine x_imul hm rfl ?_
          rw [jI_mul]
          refine x_iload_n hm rfl rfl ?_
          refine x_iadd hm rfl ?_
          rw [jI_add]
          refine x_iald hm rfl (lI rfl (by omega) (by decide)) ?_
          rw [h78]
          refine x_iast hm rfl (sI rfl (by omega) (by decide)) ?_
          refine x_iinc hm rfl rfl (v := nI 1) (by decide) rfl ?_
          rw [jI_add]
          refine x_goto hm rfl (t := 20) rfl ?_
          rw [sLd_s hk (by omega) hgd]
          exact ih _ _ _ (by omega) (by omega) ((put1_o (by omega)).trans hq1) hd.p67
theorem lk_S {a : Int32} : lk M a = lkS (M 76) a := by
  unfold lk lkS
  by_cases h : nI 0 ≤ a ∧ a ≤ nI 3
  · rw [if_pos h, if_neg (fun q => bI_eq0.mp q h)]
  · rw [if_neg h, if_pos (bI_eq0.mpr h)]
theorem g238 {a1 : Int32} (h67 : M 67 = r) (hnt : M 67 1 = nI nt) (hn8 : nt ≤ 8) (hz : ∀ u, u < 4 → ∃ k, k ≤ 40 ∧ M 77 u = nI k) : ∃ v M', mT X 238 [.ref 66, .int a1] (con M) (some (.int v)) (con M') ∧ Uq (fLoad (M 76) (M 77) (M 78) nt np r a1) v M M' := by
  refine ti_of (row := _) rfl (Nat.le_of_ble_eq_true rfl) ?_
  have hm : mMet 238 = some _ := rfl
  refine x_aload_n hm rfl rfl ?_
  refine x_iload_n hm rfl rfl ?_
  refine x_callV hm rfl rfl (t209) ?_
  refine x_if_eq hm rfl (t := 18) rfl (fun h1 => ?_) (fun h1 => ?_)
  · have hlk2 : lkS (M 76) a1 = 0 := by rw [← lk_S]; exact h1
    obtain ⟨s, hs, hs3, hw0⟩ := lkS_0 hlk2
    subst hs3
    obtain ⟨zz, hz40, hzk⟩ := hz s (by omega)
    refine x_iconst hm rfl (v := nI 0) (by decide) ?_
    refine x_istore_n hm rfl rfl ?_
    have hq : fLoad (M 76) (M 77) (M 78) nt np r (nI s) = ((sLd (sY (M 78) s) (min zz nt) 9 0 r).1, nt, np, (sLd (sY (M 78) s) (min zz nt) 9 0 r).2) := by
      unfold fLoad
      rw [if_neg (not_not_intro hlk2), jI_nat (by omega), hzk, jI_nat (by omega)]
    have hm := m238 (X := X) hs hnt hn8 hz40 hzk _ rfl _ 0 (M 67) M (Nat.lt_succ_self _) (Nat.zero_le _) hnt Dd.rf
    rw [h67] at hm
    exact ev_mono hm (fun r0 D ⟨v, M2, g1, g2, g3, g4⟩ => ⟨v, M2, g1, g2, by rw [hq]; exact ⟨g3, g4.1, fun a h1 _ _ h4 => g4.2 a h1 h4⟩⟩)
  · have hlk : ¬ lkS (M 76) a1 = 0 := by rw [← lk_S]; exact h1
    refine x_aload_n hm rfl rfl ?_
    refine x_aload_n hm rfl rfl ?_
    refine x_iload_n hm rfl rfl ?_
    refine x_callV hm rfl rfl (t209) ?_
    refine x_callV hm rfl rfl (e135 (lk_fd h1)) ?_
    refine x_iret hm rfl rfl (by first | rfl | exact bI_nar | decide) ?_
    have hq : fLoad (M 76) (M 77) (M 78) nt np r a1 = (lkS (M 76) a1, nt, np, r) := by
      unfold fLoad
      rw [if_pos hlk]
    exact ⟨_, _, rfl, rfl, by rw [hq]; exact ⟨lk_S, fnd_rm h67⟩⟩
theorem Gd.pt {t f : Nat} {v : Int32} (h : Gd nt np r) (ht : t < nt) (hf : f < 6) (h0 : f = 0 → Le 3 v) (h1 : f = 1 → Le 15 v) (h2 : f = 2 → Le 999 v) (h3 : f = 3 → Le 9 v) (h4 : f = 4 → Lo np v) (h5 : f = 5 → Lo nt v) : Gd nt np (put1 r (14 + 6 * t + f) v) := by
  obtain ⟨g1, g2, ⟨v1, v2, v3, v4⟩, ⟨w1, w2, w3, w4⟩⟩ := h
  refine ⟨(put1_o (by omega)).trans g1, (put1_o (by omega)).trans g2, ⟨v1, v2, fun u hu => ?_, fun q hq => ?_⟩, ⟨?_, fun x hx => ?_, fun u hu => ?_, fun q hq => ?_⟩⟩
  · obtain ⟨k1, k2, k3⟩ := v3 u hu
    refine ⟨?_, ?_, ?_⟩
    · by_cases e : u = t ∧ f = 0
      · obtain ⟨rfl, rfl⟩ := e; rw [put1_s]; exact h0 rfl
      · rw [put1_o (by omega)]; exact k1
    · by_cases e : u = t ∧ f = 4
      · obtain ⟨rfl, rfl⟩ := e; rw [put1_s]; exact h4 rfl
      · rw [put1_o (by omega)]; exact k2
    · by_cases e : u = t ∧ f = 5
      · obtain ⟨rfl, rfl⟩ := e; rw [put1_s]; exact h5 rfl
      · rw [put1_o (by omega)]; exact k3
  · rw [put1_o (by omega)]; exact v4 q hq
  · rw [put1_o (by omega)]; exact w1
  · rw [put1_o (by omega)]; exact w2 x hx
  · obtain ⟨k1, k2, k3⟩ := w3 u hu
    refine ⟨?_, ?_, ?_⟩
    · by_cases e : u = t ∧ f = 1
      · obtain ⟨rfl, rfl⟩ := e; rw [put1_s]; exact h1 rfl
      · rw [put1_o (by omega)]; exact k1
    · by_cases e : u = t ∧ f = 2
      · obtain ⟨rfl, rfl⟩ := e; rw [put1_s]; exact h2 rfl
      · rw [put1_o (by omega)]; exact k2
    · by_cases e : u = t ∧ f = 3
      · obtain ⟨rfl, rfl⟩ := e; rw [put1_s]; exact h3 rfl
      · rw [put1_o (by omega)]; exact k3
  · obtain ⟨k1, k2, k3⟩ := w4 q hq
    exact ⟨by rw [put1_o (by omega)]; exact k1, by rw [put1_o (by omega)]; exact k2, fun x hx => by rw [put1_o (by omega)]; exact k3 x hx⟩
theorem Gd.ld {g : Nat → Int32} {m : Nat} (hm : m ≤ nt) : ∀ (f k : Nat) (r : Nat → Int32), Gd nt np r → Gd nt np (sLd g m f k r).2 := by
  intro f
  induction f with
  | zero => intro k r h; exact h
  | succ f ih =>
    intro k r h
    unfold sLd
    split
    · rename_i hk
      split
      · exact h
      · rename_i h2
        exact ih _ _ (h.pt (f := 2) (by omega) (by decide) (fun e => absurd e (by decide)) (fun e => absurd e (by decide)) (fun _ => le_k (by decide) (bI_ne0 h2)) (fun e => absurd e (by decide)) (fun e => absurd e (by decide)) (fun e => absurd e (by decide)))
    · exact h
theorem Gd.load {a1 : Int32} (h : Gd nt np r) : Gd (fLoad w z y nt np r a1).2.1 (fLoad w z y nt np r a1).2.2.1 (fLoad w z y nt np r a1).2.2.2 := by
  unfold fLoad
  split
  · exact h
  · exact Gd.ld (Nat.min_le_right _ _) _ _ _ h
theorem j_load {a1 : Int32} (hJ : J M) : JJ X 122 238 [.ref 0, .int a1] [.ref 66, .int a1] M Eq := by
  obtain ⟨nt, np, hR, h1, h2, hV, hr, hc⟩ := hJ.2.2.1
  refine J.join hJ (t122 hJ.1.1) (g122 hR hJ.rs.1 hV.1 (fun u _ => hJ.1.1.size u)) (fun M1 i => t238 i) (fun M1 i k => ?_) (Gd.load ⟨h1, h2, hV, hr⟩)
  rw [← k 76 (by decide), ← k 77 (by decide), ← k 78 (by decide)]
  exact g238 (k 67 (by decide)) (by rw [k 67 (by decide)]; exact h1) hV.1 (fun u _ => i.1.size u)
end EW
end
section
/-! ===== copy ===== -/
abbrev hsP (l a n : Int32) : Prop := 0 ≤ a ∧ 0 ≤ n ∧ a ≤ l ∧ n ≤ l - a
def mvY (y : Nat → Int32) (s i t j c : Nat) : Nat → Int32 := fun x => if 40 * t + j ≤ x ∧ x < 40 * t + j + c then y (40 * s + i + (x - (40 * t + j))) else y x
def fCopy (w z y : Nat → Int32) (a1 a2 a3 a4 a5 : Int32) : SS :=
  if bI (nI 0 ≤ a1 ∧ a1 ≤ nI 3) = 0 then (-1000001, w, z, y) else if bI (nI 0 ≤ a3 ∧ a3 ≤ nI 3) = 0 then (-1000001, w, z, y) else if w a1.toNatClampNeg = 0 then (-1000006, w, z, y) else if w a3.toNatClampNeg = 0 then (-1000006, w, z, y) else if ¬ w a1.toNatClampNeg = w a3.toNatClampNeg then (-1000003, w, z, y) else if ¬ (hsP (z a1.toNatClampNeg) a2 a5 ∧ hsP (z a3.toNatClampNeg) a4 a5) then (-1000001, w, z, y) else (a5, w, z, mvY y a1.toNatClampNeg a2.toNatClampNeg a3.toNatClampNeg a4.toNatClampNeg a5.toNatClampNeg)
theorem hsP_iff {z i n : Nat} (hi : i < 2147483648) (hn : n < 2147483648) (hz : z ≤ 40) : hsP (nI z) (nI i) (nI n) ↔ i + n ≤ z := by
  constructor
  · rintro ⟨-, -, h3, h4⟩
    have h5 := (jI_le hi (by omega)).mp h3
    rw [sub_le h5] at h4
    have := (jI_le hn (by omega)).mp h4
    omega
  · intro h
    refine ⟨Int32.not_lt.mp (jI_nn hi), Int32.not_lt.mp (jI_nn hn), (jI_le hi (by omega)).mpr (by omega), ?_⟩
    rw [sub_le (by omega)]
    exact (jI_le hn (by omega)).mpr (by omega)
theorem hsP_k {z : Nat} {a n : Int32} (hz : z ≤ 40) (h : hsP (nI z) a n) : ∃ i j, i < 2147483648 ∧ j < 2147483648 ∧ a = nI i ∧ n = nI j ∧ i + j ≤ z := by
  obtain ⟨i, hi, rfl⟩ := jI_of (Int32.not_lt.mpr h.1)
  obtain ⟨j, hj, rfl⟩ := jI_of (Int32.not_lt.mpr h.2.1)
  exact ⟨i, j, hi, hj, rfl, rfl, (hsP_iff hi hj hz).mp h⟩
theorem cpr {i n z : Nat} (hi : i < 2147483648) (hn : n < 2147483648) (hz : z ≤ 40) (h : i + n ≤ z) : lg_cmp ((nI i).toInt64 + (nI n).toInt64) (nI z).toInt64 ≤ 0 := by
  refine (lg_cmp_le _ _).mpr (Int64.le_iff_toInt_le.mpr ?_)
  rw [lg_add hi hn, Int32.toInt_toInt64, jI_int (by omega)]
  omega
section EX
variable {X : mSc} {Q : Option Value → mHp → Prop} {M : mM} {s : Nat} {w z y : Nat → Int32}
theorem Rs.mv {t i j c : Nat} (h : Rs w z y M) (hs : s ≤ 3) (ht : t ≤ 3) (hi : i + c ≤ 40) (hj : j + c ≤ 40) : Rs w z (mvY y s i t j c) (acp M (2 * s + 59) (2 * t + 59) i j c) := by
  intro u hu
  obtain ⟨h1, h2, h3⟩ := h u hu
  refine ⟨by rw [acp_o (by omega)]; exact h1, by rw [acp_o (by omega)]; exact h2, fun k hk => ?_⟩
  by_cases e : u = t
  · subst e
    show (if 2 * u + 59 = 2 * u + 59 then va_cpy (M (2 * s + 59)) (M (2 * u + 59)) i j c k else M (2 * u + 59) k) = _
    rw [if_pos rfl]
    unfold va_cpy mvY
    by_cases g : j ≤ k ∧ k < j + c
    · rw [if_pos g, if_pos ⟨by omega, by omega⟩, (h s (by omega)).2.2 _ (by omega)]
      congr 1
      omega
    · rw [if_neg g, if_neg (by omega)]
      exact h3 k hk
  · rw [acp_o (by omega), h3 k hk]
    unfold mvY
    rw [if_neg (by omega)]
theorem g121 {l : Nat} {a1 a2 : Int32} (hs : s ≤ 3) (hsz : M (2 * s + 58) 2 = nI l) : mT X 121 [.ref (2 * s + 58), .int a1, .int a2] (con M) (some (.int (bI (hsP (nI l) a1 a2)))) (con M) := by
  refine mT.of (row := _) rfl (Nat.le_of_ble_eq_true rfl) ?_
  have hm : mMet 121 = some _ := rfl
  refine x_iload_n hm rfl rfl ?_
  refine x_if_lt hm rfl (t := 30) rfl (fun h1 => ?_) (fun h1 => ?_)
  · have hv : nI 0 = bI (hsP (nI l) a1 a2) := bI_f fun q => Int32.not_le.mpr h1 q.1
    refine x_iconst hm rfl (v := nI 0) (by decide) ?_
    refine x_iret hm rfl rfl (by first | rfl | exact bI_nar | decide) ?_
    exact qt (congrArg Value.int hv)
  · have p1 := Int32.not_lt.mp h1
    refine x_iload_n hm rfl rfl ?_
    refine x_if_lt hm rfl (t := 30) rfl (fun h2 => ?_) (fun h2 => ?_)
    · have hv : nI 0 = bI (hsP (nI l) a1 a2) := bI_f fun q => Int32.not_le.mpr h2 q.2.1
      refine x_iconst hm rfl (v := nI 0) (by decide) ?_
      refine x_iret hm rfl rfl (by first | rfl | exact bI_nar | decide) ?_
      exact qt (congrArg Value.int hv)
    · have p2 := Int32.not_lt.mp h2
      refine x_iload_n hm rfl rfl ?_
      refine x_aload_n hm rfl rfl ?_
      refine x_getf hm rfl (by first | exact gI (sO hs) rfl) ?_
      rw [hsz]
      refine x_icmp_gt hm rfl (t := 30) rfl (fun h3 => ?_) (fun h3 => ?_)
      · have hv : nI 0 = bI (hsP (nI l) a1 a2) := bI_f fun q => Int32.not_le.mpr h3 q.2.2.1
        refine x_iconst hm rfl (v := nI 0) (by decide) ?_
        refine x_iret hm rfl rfl (by first | rfl | exact bI_nar | decide) ?_
        exact qt (congrArg Value.int hv)
      · have p3 := Int32.not_lt.mp h3
        refine x_iload_n hm rfl rfl ?_
        refine x_aload_n hm rfl rfl ?_
        refine x_getf hm rfl (by first | exact gI (sO hs) rfl) ?_
        rw [hsz]
        refine x_iload_n hm rfl rfl ?_
        refine x_isub hm rfl ?_
        refine x_icmp_gt hm rfl (t := 30) rfl (fun h4 => ?_) (fun h4 => ?_)
        · have hv : nI 0 = bI (hsP (nI l) a1 a2) := bI_f fun q => Int32.not_le.mpr h4 q.2.2.2
          refine x_iconst hm rfl (v := nI 0) (by decide) ?_
          refine x_iret hm rfl rfl (by first | rfl | exact bI_nar | decide) ?_
          exact qt (congrArg Value.int hv)
        · have hv : nI 1 = bI (hsP (nI l) a1 a2) := bI_t ⟨p1, p2, p3, Int32.not_lt.mp h4⟩
          refine x_iconst hm rfl (v := nI 1) (by decide) ?_
          refine x_goto hm rfl (t := 31) rfl ?_
          refine x_iret hm rfl rfl (by first | rfl | exact bI_nar | decide) ?_
          exact qt (congrArg Value.int hv)
theorem g120 {a1 a2 a3 a4 a5 : Int32} (hR : Rs w z y M) (hz : ∀ u, u < 4 → ∃ k, k ≤ 40 ∧ z u = nI k) : ∃ v M', mT X 120 [.ref 0, .int a1, .int a2, .int a3, .int a4, .int a5] (con M) (some (.int v)) (con M') ∧ Gq (fCopy w z y a1 a2 a3 a4 a5) v M M' := by
  refine ti_of (row := _) rfl (Nat.le_of_ble_eq_true rfl) ?_
  have hm : mMet 120 = some _ := rfl
  refine x_iload_n hm rfl rfl ?_
  refine x_callS hm rfl rfl (t78) ?_
  refine x_if_eq hm rfl (t := 14) rfl (fun h1 => ?_) (fun h1 => ?_)
  · refine x_aload_n hm rfl rfl ?_
    refine x_ldcI hm rfl (v := (-1000001 : Int32)) (by decide +kernel) ?_
    refine x_cVi hm rfl rfl (t7 (by decide +kernel)) (fun v2 M2 r2 => ?_)
    refine x_iret hm rfl rfl (by first | rfl | exact bI_nar | decide) ?_
    first
      | (have hq : fCopy w z y a1 a2 a3 a4 a5 = (-1000001, w, z, y) := by
           unfold fCopy
           rw [if_pos h1]
         exact ⟨_, _, rfl, rfl, by rw [hq]; exact hR.bq r2.2 r2.1⟩)
      | (have hq : fCopy w z y (nI s) a2 a3 a4 a5 = (-1000001, w, z, y) := by
           unfold fCopy
           rw [if_neg h1, if_pos (by assumption)]
         exact ⟨_, _, rfl, rfl, by rw [hq]; exact hR.bq r2.2 r2.1⟩)
      | (have hq : fCopy w z y a1 a2 a3 a4 a5 = (-1000001, w, z, y) := by
           unfold fCopy
           rw [if_pos h1]
         exact ⟨_, _, rfl, rfl, by rw [hq]; exact hR.bq r1.2 r1.1⟩)
      | (have hq : fCopy w z y a1 a2 a3 a4 a5 = (-1000001, w, z, y) := by
           unfold fCopy
           rw [if_pos h1]
         exact ⟨_, _, rfl, rfl, by rw [hq]; exact hR.bq r3.2 r3.1⟩)
      | (have hq : fCopy w z y a1 a2 a3 a4 a5 = (-1000001, w, z, y) := by
           unfold fCopy
           rw [if_pos h1]
         exact ⟨_, _, rfl, rfl, by rw [hq]; exact hR.bq r4.2 r4.1⟩)
      | (have hq : fCopy w z y a1 a2 a3 a4 a5 = (-1000001, w, z, y) := by
           unfold fCopy
           rw [if_pos h1]
         exact ⟨_, _, rfl, rfl, by rw [hq]; exact hR.bq r5.2 r5.1⟩)
      | (have hq : fCopy w z y a1 a2 a3 a4 a5 = (-1000001, w, z, y) := by
           unfold fCopy
           rw [if_pos h1]
         exact ⟨_, _, rfl, rfl, by rw [hq]; exact hR.bq r6.2 r6.1⟩)
      | (have hq : fCopy w z y a1 a2 a3 a4 a5 = (-1000001, w, z, y) := by
           unfold fCopy
           rw [if_pos h1]
         exact ⟨_, _, rfl, rfl, by rw [hq]; exact hR.bq r7.2 r7.1⟩)
      | (have hq : fCopy w z y a1 a2 a3 a4 a5 = (-1000001, w, z, y) := by
           unfold fCopy
           rw [if_pos h1]
         exact ⟨_, _, rfl, rfl, by rw [hq]; exact hR.bq r8.2 r8.1⟩)
      | (have hq : fCopy w z y a1 a2 a3 a4 a5 = (-1000001, w, z, y) := by
           unfold fCopy
           rw [if_pos h1]
         exact ⟨_, _, rfl, rfl, by rw [hq]; exact hR.bq r9.2 r9.1⟩)
      | (have hq : fCopy w z y a1 a2 a3 a4 a5 = (-1000001, w, z, y) := by
           unfold fCopy
           rw [if_pos h1]
         exact ⟨_, _, rfl, rfl, by rw [hq]; exact hR.bq r10.2 r10.1⟩)
      | (have hq : fCopy w z y a1 a2 a3 a4 a5 = (-1000001, w, z, y) := by
           unfold fCopy
           rw [if_pos h1]
         exact ⟨_, _, rfl, rfl, by rw [hq]; exact hR.bq r11.2 r11.1⟩)
      | (have hq : fCopy w z y a1 a2 a3 a4 a5 = (-1000001, w, z, y) := by
           unfold fCopy
           rw [if_pos h1]
         exact ⟨_, _, rfl, rfl, by rw [hq]; exact hR.bq r12.2 r12.1⟩)
      | (have hq : fCopy w z y a1 a2 a3 a4 a5 = (-1000001, w, z, y) := by
           unfold fCopy
           rw [if_pos h1]
         exact ⟨_, _, rfl, rfl, by rw [hq]; exact hR.bq r13.2 r13.1⟩)
      | (have hq : fCopy w z y a1 a2 a3 a4 a5 = (-1000001, w, z, y) := by
           unfold fCopy
           rw [if_pos h1]
         exact ⟨_, _, rfl, rfl, by rw [hq]; exact hR.bq r14.2 r14.1⟩)
      | (have hq : fCopy w z y a1 a2 a3 a4 a5 = (-1000001, w, z, y) := by
           unfold fCopy
           rw [if_pos h1]
         exact ⟨_, _, rfl, rfl, by rw [hq]; exact hR.bq r15.2 r15.1⟩)
      | (have hq : fCopy w z y a1 a2 a3 a4 a5 = (-1000001, w, z, y) := by
           unfold fCopy
           rw [if_pos h1]
         exact ⟨_, _, rfl, rfl, by rw [hq]; exact hR.bq r16.2 r16.1⟩)
      | (have hq : fCopy w z y a1 a2 a3 a4 a5 = (-1000001, w, z, y) := by
           unfold fCopy
           rw [if_pos h1]
         exact ⟨_, _, rfl, rfl, by rw [hq]; exact hR.bq r17.2 r17.1⟩)
      | (have hq : fCopy w z y a1 a2 a3 a4 a5 = (-1000001, w, z, y) := by
           unfold fCopy
           rw [if_pos h1]
         exact ⟨_, _, rfl, rfl, by rw [hq]; exact hR.bq r18.2 r18.1⟩)
      | (have hq : fCopy w z y a1 a2 a3 a4 a5 = (-1000001, w, z, y) := by
           unfold fCopy
           rw [if_pos h1]
         exact ⟨_, _, rfl, rfl, by rw [hq]; exact hR.bq r19.2 r19.1⟩)
      | (have hq : fCopy w z y a1 a2 a3 a4 a5 = (-1000001, w, z, y) := by
           unfold fCopy
           rw [if_pos h1]
         exact ⟨_, _, rfl, rfl, by rw [hq]; exact hR.bq r20.2 r20.1⟩)
      | (have hq : fCopy w z y a1 a2 a3 a4 a5 = (-1000001, w, z, y) := by
           unfold fCopy
           rw [if_pos h1]
         exact ⟨_, _, rfl, rfl, by rw [hq]; exact hR.bq r21.2 r21.1⟩)
      | (have hq : fCopy w z y a1 a2 a3 a4 a5 = (-1000001, w, z, y) := by
           unfold fCopy
           rw [if_pos h1]
         exact ⟨_, _, rfl, rfl, by rw [hq]; exact hR.bq r22.2 r22.1⟩)
      | (have hq : fCopy w z y a1 a2 a3 a4 a5 = (-1000001, w, z, y) := by
           unfold fCopy
           rw [if_pos h1]
         exact ⟨_, _, rfl, rfl, by rw [hq]; exact hR.bq r23.2 r23.1⟩)
      | (have hq : fCopy w z y a1 a2 a3 a4 a5 = (-1000001, w, z, y) := by
           unfold fCopy
           rw [if_pos h1]
         exact ⟨_, _, rfl, rfl, by rw [hq]; exact hR.bq r24.2 r24.1⟩)
      | (have hq : fCopy w z y a1 a2 a3 a4 a5 = (-1000001, w, z, y) := by
           unfold fCopy
           rw [if_pos h1]
         exact ⟨_, _, rfl, rfl, by rw [hq]; exact hR.bq r25.2 r25.1⟩)
      | (have hq : fCopy w z y (nI s) a2 a3 a4 a5 = (-1000001, w, z, y) := by
           unfold fCopy
           rw [if_neg h1, if_pos (by assumption)]
         exact ⟨_, _, rfl, rfl, by rw [hq]; exact hR.bq r1.2 r1.1⟩)
      | (have hq : fCopy w z y (nI s) a2 a3 a4 a5 = (-1000001, w, z, y) := by
           unfold fCopy
           rw [if_neg h1, if_pos (by assumption)]
         exact ⟨_, _, rfl, rfl, by rw [hq]; exact hR.bq r3.2 r3.1⟩)
      | (have hq : fCopy w z y (nI s) a2 a3 a4 a5 = (-1000001, w, z, y) := by
           unfold fCopy
           rw [if_neg h1, if_pos (by assumption)]
         exact ⟨_, _, rfl, rfl, by rw [hq]; exact hR.bq r4.2 r4.1⟩)
      | (have hq : fCopy w z y (nI s) a2 a3 a4 a5 = (-1000001, w, z, y) := by
           unfold fCopy
           rw [if_neg h1, if_pos (by assumption)]
         exact ⟨_, _, rfl, rfl, by rw [hq]; exact hR.bq r5.2 r5.1⟩)
      | (have hq : fCopy w z y (nI s) a2 a3 a4 a5 = (-1000001, w, z, y) := by
           unfold fCopy
           rw [if_neg h1, if_pos (by assumption)]
         exact ⟨_, _, rfl, rfl, by rw [hq]; exact hR.bq r6.2 r6.1⟩)
      | (have hq : fCopy w z y (nI s) a2 a3 a4 a5 = (-1000001, w, z, y) := by
           unfold fCopy
           rw [if_neg h1, if_pos (by assumption)]
         exact ⟨_, _, rfl, rfl, by rw [hq]; exact hR.bq r7.2 r7.1⟩)
      | (have hq : fCopy w z y (nI s) a2 a3 a4 a5 = (-1000001, w, z, y) := by
           unfold fCopy
           rw [if_neg h1, if_pos (by assumption)]
         exact ⟨_, _, rfl, rfl, by rw [hq]; exact hR.bq r8.2 r8.1⟩)
      | (have hq : fCopy w z y (nI s) a2 a3 a4 a5 = (-1000001, w, z, y) := by
           unfold fCopy
           rw [if_neg h1, if_pos (by assumption)]
         exact ⟨_, _, rfl, rfl, by rw [hq]; exact hR.bq r9.2 r9.1⟩)
      | (have hq : fCopy w z y (nI s) a2 a3 a4 a5 = (-1000001, w, z, y) := by
           unfold fCopy
           rw [if_neg h1, if_pos (by assumption)]
         exact ⟨_, _, rfl, rfl, by rw [hq]; exact hR.bq r10.2 r10.1⟩)
      | (have hq : fCopy w z y (nI s) a2 a3 a4 a5 = (-1000001, w, z, y) := by
           unfold fCopy
           rw [if_neg h1, if_pos (by assumption)]
         exact ⟨_, _, rfl, rfl, by rw [hq]; exact hR.bq r11.2 r11.1⟩)
      | (have hq : fCopy w z y (nI s) a2 a3 a4 a5 = (-1000001, w, z, y) := by
           unfold fCopy
           rw [if_neg h1, if_pos (by assumption)]
         exact ⟨_, _, rfl, rfl, by rw [hq]; exact hR.bq r12.2 r12.1⟩)
      | (have hq : fCopy w z y (nI s) a2 a3 a4 a5 = (-1000001, w, z, y) := by
           unfold fCopy
           rw [if_neg h1, if_pos (by assumption)]
         exact ⟨_, _, rfl, rfl, by rw [hq]; exact hR.bq r13.2 r13.1⟩)
      | (have hq : fCopy w z y (nI s) a2 a3 a4 a5 = (-1000001, w, z, y) := by
           unfold fCopy
           rw [if_neg h1, if_pos (by assumption)]
         exact ⟨_, _, rfl, rfl, by rw [hq]; exact hR.bq r14.2 r14.1⟩)
      | (have hq : fCopy w z y (nI s) a2 a3 a4 a5 = (-1000001, w, z, y) := by
           unfold fCopy
           rw [if_neg h1, if_pos (by assumption)]
         exact ⟨_, _, rfl, rfl, by rw [hq]; exact hR.bq r15.2 r15.1⟩)
      | (have hq : fCopy w z y (nI s) a2 a3 a4 a5 = (-1000001, w, z, y) := by
           unfold fCopy
           rw [if_neg h1, if_pos (by assumption)]
         exact ⟨_, _, rfl, rfl, by rw [hq]; exact hR.bq r16.2 r16.1⟩)
      | (have hq : fCopy w z y (nI s) a2 a3 a4 a5 = (-1000001, w, z, y) := by
           unfold fCopy
           rw [if_neg h1, if_pos (by assumption)]
         exact ⟨_, _, rfl, rfl, by rw [hq]; exact hR.bq r17.2 r17.1⟩)
      | (have hq : fCopy w z y (nI s) a2 a3 a4 a5 = (-1000001, w, z, y) := by
           unfold fCopy
           rw [if_neg h1, if_pos (by assumption)]
         exact ⟨_, _, rfl, rfl, by rw [hq]; exact hR.bq r18.2 r18.1⟩)
      | (have hq : fCopy w z y (nI s) a2 a3 a4 a5 = (-1000001, w, z, y) := by
           unfold fCopy
           rw [if_neg h1, if_pos (by assumption)]
         exact ⟨_, _, rfl, rfl, by rw [hq]; exact hR.bq r19.2 r19.1⟩)
      | (have hq : fCopy w z y (nI s) a2 a3 a4 a5 = (-1000001, w, z, y) := by
           unfold fCopy
           rw [if_neg h1, if_pos (by assumption)]
         exact ⟨_, _, rfl, rfl, by rw [hq]; exact hR.bq r20.2 r20.1⟩)
      | (have hq : fCopy w z y (nI s) a2 a3 a4 a5 = (-1000001, w, z, y) := by
           unfold fCopy
           rw [if_neg h1, if_pos (by assumption)]
         exact ⟨_, _, rfl, rfl, by rw [hq]; exact hR.bq r21.2 r21.1⟩)
      | (have hq : fCopy w z y (nI s) a2 a3 a4 a5 = (-1000001, w, z, y) := by
           unfold fCopy
           rw [if_neg h1, if_pos (by assumption)]
         exact ⟨_, _, rfl, rfl, by rw [hq]; exact hR.bq r22.2 r22.1⟩)
      | (have hq : fCopy w z y (nI s) a2 a3 a4 a5 = (-1000001, w, z, y) := by
           unfold fCopy
           rw [if_neg h1, if_pos (by assumption)]
         exact ⟨_, _, rfl, rfl, by rw [hq]; exact hR.bq r23.2 r23.1⟩)
      | (have hq : fCopy w z y (nI s) a2 a3 a4 a5 = (-1000001, w, z, y) := by
           unfold fCopy
           rw [if_neg h1, if_pos (by assumption)]
         exact ⟨_, _, rfl, rfl, by rw [hq]; exact hR.bq r24.2 r24.1⟩)
      | (have hq : fCopy w z y (nI s) a2 a3 a4 a5 = (-1000001, w, z, y) := by
           unfold fCopy
           rw [if_neg h1, if_pos (by assumption)]
         exact ⟨_, _, rfl, rfl, by rw [hq]; exact hR.bq r25.2 r25.1⟩)
  · obtain ⟨s, hs, hs3⟩ := le_k (by omega) (bI_ne0 h1)
    subst hs3
    refine x_iload_n hm rfl rfl ?_
    refine x_callS hm rfl rfl (t78) ?_
    refine x_if_ne hm rfl (t := 21) rfl (fun h3 => ?_) (fun h3 => ?_)
    · have hh3 := h3
      obtain ⟨u, hu, hu3⟩ := le_k (by omega) (bI_ne0 h3)
      subst hu3
      obtain ⟨ls, hls, hzs⟩ := hz s (by omega)
      obtain ⟨lu, hlu, hzu⟩ := hz u (by omega)
      have hRs := hR s (by omega)
      have hRu := hR u (by omega)
      refine x_aload_n hm rfl rfl ?_
      refine x_getf hm rfl (gR rfl rfl) ?_
      refine x_iload_n hm rfl rfl ?_
      refine x_aald hm rfl (by first | exact lQ 2 (Or.inl rfl) rfl (shk hs) (by omega) (by decide) | exact lQ 2 (Or.inl rfl) rfl (shk hu) (by omega) (by decide) | exact lQ 3 (Or.inr (Or.inl rfl)) rfl rfl (by omega) (by decide)) ?_
      refine x_callV hm rfl (by first | exact mCallSh hs (by decide) rfl rfl rfl rfl rfl | exact mCallSh hu (by decide) rfl rfl rfl rfl rfl) (by first | exact t79 hs | exact t79 hu) ?_
      rw [hRs.1]
      refine x_if_ne hm rfl (t := 45) rfl (fun h4 => ?_) (fun h4 => ?_)
      · have ws : w s = 0 := bI_ne0 h4
        refine x_aload_n hm rfl rfl ?_
        refine x_ldcI hm rfl (v := (-1000006 : Int32)) (by decide +kernel) ?_
        refine x_cVi hm rfl rfl (t7 (by decide +kernel)) (fun v5 M5 r5 => ?_)
        refine x_iret hm rfl rfl (by first | rfl | exact bI_nar | decide) ?_
        first
          | (have hq : fCopy w z y (nI s) a2 (nI u) a4 a5 = (-1000006, w, z, y) := by
               unfold fCopy
               rw [if_neg h1, if_neg hh3, jI_nat (by omega), jI_nat (by omega), if_pos ws]
             exact ⟨_, _, rfl, rfl, by rw [hq]; exact hR.bq r5.2 r5.1⟩)
          | (have hq : fCopy w z y (nI s) a2 (nI u) a4 a5 = (-1000006, w, z, y) := by
               unfold fCopy
               rw [if_neg h1, if_neg hh3, jI_nat (by omega), jI_nat (by omega), if_neg ws, if_pos wu]
             exact ⟨_, _, rfl, rfl, by rw [hq]; exact hR.bq r5.2 r5.1⟩)
          | (have hq : fCopy w z y (nI s) a2 (nI u) a4 a5 = (-1000006, w, z, y) := by
               unfold fCopy
               rw [if_neg h1, if_neg hh3, jI_nat (by omega), jI_nat (by omega), if_pos ws]
             exact ⟨_, _, rfl, rfl, by rw [hq]; exact hR.bq r1.2 r1.1⟩)
          | (have hq : fCopy w z y (nI s) a2 (nI u) a4 a5 = (-1000006, w, z, y) := by
               unfold fCopy
               rw [if_neg h1, if_neg hh3, jI_nat (by omega), jI_nat (by omega), if_pos ws]
             exact ⟨_, _, rfl, rfl, by rw [hq]; exact hR.bq r2.2 r2.1⟩)
          | (have hq : fCopy w z y (nI s) a2 (nI u) a4 a5 = (-1000006, w, z, y) := by
               unfold fCopy
               rw [if_neg h1, if_neg hh3, jI_nat (by omega), jI_nat (by omega), if_pos ws]
             exact ⟨_, _, rfl, rfl, by rw [hq]; exact hR.bq r3.2 r3.1⟩)
          | (have hq : fCopy w z y (nI s) a2 (nI u) a4 a5 = (-1000006, w, z, y) := by
               unfold fCopy
               rw [if_neg h1, if_neg hh3, jI_nat (by omega), jI_nat (by omega), if_pos ws]
             exact ⟨_, _, rfl, rfl, by rw [hq]; exact hR.bq r4.2 r4.1⟩)
          | (have hq : fCopy w z y (nI s) a2 (nI u) a4 a5 = (-1000006, w, z, y) := by
               unfold fCopy
               rw [if_neg h1, if_neg hh3, jI_nat (by omega), jI_nat (by omega), if_pos ws]
             exact ⟨_, _, rfl, rfl, by rw [hq]; exact hR.bq r6.2 r6.1⟩)
          | (have hq : fCopy w z y (nI s) a2 (nI u) a4 a5 = (-1000006, w, z, y) := by
               unfold fCopy
               rw [if_neg h1, if_neg hh3, jI_nat (by omega), jI_nat (by omega), if_pos ws]
             exact ⟨_, _, rfl, rfl, by rw [hq]; exact hR.bq r7.2 r7.1⟩)
          | (have hq : fCopy w z y (nI s) a2 (nI u) a4 a5 = (-1000006, w, z, y) := by
               unfold fCopy
               rw [if_neg h1, if_neg hh3, jI_nat (by omega), jI_nat (by omega), if_pos ws]
             exact ⟨_, _, rfl, rfl, by rw [hq]; exact hR.bq r8.2 r8.1⟩)
          | (have hq : fCopy w z y (nI s) a2 (nI u) a4 a5 = (-1000006, w, z, y) := by
               unfold fCopy
               rw [if_neg h1, if_neg hh3, jI_nat (by omega), jI_nat (by omega), if_pos ws]
             exact ⟨_, _, rfl, rfl, by rw [hq]; exact hR.bq r9.2 r9.1⟩)
          | (have hq : fCopy w z y (nI s) a2 (nI u) a4 a5 = (-1000006, w, z, y) := by
               unfold fCopy
               rw [if_neg h1, if_neg hh3, jI_nat (by omega), jI_nat (by omega), if_pos ws]
             exact ⟨_, _, rfl, rfl, by rw [hq]; exact hR.bq r10.2 r10.1⟩)
          | (have hq : fCopy w z y (nI s) a2 (nI u) a4 a5 = (-1000006, w, z, y) := by
               unfold fCopy
               rw [if_neg h1, if_neg hh3, jI_nat (by omega), jI_nat (by omega), if_pos ws]
             exact ⟨_, _, rfl, rfl, by rw [hq]; exact hR.bq r11.2 r11.1⟩)
          | (have hq : fCopy w z y (nI s) a2 (nI u) a4 a5 = (-1000006, w, z, y) := by
               unfold fCopy
               rw [if_neg h1, if_neg hh3, jI_nat (by omega), jI_nat (by omega), if_pos ws]
             exact ⟨_, _, rfl, rfl, by rw [hq]; exact hR.bq r12.2 r12.1⟩)
          | (have hq : fCopy w z y (nI s) a2 (nI u) a4 a5 = (-1000006, w, z, y) := by
               unfold fCopy
               rw [if_neg h1, if_neg hh3, jI_nat (by omega), jI_nat (by omega), if_pos ws]
             exact ⟨_, _, rfl, rfl, by rw [hq]; exact hR.bq r13.2 r13.1⟩)
          | (have hq : fCopy w z y (nI s) a2 (nI u) a4 a5 = (-1000006, w, z, y) := by
               unfold fCopy
               rw [if_neg h1, if_neg hh3, jI_nat (by omega), jI_nat (by omega), if_pos ws]
             exact ⟨_, _, rfl, rfl, by rw [hq]; exact hR.bq r14.2 r14.1⟩)
          | (have hq : fCopy w z y (nI s) a2 (nI u) a4 a5 = (-1000006, w, z, y) := by
               unfold fCopy
               rw [if_neg h1, if_neg hh3, jI_nat (by omega), jI_nat (by omega), if_pos ws]
             exact ⟨_, _, rfl, rfl, by rw [hq]; exact hR.bq r15.2 r15.1⟩)
          | (have hq : fCopy w z y (nI s) a2 (nI u) a4 a5 = (-1000006, w, z, y) := by
               unfold fCopy
               rw [if_neg h1, if_neg hh3, jI_nat (by omega), jI_nat (by omega), if_pos ws]
             exact ⟨_, _, rfl, rfl, by rw [hq]; exact hR.bq r16.2 r16.1⟩)
          | (have hq : fCopy w z y (nI s) a2 (nI u) a4 a5 = (-1000006, w, z, y) := by
               unfold fCopy
               rw [if_neg h1, if_neg hh3, jI_nat (by omega), jI_nat (by omega), if_pos ws]
             exact ⟨_, _, rfl, rfl, by rw [hq]; exact hR.bq r17.2 r17.1⟩)
          | (have hq : fCopy w z y (nI s) a2 (nI u) a4 a5 = (-1000006, w, z, y) := by
               unfold fCopy
               rw [if_neg h1, if_neg hh3, jI_nat (by omega), jI_nat (by omega), if_pos ws]
             exact ⟨_, _, rfl, rfl, by rw [hq]; exact hR.bq r18.2 r18.1⟩)
          | (have hq : fCopy w z y (nI s) a2 (nI u) a4 a5 = (-1000006, w, z, y) := by
               unfold fCopy
               rw [if_neg h1, if_neg hh3, jI_nat (by omega), jI_nat (by omega), if_pos ws]
             exact ⟨_, _, rfl, rfl, by rw [hq]; exact hR.bq r19.2 r19.1⟩)
          | (have hq : fCopy w z y (nI s) a2 (nI u) a4 a5 = (-1000006, w, z, y) := by
               unfold fCopy
               rw [if_neg h1, if_neg hh3, jI_nat (by omega), jI_nat (by omega), if_pos ws]
             exact ⟨_, _, rfl, rfl, by rw [hq]; exact hR.bq r20.2 r20.1⟩)
          | (have hq : fCopy w z y (nI s) a2 (nI u) a4 a5 = (-1000006, w, z, y) := by
               unfold fCopy
               rw [if_neg h1, if_neg hh3, jI_nat (by omega), jI_nat (by omega), if_pos ws]
             exact ⟨_, _, rfl, rfl, by rw [hq]; exact hR.bq r21.2 r21.1⟩)
          | (have hq : fCopy w z y (nI s) a2 (nI u) a4 a5 = (-1000006, w, z, y) := by
               unfold fCopy
               rw [if_neg h1, if_neg hh3, jI_nat (by omega), jI_nat (by omega), if_pos ws]
             exact ⟨_, _, rfl, rfl, by rw [hq]; exact hR.bq r22.2 r22.1⟩)
          | (have hq : fCopy w z y (nI s) a2 (nI u) a4 a5 = (-1000006, w, z, y) := by
               unfold fCopy
               rw [if_neg h1, if_neg hh3, jI_nat (by omega), jI_nat (by omega), if_pos ws]
             exact ⟨_, _, rfl, rfl, by rw [hq]; exact hR.bq r23.2 r23.1⟩)
          | (have hq : fCopy w z y (nI s) a2 (nI u) a4 a5 = (-1000006, w, z, y) := by
               unfold fCopy
               rw [if_neg h1, if_neg hh3, jI_nat (by omega), jI_nat (by omega), if_pos ws]
             exact ⟨_, _, rfl, rfl, by rw [hq]; exact hR.bq r24.2 r24.1⟩)
          | (have hq : fCopy w z y (nI s) a2 (nI u) a4 a5 = (-1000006, w, z, y) := by
               unfold fCopy
               rw [if_neg h1, if_neg hh3, jI_nat (by omega), jI_nat (by omega), if_pos ws]
             exact ⟨_, _, rfl, rfl, by rw [hq]; exact hR.bq r25.2 r25.1⟩)
          | (have hq : fCopy w z y (nI s) a2 (nI u) a4 a5 = (-1000006, w, z, y) := by
               unfold fCopy
               rw [if_neg h1, if_neg hh3, jI_nat (by omega), jI_nat (by omega), if_neg ws, if_pos wu]
             exact ⟨_, _, rfl, rfl, by rw [hq]; exact hR.bq r1.2 r1.1⟩)
          | (have hq : fCopy w z y (nI s) a2 (nI u) a4 a5 = (-1000006, w, z, y) := by
               unfold fCopy
               rw [if_neg h1, if_neg hh3, jI_nat (by omega), jI_nat (by omega), if_neg ws, if_pos wu]
             exact ⟨_, _, rfl, rfl, by rw [hq]; exact hR.bq r2.2 r2.1⟩)
          | (have hq : fCopy w z y (nI s) a2 (nI u) a4 a5 = (-1000006, w, z, y) := by
               unfold fCopy
               rw [if_neg h1, if_neg hh3, jI_nat (by omega), jI_nat (by omega), if_neg ws, if_pos wu]
             exact ⟨_, _, rfl, rfl, by rw [hq]; exact hR.bq r3.2 r3.1⟩)
          | (have hq : fCopy w z y (nI s) a2 (nI u) a4 a5 = (-1000006, w, z, y) := by
               unfold fCopy
               rw [if_neg h1, if_neg hh3, jI_nat (by omega), jI_nat (by omega), if_neg ws, if_pos wu]
             exact ⟨_, _, rfl, rfl, by rw [hq]; exact hR.bq r4.2 r4.1⟩)
          | (have hq : fCopy w z y (nI s) a2 (nI u) a4 a5 = (-1000006, w, z, y) := by
               unfold fCopy
               rw [if_neg h1, if_neg hh3, jI_nat (by omega), jI_nat (by omega), if_neg ws, if_pos wu]
             exact ⟨_, _, rfl, rfl, by rw [hq]; exact hR.bq r6.2 r6.1⟩)
          | (have hq : fCopy w z y (nI s) a2 (nI u) a4 a5 = (-1000006, w, z, y) := by
               unfold fCopy
               rw [if_neg h1, if_neg hh3, jI_nat (by omega), jI_nat (by omega), if_neg ws, if_pos wu]
             exact ⟨_, _, rfl, rfl, by rw [hq]; exact hR.bq r7.2 r7.1⟩)
          | (have hq : fCopy w z y (nI s) a2 (nI u) a4 a5 = (-1000006, w, z, y) := by
               unfold fCopy
               rw [if_neg h1, if_neg hh3, jI_nat (by omega), jI_nat (by omega), if_neg ws, if_pos wu]
             exact ⟨_, _, rfl, rfl, by rw [hq]; exact hR.bq r8.2 r8.1⟩)
          | (have hq : fCopy w z y (nI s) a2 (nI u) a4 a5 = (-1000006, w, z, y) := by
               unfold fCopy
               rw [if_neg h1, if_neg hh3, jI_nat (by omega), jI_nat (by omega), if_neg ws, if_pos wu]
             exact ⟨_, _, rfl, rfl, by rw [hq]; exact hR.bq r9.2 r9.1⟩)
          | (have hq : fCopy w z y (nI s) a2 (nI u) a4 a5 = (-1000006, w, z, y) := by
               unfold fCopy
               rw [if_neg h1, if_neg hh3, jI_nat (by omega), jI_nat (by omega), if_neg ws, if_pos wu]
             exact ⟨_, _, rfl, rfl, by rw [hq]; exact hR.bq r10.2 r10.1⟩)
          | (have hq : fCopy w z y (nI s) a2 (nI u) a4 a5 = (-1000006, w, z, y) := by
               unfold fCopy
               rw [if_neg h1, if_neg hh3, jI_nat (by omega), jI_nat (by omega), if_neg ws, if_pos wu]
             exact ⟨_, _, rfl, rfl, by rw [hq]; exact hR.bq r11.2 r11.1⟩)
          | (have hq : fCopy w z y (nI s) a2 (nI u) a4 a5 = (-1000006, w, z, y) := by
               unfold fCopy
               rw [if_neg h1, if_neg hh3, jI_nat (by omega), jI_nat (by omega), if_neg ws, if_pos wu]
             exact ⟨_, _, rfl, rfl, by rw [hq]; exact hR.bq r12.2 r12.1⟩)
          | (have hq : fCopy w z y (nI s) a2 (nI u) a4 a5 = (-1000006, w, z, y) := by
               unfold fCopy
               rw [if_neg h1, if_neg hh3, jI_nat (by omega), jI_nat (by omega), if_neg ws, if_pos wu]
             exact ⟨_, _, rfl, rfl, by rw [hq]; exact hR.bq r13.2 r13.1⟩)
          | (have hq : fCopy w z y (nI s) a2 (nI u) a4 a5 = (-1000006, w, z, y) := by
               unfold fCopy
               rw [if_neg h1, if_neg hh3, jI_nat (by omega), jI_nat (by omega), if_neg ws, if_pos wu]
             exact ⟨_, _, rfl, rfl, by rw [hq]; exact hR.bq r14.2 r14.1⟩)
          | (have hq : fCopy w z y (nI s) a2 (nI u) a4 a5 = (-1000006, w, z, y) := by
               unfold fCopy
               rw [if_neg h1, if_neg hh3, jI_nat (by omega), jI_nat (by omega), if_neg ws, if_pos wu]
             exact ⟨_, _, rfl, rfl, by rw [hq]; exact hR.bq r15.2 r15.1⟩)
          | (have hq : fCopy w z y (nI s) a2 (nI u) a4 a5 = (-1000006, w, z, y) := by
               unfold fCopy
               rw [if_neg h1, if_neg hh3, jI_nat (by omega), jI_nat (by omega), if_neg ws, if_pos wu]
             exact ⟨_, _, rfl, rfl, by rw [hq]; exact hR.bq r16.2 r16.1⟩)
          | (have hq : fCopy w z y (nI s) a2 (nI u) a4 a5 = (-1000006, w, z, y) := by
               unfold fCopy
               rw [if_neg h1, if_neg hh3, jI_nat (by omega), jI_nat (by omega), if_neg ws, if_pos wu]
             exact ⟨_, _, rfl, rfl, by rw [hq]; exact hR.bq r17.2 r17.1⟩)
          | (have hq : fCopy w z y (nI s) a2 (nI u) a4 a5 = (-1000006, w, z, y) := by
               unfold fCopy
               rw [if_neg h1, if_neg hh3, jI_nat (by omega), jI_nat (by omega), if_neg ws, if_pos wu]
             exact ⟨_, _, rfl, rfl, by rw [hq]; exact hR.bq r18.2 r18.1⟩)
          | (have hq : fCopy w z y (nI s) a2 (nI u) a4 a5 = (-1000006, w, z, y) := by
               unfold fCopy
               rw [if_neg h1, if_neg hh3, jI_nat (by omega), jI_nat (by omega), if_neg ws, if_pos wu]
             exact ⟨_, _, rfl, rfl, by rw [hq]; exact hR.bq r19.2 r19.1⟩)
          | (have hq : fCopy w z y (nI s) a2 (nI u) a4 a5 = (-1000006, w, z, y) := by
               unfold fCopy
               rw [if_neg h1, if_neg hh3, jI_nat (by omega), jI_nat (by omega), if_neg ws, if_pos wu]
             exact ⟨_, _, rfl, rfl, by rw [hq]; exact hR.bq r20.2 r20.1⟩)
          | (have hq : fCopy w z y (nI s) a2 (nI u) a4 a5 = (-1000006, w, z, y) := by
               unfold fCopy
               rw [if_neg h1, if_neg hh3, jI_nat (by omega), jI_nat (by omega), if_neg ws, if_pos wu]
             exact ⟨_, _, rfl, rfl, by rw [hq]; exact hR.bq r21.2 r21.1⟩)
          | (have hq : fCopy w z y (nI s) a2 (nI u) a4 a5 = (-1000006, w, z, y) := by
               unfold fCopy
               rw [if_neg h1, if_neg hh3, jI_nat (by omega), jI_nat (by omega), if_neg ws, if_pos wu]
             exact ⟨_, _, rfl, rfl, by rw [hq]; exact hR.bq r22.2 r22.1⟩)
          | (have hq : fCopy w z y (nI s) a2 (nI u) a4 a5 = (-1000006, w, z, y) := by
               unfold fCopy
               rw [if_neg h1, if_neg hh3, jI_nat (by omega), jI_nat (by omega), if_neg ws, if_pos wu]
             exact ⟨_, _, rfl, rfl, by rw [hq]; exact hR.bq r23.2 r23.1⟩)
          | (have hq : fCopy w z y (nI s) a2 (nI u) a4 a5 = (-1000006, w, z, y) := by
               unfold fCopy
               rw [if_neg h1, if_neg hh3, jI_nat (by omega), jI_nat (by omega), if_neg ws, if_pos wu]
             exact ⟨_, _, rfl, rfl, by rw [hq]; exact hR.bq r24.2 r24.1⟩)
          | (have hq : fCopy w z y (nI s) a2 (nI u) a4 a5 = (-1000006, w, z, y) := by
               unfold fCopy
               rw [if_neg h1, if_neg hh3, jI_nat (by omega), jI_nat (by omega), if_neg ws, if_pos wu]
             exact ⟨_, _, rfl, rfl, by rw [hq]; exact hR.bq r25.2 r25.1⟩)
      · have ws : ¬ w s = 0 := bI_eq0.mp h4
        refine x_aload_n hm rfl rfl ?_
        refine x_getf hm rfl (gR rfl rfl) ?_
        refine x_iload_n hm rfl rfl ?_
        refine x_aald hm rfl (by first | exact lQ 2 (Or.inl rfl) rfl (shk hs) (by omega) (by decide) | exact lQ 2 (Or.inl rfl) rfl (shk hu) (by omega) (by decide) | exact lQ 3 (Or.inr (Or.inl rfl)) rfl rfl (by omega) (by decide)) ?_
        refine x_callV hm rfl (by first | exact mCallSh hs (by decide) rfl rfl rfl rfl rfl | exact mCallSh hu (by decide) rfl rfl rfl rfl rfl) (by first | exact t79 hs | exact t79 hu) ?_
        rw [hRu.1]
        refine x_if_eq hm rfl (t := 52) rfl (fun h6 => ?_) (fun h6 => ?_)
        · have wu : ¬ w u = 0 := bI_eq0.mp h6
          refine x_aload_n hm rfl rfl ?_
          refine x_getf hm rfl (gR rfl rfl) ?_
          refine x_iload_n hm rfl rfl ?_
          refine x_aald hm rfl (by first | exact lQ 2 (Or.inl rfl) rfl (shk hs) (by omega) (by decide) | exact lQ 2 (Or.inl rfl) rfl (shk hu) (by omega) (by decide) | exact lQ 3 (Or.inr (Or.inl rfl)) rfl rfl (by omega) (by decide)) ?_
          refine x_getf hm rfl (by first | exact gI (sO hs) rfl | exact gI (sO hu) rfl) ?_
          rw [hRs.1]
          refine x_aload_n hm rfl rfl ?_
          refine x_getf hm rfl (gR rfl rfl) ?_
          refine x_iload_n hm rfl rfl ?_
          refine x_aald hm rfl (by first | exact lQ 2 (Or.inl rfl) rfl (shk hs) (by omega) (by decide) | exact lQ 2 (Or.inl rfl) rfl (shk hu) (by omega) (by decide) | exact lQ 3 (Or.inr (Or.inl rfl)) rfl rfl (by omega) (by decide)) ?_
          refine x_getf hm rfl (by first | exact gI (sO hs) rfl | exact gI (sO hu) rfl) ?_
          rw [hRu.1]
          refine x_icmp_eq hm rfl (t := 80) rfl (fun h7 => ?_) (fun h7 => ?_)
          · have we : w s = w u := h7
            refine x_aload_n hm rfl rfl ?_
            refine x_getf hm rfl (gR rfl rfl) ?_
            refine x_iload_n hm rfl rfl ?_
            refine x_aald hm rfl (by first | exact lQ 2 (Or.inl rfl) rfl (shk hs) (by omega) (by decide) | exact lQ 2 (Or.inl rfl) rfl (shk hu) (by omega) (by decide) | exact lQ 3 (Or.inr (Or.inl rfl)) rfl rfl (by omega) (by decide)) ?_
            refine x_iload_n hm rfl rfl ?_
            refine x_iload hm rfl rfl ?_
            refine x_callV hm rfl (by first | exact mCallSh hs (by decide) rfl rfl rfl rfl rfl | exact mCallSh hu (by decide) rfl rfl rfl rfl rfl) (g121 hs (hRs.2.1.trans hzs)) ?_
            refine x_if_eq hm rfl (t := 111) rfl (fun h8 => ?_) (fun h8 => ?_)
            · have hbad : ¬ (hsP (z s) a2 a5 ∧ hsP (z u) a4 a5) := fun q => bI_eq0.mp h8 (by rw [← hzs]; exact q.1)
              refine x_aload_n hm rfl rfl ?_
              refine x_ldcI hm rfl (v := (-1000001 : Int32)) (by decide +kernel) ?_
              refine x_cVi hm rfl rfl (t7 (by decide +kernel)) (fun v9 M9 r9 => ?_)
              refine x_iret hm rfl rfl (by first | rfl | exact bI_nar | decide) ?_
              first
                | (have hq : fCopy w z y (nI s) a2 (nI u) a4 a5 = (-1000001, w, z, y) := by
                     unfold fCopy
                     rw [if_neg h1, if_neg hh3, jI_nat (by omega), jI_nat (by omega), if_neg ws, if_neg wu, if_neg (not_not_intro we), if_pos hbad]
                   exact ⟨_, _, rfl, rfl, by rw [hq]; exact hR.bq r9.2 r9.1⟩)
                | (have hq : fCopy w z y (nI s) a2 (nI u) a4 a5 = (-1000001, w, z, y) := by
                     unfold fCopy
                     rw [if_neg h1, if_neg hh3, jI_nat (by omega), jI_nat (by omega), if_neg ws, if_neg wu, if_neg (not_not_intro we), if_pos hbad]
                   exact ⟨_, _, rfl, rfl, by rw [hq]; exact hR.bq r1.2 r1.1⟩)
                | (have hq : fCopy w z y (nI s) a2 (nI u) a4 a5 = (-1000001, w, z, y) := by
                     unfold fCopy
                     rw [if_neg h1, if_neg hh3, jI_nat (by omega), jI_nat (by omega), if_neg ws, if_neg wu, if_neg (not_not_intro we), if_pos hbad]
                   exact ⟨_, _, rfl, rfl, by rw [hq]; exact hR.bq r2.2 r2.1⟩)
                | (have hq : fCopy w z y (nI s) a2 (nI u) a4 a5 = (-1000001, w, z, y) := by
                     unfold fCopy
                     rw [if_neg h1, if_neg hh3, jI_nat (by omega), jI_nat (by omega), if_neg ws, if_neg wu, if_neg (not_not_intro we), if_pos hbad]
                   exact ⟨_, _, rfl, rfl, by rw [hq]; exact hR.bq r3.2 r3.1⟩)
                | (have hq : fCopy w z y (nI s) a2 (nI u) a4 a5 = (-1000001, w, z, y) := by
                     unfold fCopy
                     rw [if_neg h1, if_neg hh3, jI_nat (by omega), jI_nat (by omega), if_neg ws, if_neg wu, if_neg (not_not_intro we), if_pos hbad]
                   exact ⟨_, _, rfl, rfl, by rw [hq]; exact hR.bq r4.2 r4.1⟩)
                | (have hq : fCopy w z y (nI s) a2 (nI u) a4 a5 = (-1000001, w, z, y) := by
                     unfold fCopy
                     rw [if_neg h1, if_neg hh3, jI_nat (by omega), jI_nat (by omega), if_neg ws, if_neg wu, if_neg (not_not_intro we), if_pos hbad]
                   exact ⟨_, _, rfl, rfl, by rw [hq]; exact hR.bq r5.2 r5.1⟩)
                | (have hq : fCopy w z y (nI s) a2 (nI u) a4 a5 = (-1000001, w, z, y) := by
                     unfold fCopy
                     rw [if_neg h1, if_neg hh3, jI_nat (by omega), jI_nat (by omega), if_neg ws, if_neg wu, if_neg (not_not_intro we), if_pos hbad]
                   exact ⟨_, _, rfl, rfl, by rw [hq]; exact hR.bq r6.2 r6.1⟩)
                | (have hq : fCopy w z y (nI s) a2 (nI u) a4 a5 = (-1000001, w, z, y) := by
                     unfold fCopy
                     rw [if_neg h1, if_neg hh3, jI_nat (by omega), jI_nat (by omega), if_neg ws, if_neg wu, if_neg (not_not_intro we), if_pos hbad]
                   exact ⟨_, _, rfl, rfl, by rw [hq]; exact hR.bq r7.2 r7.1⟩)
                | (have hq : fCopy w z y (nI s) a2 (nI u) a4 a5 = (-1000001, w, z, y) := by
                     unfold fCopy
                     rw [if_neg h1, if_neg hh3, jI_nat (by omega), jI_nat (by omega), if_neg ws, if_neg wu, if_neg (not_not_intro we), if_pos hbad]
                   exact ⟨_, _, rfl, rfl, by rw [hq]; exact hR.bq r8.2 r8.1⟩)
                | (have hq : fCopy w z y (nI s) a2 (nI u) a4 a5 = (-1000001, w, z, y) := by
                     unfold fCopy
                     rw [if_neg h1, if_neg hh3, jI_nat (by omega), jI_nat (by omega), if_neg ws, if_neg wu, if_neg (not_not_intro we), if_pos hbad]
                   exact ⟨_, _, rfl, rfl, by rw [hq]; exact hR.bq r10.2 r10.1⟩)
                | (have hq : fCopy w z y (nI s) a2 (nI u) a4 a5 = (-1000001, w, z, y) := by
                     unfold fCopy
                     rw [if_neg h1, if_neg hh3, jI_nat (by omega), jI_nat (by omega), if_neg ws, if_neg wu, if_neg (not_not_intro we), if_pos hbad]
                   exact ⟨_, _, rfl, rfl, by rw [hq]; exact hR.bq r11.2 r11.1⟩)
                | (have hq : fCopy w z y (nI s) a2 (nI u) a4 a5 = (-1000001, w, z, y) := by
                     unfold fCopy
                     rw [if_neg h1, if_neg hh3, jI_nat (by omega), jI_nat (by omega), if_neg ws, if_neg wu, if_neg (not_not_intro we), if_pos hbad]
                   exact ⟨_, _, rfl, rfl, by rw [hq]; exact hR.bq r12.2 r12.1⟩)
                | (have hq : fCopy w z y (nI s) a2 (nI u) a4 a5 = (-1000001, w, z, y) := by
                     unfold fCopy
                     rw [if_neg h1, if_neg hh3, jI_nat (by omega), jI_nat (by omega), if_neg ws, if_neg wu, if_neg (not_not_intro we), if_pos hbad]
                   exact ⟨_, _, rfl, rfl, by rw [hq]; exact hR.bq r13.2 r13.1⟩)
                | (have hq : fCopy w z y (nI s) a2 (nI u) a4 a5 = (-1000001, w, z, y) := by
                     unfold fCopy
                     rw [if_neg h1, if_neg hh3, jI_nat (by omega), jI_nat (by omega), if_neg ws, if_neg wu, if_neg (not_not_intro we), if_pos hbad]
                   exact ⟨_, _, rfl, rfl, by rw [hq]; exact hR.bq r14.2 r14.1⟩)
                | (have hq : fCopy w z y (nI s) a2 (nI u) a4 a5 = (-1000001, w, z, y) := by
                     unfold fCopy
                     rw [if_neg h1, if_neg hh3, jI_nat (by omega), jI_nat (by omega), if_neg ws, if_neg wu, if_neg (not_not_intro we), if_pos hbad]
                   exact ⟨_, _, rfl, rfl, by rw [hq]; exact hR.bq r15.2 r15.1⟩)
                | (have hq : fCopy w z y (nI s) a2 (nI u) a4 a5 = (-1000001, w, z, y) := by
                     unfold fCopy
                     rw [if_neg h1, if_neg hh3, jI_nat (by omega), jI_nat (by omega), if_neg ws, if_neg wu, if_neg (not_not_intro we), if_pos hbad]
                   exact ⟨_, _, rfl, rfl, by rw [hq]; exact hR.bq r16.2 r16.1⟩)
                | (have hq : fCopy w z y (nI s) a2 (nI u) a4 a5 = (-1000001, w, z, y) := by
                     unfold fCopy
                     rw [if_neg h1, if_neg hh3, jI_nat (by omega), jI_nat (by omega), if_neg ws, if_neg wu, if_neg (not_not_intro we), if_pos hbad]
                   exact ⟨_, _, rfl, rfl, by rw [hq]; exact hR.bq r17.2 r17.1⟩)
                | (have hq : fCopy w z y (nI s) a2 (nI u) a4 a5 = (-1000001, w, z, y) := by
                     unfold fCopy
                     rw [if_neg h1, if_neg hh3, jI_nat (by omega), jI_nat (by omega), if_neg ws, if_neg wu, if_neg (not_not_intro we), if_pos hbad]
                   exact ⟨_, _, rfl, rfl, by rw [hq]; exact hR.bq r18.2 r18.1⟩)
                | (have hq : fCopy w z y (nI s) a2 (nI u) a4 a5 = (-1000001, w, z, y) := by
                     unfold fCopy
                     rw [if_neg h1, if_neg hh3, jI_nat (by omega), jI_nat (by omega), if_neg ws, if_neg wu, if_neg (not_not_intro we), if_pos hbad]
                   exact ⟨_, _, rfl, rfl, by rw [hq]; exact hR.bq r19.2 r19.1⟩)
                | (have hq : fCopy w z y (nI s) a2 (nI u) a4 a5 = (-1000001, w, z, y) := by
                     unfold fCopy
                     rw [if_neg h1, if_neg hh3, jI_nat (by omega), jI_nat (by omega), if_neg ws, if_neg wu, if_neg (not_not_intro we), if_pos hbad]
                   exact ⟨_, _, rfl, rfl, by rw [hq]; exact hR.bq r20.2 r20.1⟩)
                | (have hq : fCopy w z y (nI s) a2 (nI u) a4 a5 = (-1000001, w, z, y) := by
                     unfold fCopy
                     rw [if_neg h1, if_neg hh3, jI_nat (by omega), jI_nat (by omega), if_neg ws, if_neg wu, if_neg (not_not_intro we), if_pos hbad]
                   exact ⟨_, _, rfl, rfl, by rw [hq]; exact hR.bq r21.2 r21.1⟩)
                | (have hq : fCopy w z y (nI s) a2 (nI u) a4 a5 = (-1000001, w, z, y) := by
                     unfold fCopy
                     rw [if_neg h1, if_neg hh3, jI_nat (by omega), jI_nat (by omega), if_neg ws, if_neg wu, if_neg (not_not_intro we), if_pos hbad]
                   exact ⟨_, _, rfl, rfl, by rw [hq]; exact hR.bq r22.2 r22.1⟩)
                | (have hq : fCopy w z y (nI s) a2 (nI u) a4 a5 = (-1000001, w, z, y) := by
                     unfold fCopy
                     rw [if_neg h1, if_neg hh3, jI_nat (by omega), jI_nat (by omega), if_neg ws, if_neg wu, if_neg (not_not_intro we), if_pos hbad]
                   exact ⟨_, _, rfl, rfl, by rw [hq]; exact hR.bq r23.2 r23.1⟩)
                | (have hq : fCopy w z y (nI s) a2 (nI u) a4 a5 = (-1000001, w, z, y) := by
                     unfold fCopy
                     rw [if_neg h1, if_neg hh3, jI_nat (by omega), jI_nat (by omega), if_neg ws, if_neg wu, if_neg (not_not_intro we), if_pos hbad]
                   exact ⟨_, _, rfl, rfl, by rw [hq]; exact hR.bq r24.2 r24.1⟩)
                | (have hq : fCopy w z y (nI s) a2 (nI u) a4 a5 = (-1000001, w, z, y) := by
                     unfold fCopy
                     rw [if_neg h1, if_neg hh3, jI_nat (by omega), jI_nat (by omega), if_neg ws, if_neg wu, if_neg (not_not_intro we), if_pos hbad]
                   exact ⟨_, _, rfl, rfl, by rw [hq]; exact hR.bq r25.2 r25.1⟩)
            · have hp1 := bI_ne0 h8
              refine x_aload_n hm rfl rfl ?_
              refine x_getf hm rfl (gR rfl rfl) ?_
              refine x_iload_n hm rfl rfl ?_
              refine x_aald hm rfl (by first | exact lQ 2 (Or.inl rfl) rfl (shk hs) (by omega) (by decide) | exact lQ 2 (Or.inl rfl) rfl (shk hu) (by omega) (by decide) | exact lQ 3 (Or.inr (Or.inl rfl)) rfl rfl (by omega) (by decide)) ?_
              refine x_iload hm rfl rfl ?_
              refine x_iload hm rfl rfl ?_
              refine x_callV hm rfl (by first | exact mCallSh hs (by decide) rfl rfl rfl rfl rfl | exact mCallSh hu (by decide) rfl rfl rfl rfl rfl) (g121 hu (hRu.2.1.trans hzu)) ?_
              refine x_if_ne hm rfl (t := 118) rfl (fun h10 => ?_) (fun h10 => ?_)
              · have hp2 := bI_ne0 h10
                obtain ⟨i, c, hi, hc, rfl, rfl, hic⟩ := hsP_k hls hp1
                obtain ⟨j, c2, hj, hc2, rfl, e2, hjc⟩ := hsP_k hlu hp2
                obtain rfl := jI_inj hc hc2 e2
                refine x_aload_n hm rfl rfl ?_
                refine x_getf hm rfl (gR rfl rfl) ?_
                refine x_iload_n hm rfl rfl ?_
                refine x_aald hm rfl (by first | exact lQ 2 (Or.inl rfl) rfl (shk hs) (by omega) (by decide) | exact lQ 2 (Or.inl rfl) rfl (shk hu) (by omega) (by decide) | exact lQ 3 (Or.inr (Or.inl rfl)) rfl rfl (by omega) (by decide)) ?_
                refine x_getf hm rfl (by first | exact gR (sO hs) rfl | exact gR (sO hu) rfl) ?_
                refine x_iload_n hm rfl rfl ?_
                refine x_aload_n hm rfl rfl ?_
                refine x_getf hm rfl (gR rfl rfl) ?_
                refine x_iload_n hm rfl rfl ?_
                refine x_aald hm rfl (by first | exact lQ 2 (Or.inl rfl) rfl (shk hs) (by omega) (by decide) | exact lQ 2 (Or.inl rfl) rfl (shk hu) (by omega) (by decide) | exact lQ 3 (Or.inr (Or.inl rfl)) rfl rfl (by omega) (by decide)) ?_
                refine x_getf hm rfl (by first | exact gR (sO hs) rfl | exact gR (sO hu) rfl) ?_
                refine x_iload hm rfl rfl ?_
                refine x_iload hm rfl rfl ?_
                refine x_lib hm rfl (acp_call (sRow hs) (sRow hu) (by omega) (by omega) ⟨by decide, by decide⟩ rfl) ?_
                dsimp only
                refine x_iload hm rfl rfl ?_
                refine x_iret hm rfl rfl (by first | rfl | exact bI_nar | decide) ?_
                have hq : fCopy w z y (nI s) (nI i) (nI u) (nI j) (nI c) = (nI c, w, z, mvY y s i u j c) := by
                  unfold fCopy
                  rw [if_neg h1, if_neg hh3, jI_nat (by omega), jI_nat (by omega), if_neg ws, if_neg wu, if_neg (not_not_intro we), if_neg (not_not_intro (And.intro (by rw [hzs]; exact hp1) (by rw [hzu]; exact hp2))), jI_nat (by omega), jI_nat (by omega), jI_nat (by omega)]
                exact ⟨_, _, rfl, rfl, by rw [hq]; exact ⟨rfl, hR.mv hs hu (by omega) (by omega), fun a ha => acp_o (by omega)⟩⟩
              · have hbad : ¬ (hsP (z s) a2 a5 ∧ hsP (z u) a4 a5) := fun q => bI_eq0.mp h10 (by rw [← hzu]; exact q.2)
                refine x_aload_n hm rfl rfl ?_
                refine x_ldcI hm rfl (v := (-1000001 : Int32)) (by decide +kernel) ?_
                refine x_cVi hm rfl rfl (t7 (by decide +kernel)) (fun v11 M11 r11 => ?_)
                refine x_iret hm rfl rfl (by first | rfl | exact bI_nar | decide) ?_
                first
                  | (have hq : fCopy w z y (nI s) a2 (nI u) a4 a5 = (-1000001, w, z, y) := by
                       unfold fCopy
                       rw [if_neg h1, if_neg hh3, jI_nat (by omega), jI_nat (by omega), if_neg ws, if_neg wu, if_neg (not_not_intro we), if_pos hbad]
                     exact ⟨_, _, rfl, rfl, by rw [hq]; exact hR.bq r11.2 r11.1⟩)
                  | (have hq : fCopy w z y (nI s) a2 (nI u) a4 a5 = (-1000001, w, z, y) := by
                       unfold fCopy
                       rw [if_neg h1, if_neg hh3, jI_nat (by omega), jI_nat (by omega), if_neg ws, if_neg wu, if_neg (not_not_intro we), if_pos hbad]
                     exact ⟨_, _, rfl, rfl, by rw [hq]; exact hR.bq r1.2 r1.1⟩)
                  | (have hq : fCopy w z y (nI s) a2 (nI u) a4 a5 = (-1000001, w, z, y) := by
                       unfold fCopy
                       rw [if_neg h1, if_neg hh3, jI_nat (by omega), jI_nat (by omega), if_neg ws, if_neg wu, if_neg (not_not_intro we), if_pos hbad]
                     exact ⟨_, _, rfl, rfl, by rw [hq]; exact hR.bq r2.2 r2.1⟩)
                  | (have hq : fCopy w z y (nI s) a2 (nI u) a4 a5 = (-1000001, w, z, y) := by
                       unfold fCopy
                       rw [if_neg h1, if_neg hh3, jI_nat (by omega), jI_nat (by omega), if_neg ws, if_neg wu, if_neg (not_not_intro we), if_pos hbad]
                     exact ⟨_, _, rfl, rfl, by rw [hq]; exact hR.bq r3.2 r3.1⟩)
                  | (have hq : fCopy w z y (nI s) a2 (nI u) a4 a5 = (-1000001, w, z, y) := by
                       unfold fCopy
                       rw [if_neg h1, if_neg hh3, jI_nat (by omega), jI_nat (by omega), if_neg ws, if_neg wu, if_neg (not_not_intro we), if_pos hbad]
                     exact ⟨_, _, rfl, rfl, by rw [hq]; exact hR.bq r4.2 r4.1⟩)
                  | (have hq : fCopy w z y (nI s) a2 (nI u) a4 a5 = (-1000001, w, z, y) := by
                       unfold fCopy
                       rw [if_neg h1, if_neg hh3, jI_nat (by omega), jI_nat (by omega), if_neg ws, if_neg wu, if_neg (not_not_intro we), if_pos hbad]
                     exact ⟨_, _, rfl, rfl, by rw [hq]; exact hR.bq r5.2 r5.1⟩)
                  | (have hq : fCopy w z y (nI s) a2 (nI u) a4 a5 = (-1000001, w, z, y) := by
                       unfold fCopy
                       rw [if_neg h1, if_neg hh3, jI_nat (by omega), jI_nat (by omega), if_neg ws, if_neg wu, if_neg (not_not_intro we), if_pos hbad]
                     exact ⟨_, _, rfl, rfl, by rw [hq]; exact hR.bq r6.2 r6.1⟩)
                  | (have hq : fCopy w z y (nI s) a2 (nI u) a4 a5 = (-1000001, w, z, y) := by
                       unfold fCopy
                       rw [if_neg h1, if_neg hh3, jI_nat (by omega), jI_nat (by omega), if_neg ws, if_neg wu, if_neg (not_not_intro we), if_pos hbad]
                     exact ⟨_, _, rfl, rfl, by rw [hq]; exact hR.bq r7.2 r7.1⟩)
                  | (have hq : fCopy w z y (nI s) a2 (nI u) a4 a5 = (-1000001, w, z, y) := by
                       unfold fCopy
                       rw [if_neg h1, if_neg hh3, jI_nat (by omega), jI_nat (by omega), if_neg ws, if_neg wu, if_neg (not_not_intro we), if_pos hbad]
                     exact ⟨_, _, rfl, rfl, by rw [hq]; exact hR.bq r8.2 r8.1⟩)
                  | (have hq : fCopy w z y (nI s) a2 (nI u) a4 a5 = (-1000001, w, z, y) := by
                       unfold fCopy
                       rw [if_neg h1, if_neg hh3, jI_nat (by omega), jI_nat (by omega), if_neg ws, if_neg wu, if_neg (not_not_intro we), if_pos hbad]
                     exact ⟨_, _, rfl, rfl, by rw [hq]; exact hR.bq r9.2 r9.1⟩)
                  | (have hq : fCopy w z y (nI s) a2 (nI u) a4 a5 = (-1000001, w, z, y) := by
                       unfold fCopy
                       rw [if_neg h1, if_neg hh3, jI_nat (by omega), jI_nat (by omega), if_neg ws, if_neg wu, if_neg (not_not_intro we), if_pos hbad]
                     exact ⟨_, _, rfl, rfl, by rw [hq]; exact hR.bq r10.2 r10.1⟩)
                  | (have hq : fCopy w z y (nI s) a2 (nI u) a4 a5 = (-1000001, w, z, y) := by
                       unfold fCopy
                       rw [if_neg h1, if_neg hh3, jI_nat (by omega), jI_nat (by omega), if_neg ws, if_neg wu, if_neg (not_not_intro we), if_pos hbad]
                     exact ⟨_, _, rfl, rfl, by rw [hq]; exact hR.bq r12.2 r12.1⟩)
                  | (have hq : fCopy w z y (nI s) a2 (nI u) a4 a5 = (-1000001, w, z, y) := by
                       unfold fCopy
                       rw [if_neg h1, if_neg hh3, jI_nat (by omega), jI_nat (by omega), if_neg ws, if_neg wu, if_neg (not_not_intro we), if_pos hbad]
                     exact ⟨_, _, rfl, rfl, by rw [hq]; exact hR.bq r13.2 r13.1⟩)
                  | (have hq : fCopy w z y (nI s) a2 (nI u) a4 a5 = (-1000001, w, z, y) := by
                       unfold fCopy
                       rw [if_neg h1, if_neg hh3, jI_nat (by omega), jI_nat (by omega), if_neg ws, if_neg wu, if_neg (not_not_intro we), if_pos hbad]
                     exact ⟨_, _, rfl, rfl, by rw [hq]; exact hR.bq r14.2 r14.1⟩)
                  | (have hq : fCopy w z y (nI s) a2 (nI u) a4 a5 = (-1000001, w, z, y) := by
                       unfold fCopy
                       rw [if_neg h1, if_neg hh3, jI_nat (by omega), jI_nat (by omega), if_neg ws, if_neg wu, if_neg (not_not_intro we), if_pos hbad]
                     exact ⟨_, _, rfl, rfl, by rw [hq]; exact hR.bq r15.2 r15.1⟩)
                  | (have hq : fCopy w z y (nI s) a2 (nI u) a4 a5 = (-1000001, w, z, y) := by
                       unfold fCopy
                       rw [if_neg h1, if_neg hh3, jI_nat (by omega), jI_nat (by omega), if_neg ws, if_neg wu, if_neg (not_not_intro we), if_pos hbad]
                     exact ⟨_, _, rfl, rfl, by rw [hq]; exact hR.bq r16.2 r16.1⟩)
                  | (have hq : fCopy w z y (nI s) a2 (nI u) a4 a5 = (-1000001, w, z, y) := by
                       unfold fCopy
                       rw [if_neg h1, if_neg hh3, jI_nat (by omega), jI_nat (by omega), if_neg ws, if_neg wu, if_neg (not_not_intro we), if_pos hbad]
                     exact ⟨_, _, rfl, rfl, by rw [hq]; exact hR.bq r17.2 r17.1⟩)
                  | (have hq : fCopy w z y (nI s) a2 (nI u) a4 a5 = (-1000001, w, z, y) := by
                       unfold fCopy
                       rw [if_neg h1, if_neg hh3, jI_nat (by omega), jI_nat (by omega), if_neg ws, if_neg wu, if_neg (not_not_intro we), if_pos hbad]
                     exact ⟨_, _, rfl, rfl, by rw [hq]; exact hR.bq r18.2 r18.1⟩)
                  | (have hq : fCopy w z y (nI s) a2 (nI u) a4 a5 = (-1000001, w, z, y) := by
                       unfold fCopy
                       rw [if_neg h1, if_neg hh3, jI_nat (by omega), jI_nat (by omega), if_neg ws, if_neg wu, if_neg (not_not_intro we), if_pos hbad]
                     exact ⟨_, _, rfl, rfl, by rw [hq]; exact hR.bq r19.2 r19.1⟩)
                  | (have hq : fCopy w z y (nI s) a2 (nI u) a4 a5 = (-1000001, w, z, y) := by
                       unfold fCopy
                       rw [if_neg h1, if_neg hh3, jI_nat (by omega), jI_nat (by omega), if_neg ws, if_neg wu, if_neg (not_not_intro we), if_pos hbad]
                     exact ⟨_, _, rfl, rfl, by rw [hq]; exact hR.bq r20.2 r20.1⟩)
                  | (have hq : fCopy w z y (nI s) a2 (nI u) a4 a5 = (-1000001, w, z, y) := by
                       unfold fCopy
                       rw [if_neg h1, if_neg hh3, jI_nat (by omega), jI_nat (by omega), if_neg ws, if_neg wu, if_neg (not_not_intro we), if_pos hbad]
                     exact ⟨_, _, rfl, rfl, by rw [hq]; exact hR.bq r21.2 r21.1⟩)
                  | (have hq : fCopy w z y (nI s) a2 (nI u) a4 a5 = (-1000001, w, z, y) := by
                       unfold fCopy
                       rw [if_neg h1, if_neg hh3, jI_nat (by omega), jI_nat (by omega), if_neg ws, if_neg wu, if_neg (not_not_intro we), if_pos hbad]
                     exact ⟨_, _, rfl, rfl, by rw [hq]; exact hR.bq r22.2 r22.1⟩)
                  | (have hq : fCopy w z y (nI s) a2 (nI u) a4 a5 = (-1000001, w, z, y) := by
                       unfold fCopy
                       rw [if_neg h1, if_neg hh3, jI_nat (by omega), jI_nat (by omega), if_neg ws, if_neg wu, if_neg (not_not_intro we), if_pos hbad]
                     exact ⟨_, _, rfl, rfl, by rw [hq]; exact hR.bq r23.2 r23.1⟩)
                  | (have hq : fCopy w z y (nI s) a2 (nI u) a4 a5 = (-1000001, w, z, y) := by
                       unfold fCopy
                       rw [if_neg h1, if_neg hh3, jI_nat (by omega), jI_nat (by omega), if_neg ws, if_neg wu, if_neg (not_not_intro we), if_pos hbad]
                     exact ⟨_, _, rfl, rfl, by rw [hq]; exact hR.bq r24.2 r24.1⟩)
                  | (have hq : fCopy w z y (nI s) a2 (nI u) a4 a5 = (-1000001, w, z, y) := by
                       unfold fCopy
                       rw [if_neg h1, if_neg hh3, jI_nat (by omega), jI_nat (by omega), if_neg ws, if_neg wu, if_neg (not_not_intro we), if_pos hbad]
                     exact ⟨_, _, rfl, rfl, by rw [hq]; exact hR.bq r25.2 r25.1⟩)
          · have we : ¬ w s = w u := h7
            refine x_aload_n hm rfl rfl ?_
            refine x_ldcI hm rfl (v := (-1000003 : Int32)) (by decide +kernel) ?_
            refine x_cVi hm rfl rfl (t7 (by decide +kernel)) (fun v12 M12 r12 => ?_)
            refine x_iret hm rfl rfl (by first | rfl | exact bI_nar | decide) ?_
            first
              | (have hq : fCopy w z y (nI s) a2 (nI u) a4 a5 = (-1000003, w, z, y) := by
                   unfold fCopy
                   rw [if_neg h1, if_neg hh3, jI_nat (by omega), jI_nat (by omega), if_neg ws, if_neg wu, if_pos we]
                 exact ⟨_, _, rfl, rfl, by rw [hq]; exact hR.bq r12.2 r12.1⟩)
              | (have hq : fCopy w z y (nI s) a2 (nI u) a4 a5 = (-1000003, w, z, y) := by
                   unfold fCopy
                   rw [if_neg h1, if_neg hh3, jI_nat (by omega), jI_nat (by omega), if_neg ws, if_neg wu, if_pos we]
                 exact ⟨_, _, rfl, rfl, by rw [hq]; exact hR.bq r1.2 r1.1⟩)
              | (have hq : fCopy w z y (nI s) a2 (nI u) a4 a5 = (-1000003, w, z, y) := by
                   unfold fCopy
                   rw [if_neg h1, if_neg hh3, jI_nat (by omega), jI_nat (by omega), if_neg ws, if_neg wu, if_pos we]
                 exact ⟨_, _, rfl, rfl, by rw [hq]; exact hR.bq r2.2 r2.1⟩)
              | (have hq : fCopy w z y (nI s) a2 (nI u) a4 a5 = (-1000003, w, z, y) := by
                   unfold fCopy
                   rw [if_neg h1, if_neg hh3, jI_nat (by omega), jI_nat (by omega), if_neg ws, if_neg wu, if_pos we]
                 exact ⟨_, _, rfl, rfl, by rw [hq]; exact hR.bq r3.2 r3.1⟩)
              | (have hq : fCopy w z y (nI s) a2 (nI u) a4 a5 = (-1000003, w, z, y) := by
                   unfold fCopy
                   rw [if_neg h1, if_neg hh3, jI_nat (by omega), jI_nat (by omega), if_neg ws, if_neg wu, if_pos we]
                 exact ⟨_, _, rfl, rfl, by rw [hq]; exact hR.bq r4.2 r4.1⟩)
              | (have hq : fCopy w z y (nI s) a2 (nI u) a4 a5 = (-1000003, w, z, y) := by
                   unfold fCopy
                   rw [if_neg h1, if_neg hh3, jI_nat (by omega), jI_nat (by omega), if_neg ws, if_neg wu, if_pos we]
                 exact ⟨_, _, rfl, rfl, by rw [hq]; exact hR.bq r5.2 r5.1⟩)
              | (have hq : fCopy w z y (nI s) a2 (nI u) a4 a5 = (-1000003, w, z, y) := by
                   unfold fCopy
                   rw [if_neg h1, if_neg hh3, jI_nat (by omega), jI_nat (by omega), if_neg ws, if_neg wu, if_pos we]
                 exact ⟨_, _, rfl, rfl, by rw [hq]; exact hR.bq r6.2 r6.1⟩)
              | (have hq : fCopy w z y (nI s) a2 (nI u) a4 a5 = (-1000003, w, z, y) := by
                   unfold fCopy
                   rw [if_neg h1, if_neg hh3, jI_nat (by omega), jI_nat (by omega), if_neg ws, if_neg wu, if_pos we]
                 exact ⟨_, _, rfl, rfl, by rw [hq]; exact hR.bq r7.2 r7.1⟩)
              | (have hq : fCopy w z y (nI s) a2 (nI u) a4 a5 = (-1000003, w, z, y) := by
                   unfold fCopy
                   rw [if_neg h1, if_neg hh3, jI_nat (by omega), jI_nat (by omega), if_neg ws, if_neg wu, if_pos we]
                 exact ⟨_, _, rfl, rfl, by rw [hq]; exact hR.bq r8.2 r8.1⟩)
              | (have hq : fCopy w z y (nI s) a2 (nI u) a4 a5 = (-1000003, w, z, y) := by
                   unfold fCopy
                   rw [if_neg h1, if_neg hh3, jI_nat (by omega), jI_nat (by omega), if_neg ws, if_neg wu, if_pos we]
                 exact ⟨_, _, rfl, rfl, by rw [hq]; exact hR.bq r9.2 r9.1⟩)
              | (have hq : fCopy w z y (nI s) a2 (nI u) a4 a5 = (-1000003, w, z, y) := by
                   unfold fCopy
                   rw [if_neg h1, if_neg hh3, jI_nat (by omega), jI_nat (by omega), if_neg ws, if_neg wu, if_pos we]
                 exact ⟨_, _, rfl, rfl, by rw [hq]; exact hR.bq r10.2 r10.1⟩)
              | (have hq : fCopy w z y (nI s) a2 (nI u) a4 a5 = (-1000003, w, z, y) := by
                   unfold fCopy
                   rw [if_neg h1, if_neg hh3, jI_nat (by omega), jI_nat (by omega), if_neg ws, if_neg wu, if_pos we]
                 exact ⟨_, _, rfl, rfl, by rw [hq]; exact hR.bq r11.2 r11.1⟩)
              | (have hq : fCopy w z y (nI s) a2 (nI u) a4 a5 = (-1000003, w, z, y) := by
                   unfold fCopy
                   rw [if_neg h1, if_neg hh3, jI_nat (by omega), jI_nat (by omega), if_neg ws, if_neg wu, if_pos we]
                 exact ⟨_, _, rfl, rfl, by rw [hq]; exact hR.bq r13.2 r13.1⟩)
              | (have hq : fCopy w z y (nI s) a2 (nI u) a4 a5 = (-1000003, w, z, y) := by
                   unfold fCopy
                   rw [if_neg h1, if_neg hh3, jI_nat (by omega), jI_nat (by omega), if_neg ws, if_neg wu, if_pos we]
                 exact ⟨_, _, rfl, rfl, by rw [hq]; exact hR.bq r14.2 r14.1⟩)
              | (have hq : fCopy w z y (nI s) a2 (nI u) a4 a5 = (-1000003, w, z, y) := by
                   unfold fCopy
                   rw [if_neg h1, if_neg hh3, jI_nat (by omega), jI_nat (by omega), if_neg ws, if_neg wu, if_pos we]
                 exact ⟨_, _, rfl, rfl, by rw [hq]; exact hR.bq r15.2 r15.1⟩)
              | (have hq : fCopy w z y (nI s) a2 (nI u) a4 a5 = (-1000003, w, z, y) := by
                   unfold fCopy
                   rw [if_neg h1, if_neg hh3, jI_nat (by omega), jI_nat (by omega), if_neg ws, if_neg wu, if_pos we]
                 exact ⟨_, _, rfl, rfl, by rw [hq]; exact hR.bq r16.2 r16.1⟩)
              | (have hq : fCopy w z y (nI s) a2 (nI u) a4 a5 = (-1000003, w, z, y) := by
                   unfold fCopy
                   rw [if_neg h1, if_neg hh3, jI_nat (by omega), jI_nat (by omega), if_neg ws, if_neg wu, if_pos we]
                 exact ⟨_, _, rfl, rfl, by rw [hq]; exact hR.bq r17.2 r17.1⟩)
              | (have hq : fCopy w z y (nI s) a2 (nI u) a4 a5 = (-1000003, w, z, y) := by
                   unfold fCopy
                   rw [if_neg h1, if_neg hh3, jI_nat (by omega), jI_nat (by omega), if_neg ws, if_neg wu, if_pos we]
                 exact ⟨_, _, rfl, rfl, by rw [hq]; exact hR.bq r18.2 r18.1⟩)
              | (have hq : fCopy w z y (nI s) a2 (nI u) a4 a5 = (-1000003, w, z, y) := by
                   unfold fCopy
                   rw [if_neg h1, if_neg hh3, jI_nat (by omega), jI_nat (by omega), if_neg ws, if_neg wu, if_pos we]
                 exact ⟨_, _, rfl, rfl, by rw [hq]; exact hR.bq r19.2 r19.1⟩)
              | (have hq : fCopy w z y (nI s) a2 (nI u) a4 a5 = (-1000003, w, z, y) := by
                   unfold fCopy
                   rw [if_neg h1, if_neg hh3, jI_nat (by omega), jI_nat (by omega), if_neg ws, if_neg wu, if_pos we]
                 exact ⟨_, _, rfl, rfl, by rw [hq]; exact hR.bq r20.2 r20.1⟩)
              | (have hq : fCopy w z y (nI s) a2 (nI u) a4 a5 = (-1000003, w, z, y) := by
                   unfold fCopy
                   rw [if_neg h1, if_neg hh3, jI_nat (by omega), jI_nat (by omega), if_neg ws, if_neg wu, if_pos we]
                 exact ⟨_, _, rfl, rfl, by rw [hq]; exact hR.bq r21.2 r21.1⟩)
              | (have hq : fCopy w z y (nI s) a2 (nI u) a4 a5 = (-1000003, w, z, y) := by
                   unfold fCopy
                   rw [if_neg h1, if_neg hh3, jI_nat (by omega), jI_nat (by omega), if_neg ws, if_neg wu, if_pos we]
                 exact ⟨_, _, rfl, rfl, by rw [hq]; exact hR.bq r22.2 r22.1⟩)
              | (have hq : fCopy w z y (nI s) a2 (nI u) a4 a5 = (-1000003, w, z, y) := by
                   unfold fCopy
                   rw [if_neg h1, if_neg hh3, jI_nat (by omega), jI_nat (by omega), if_neg ws, if_neg wu, if_pos we]
                 exact ⟨_, _, rfl, rfl, by rw [hq]; exact hR.bq r23.2 r23.1⟩)
              | (have hq : fCopy w z y (nI s) a2 (nI u) a4 a5 = (-1000003, w, z, y) := by
                   unfold fCopy
                   rw [if_neg h1, if_neg hh3, jI_nat (by omega), jI_nat (by omega), if_neg ws, if_neg wu, if_pos we]
                 exact ⟨_, _, rfl, rfl, by rw [hq]; exact hR.bq r24.2 r24.1⟩)
              | (have hq : fCopy w z y (nI s) a2 (nI u) a4 a5 = (-1000003, w, z, y) := by
                   unfold fCopy
                   rw [if_neg h1, if_neg hh3, jI_nat (by omega), jI_nat (by omega), if_neg ws, if_neg wu, if_pos we]
                 exact ⟨_, _, rfl, rfl, by rw [hq]; exact hR.bq r25.2 r25.1⟩)
        · have wu : w u = 0 := bI_ne0 h6
          refine x_aload_n hm rfl rfl ?_
          refine x_ldcI hm rfl (v := (-1000006 : Int32)) (by decide +kernel) ?_
          refine x_cVi hm rfl rfl (t7 (by decide +kernel)) (fun v13 M13 r13 => ?_)
          refine x_iret hm rfl rfl (by first | rfl | exact bI_nar | decide) ?_
          first
            | (have hq : fCopy w z y (nI s) a2 (nI u) a4 a5 = (-1000006, w, z, y) := by
                 unfold fCopy
                 rw [if_neg h1, if_neg hh3, jI_nat (by omega), jI_nat (by omega), if_pos ws]
               exact ⟨_, _, rfl, rfl, by rw [hq]; exact hR.bq r13.2 r13.1⟩)
            | (have hq : fCopy w z y (nI s) a2 (nI u) a4 a5 = (-1000006, w, z, y) := by
                 unfold fCopy
                 rw [if_neg h1, if_neg hh3, jI_nat (by omega), jI_nat (by omega), if_neg ws, if_pos wu]
               exact ⟨_, _, rfl, rfl, by rw [hq]; exact hR.bq r13.2 r13.1⟩)
            | (have hq : fCopy w z y (nI s) a2 (nI u) a4 a5 = (-1000006, w, z, y) := by
                 unfold fCopy
                 rw [if_neg h1, if_neg hh3, jI_nat (by omega), jI_nat (by omega), if_pos ws]
               exact ⟨_, _, rfl, rfl, by rw [hq]; exact hR.bq r1.2 r1.1⟩)
            | (have hq : fCopy w z y (nI s) a2 (nI u) a4 a5 = (-1000006, w, z, y) := by
                 unfold fCopy
                 rw [if_neg h1, if_neg hh3, jI_nat (by omega), jI_nat (by omega), if_pos ws]
               exact ⟨_, _, rfl, rfl, by rw [hq]; exact hR.bq r2.2 r2.1⟩)
            | (have hq : fCopy w z y (nI s) a2 (nI u) a4 a5 = (-1000006, w, z, y) := by
                 unfold fCopy
                 rw [if_neg h1, if_neg hh3, jI_nat (by omega), jI_nat (by omega), if_pos ws]
               exact ⟨_, _, rfl, rfl, by rw [hq]; exact hR.bq r3.2 r3.1⟩)
            | (have hq : fCopy w z y (nI s) a2 (nI u) a4 a5 = (-1000006, w, z, y) := by
                 unfold fCopy
                 rw [if_neg h1, if_neg hh3, jI_nat (by omega), jI_nat (by omega), if_pos ws]
               exact ⟨_, _, rfl, rfl, by rw [hq]; exact hR.bq r4.2 r4.1⟩)
            | (have hq : fCopy w z y (nI s) a2 (nI u) a4 a5 = (-1000006, w, z, y) := by
                 unfold fCopy
                 rw [if_neg h1, if_neg hh3, jI_nat (by omega), jI_nat (by omega), if_pos ws]
               exact ⟨_, _, rfl, rfl, by rw [hq]; exact hR.bq r5.2 r5.1⟩)
            | (have hq : fCopy w z y (nI s) a2 (nI u) a4 a5 = (-1000006, w, z, y) := by
                 unfold fCopy
                 rw [if_neg h1, if_neg hh3, jI_nat (by omega), jI_nat (by omega), if_pos ws]
               exact ⟨_, _, rfl, rfl, by rw [hq]; exact hR.bq r6.2 r6.1⟩)
            | (have hq : fCopy w z y (nI s) a2 (nI u) a4 a5 = (-1000006, w, z, y) := by
                 unfold fCopy
                 rw [if_neg h1, if_neg hh3, jI_nat (by omega), jI_nat (by omega), if_pos ws]
               exact ⟨_, _, rfl, rfl, by rw [hq]; exact hR.bq r7.2 r7.1⟩)
            | (have hq : fCopy w z y (nI s) a2 (nI u) a4 a5 = (-1000006, w, z, y) := by
                 unfold fCopy
                 rw [if_neg h1, if_neg hh3, jI_nat (by omega), jI_nat (by omega), if_pos ws]
               exact ⟨_, _, rfl, rfl, by rw [hq]; exact hR.bq r8.2 r8.1⟩)
            | (have hq : fCopy w z y (nI s) a2 (nI u) a4 a5 = (-1000006, w, z, y) := by
                 unfold fCopy
                 rw [if_neg h1, if_neg hh3, jI_nat (by omega), jI_nat (by omega), if_pos ws]
               exact ⟨_, _, rfl, rfl, by rw [hq]; exact hR.bq r9.2 r9.1⟩)
            | (have hq : fCopy w z y (nI s) a2 (nI u) a4 a5 = (-1000006, w, z, y) := by
                 unfold fCopy
                 rw [if_neg h1, if_neg hh3, jI_nat (by omega), jI_nat (by omega), if_pos ws]
               exact ⟨_, _, rfl, rfl, by rw [hq]; exact hR.bq r10.2 r10.1⟩)
            | (have hq : fCopy w z y (nI s) a2 (nI u) a4 a5 = (-1000006, w, z, y) := by
                 unfold fCopy
                 rw [if_neg h1, if_neg hh3, jI_nat (by omega), jI_nat (by omega), if_pos ws]
               exact ⟨_, _, rfl, rfl, by rw [hq]; exact hR.bq r11.2 r11.1⟩)
            | (have hq : fCopy w z y (nI s) a2 (nI u) a4 a5 = (-1000006, w, z, y) := by
                 unfold fCopy
                 rw [if_neg h1, if_neg hh3, jI_nat (by omega), jI_nat (by omega), if_pos ws]
               exact ⟨_, _, rfl, rfl, by rw [hq]; exact hR.bq r12.2 r12.1⟩)
            | (have hq : fCopy w z y (nI s) a2 (nI u) a4 a5 = (-1000006, w, z, y) := by
                 unfold fCopy
                 rw [if_neg h1, if_neg hh3, jI_nat (by omega), jI_nat (by omega), if_pos ws]
               exact ⟨_, _, rfl, rfl, by rw [hq]; exact hR.bq r14.2 r14.1⟩)
            | (have hq : fCopy w z y (nI s) a2 (nI u) a4 a5 = (-1000006, w, z, y) := by
                 unfold fCopy
                 rw [if_neg h1, if_neg hh3, jI_nat (by omega), jI_nat (by omega), if_pos ws]
               exact ⟨_, _, rfl, rfl, by rw [hq]; exact hR.bq r15.2 r15.1⟩)
            | (have hq : fCopy w z y (nI s) a2 (nI u) a4 a5 = (-1000006, w, z, y) := by
                 unfold fCopy
                 rw [if_neg h1, if_neg hh3, jI_nat (by omega), jI_nat (by omega), if_pos ws]
               exact ⟨_, _, rfl, rfl, by rw [hq]; exact hR.bq r16.2 r16.1⟩)
            | (have hq : fCopy w z y (nI s) a2 (nI u) a4 a5 = (-1000006, w, z, y) := by
                 unfold fCopy
                 rw [if_neg h1, if_neg hh3, jI_nat (by omega), jI_nat (by omega), if_pos ws]
               exact ⟨_, _, rfl, rfl, by rw [hq]; exact hR.bq r17.2 r17.1⟩)
            | (have hq : fCopy w z y (nI s) a2 (nI u) a4 a5 = (-1000006, w, z, y) := by
                 unfold fCopy
                 rw [if_neg h1, if_neg hh3, jI_nat (by omega), jI_nat (by omega), if_pos ws]
               exact ⟨_, _, rfl, rfl, by rw [hq]; exact hR.bq r18.2 r18.1⟩)
            | (have hq : fCopy w z y (nI s) a2 (nI u) a4 a5 = (-1000006, w, z, y) := by
                 unfold fCopy
                 rw [if_neg h1, if_neg hh3, jI_nat (by omega), jI_nat (by omega), if_pos ws]
               exact ⟨_, _, rfl, rfl, by rw [hq]; exact hR.bq r19.2 r19.1⟩)
            | (have hq : fCopy w z y (nI s) a2 (nI u) a4 a5 = (-1000006, w, z, y) := by
                 unfold fCopy
                 rw [if_neg h1, if_neg hh3, jI_nat (by omega), jI_nat (by omega), if_pos ws]
               exact ⟨_, _, rfl, rfl, by rw [hq]; exact hR.bq r20.2 r20.1⟩)
            | (have hq : fCopy w z y (nI s) a2 (nI u) a4 a5 = (-1000006, w, z, y) := by
                 unfold fCopy
                 rw [if_neg h1, if_neg hh3, jI_nat (by omega), jI_nat (by omega), if_pos ws]
               exact ⟨_, _, rfl, rfl, by rw [hq]; exact hR.bq r21.2 r21.1⟩)
            | (have hq : fCopy w z y (nI s) a2 (nI u) a4 a5 = (-1000006, w, z, y) := by
                 unfold fCopy
                 rw [if_neg h1, if_neg hh3, jI_nat (by omega), jI_nat (by omega), if_pos ws]
               exact ⟨_, _, rfl, rfl, by rw [hq]; exact hR.bq r22.2 r22.1⟩)
            | (have hq : fCopy w z y (nI s) a2 (nI u) a4 a5 = (-1000006, w, z, y) := by
                 unfold fCopy
                 rw [if_neg h1, if_neg hh3, jI_nat (by omega), jI_nat (by omega), if_pos ws]
               exact ⟨_, _, rfl, rfl, by rw [hq]; exact hR.bq r23.2 r23.1⟩)
            | (have hq : fCopy w z y (nI s) a2 (nI u) a4 a5 = (-1000006, w, z, y) := by
                 unfold fCopy
                 rw [if_neg h1, if_neg hh3, jI_nat (by omega), jI_nat (by omega), if_pos ws]
               exact ⟨_, _, rfl, rfl, by rw [hq]; exact hR.bq r24.2 r24.1⟩)
            | (have hq : fCopy w z y (nI s) a2 (nI u) a4 a5 = (-1000006, w, z, y) := by
                 unfold fCopy
                 rw [if_neg h1, if_neg hh3, jI_nat (by omega), jI_nat (by omega), if_pos ws]
               exact ⟨_, _, rfl, rfl, by rw [hq]; exact hR.bq r25.2 r25.1⟩)
            | (have hq : fCopy w z y (nI s) a2 (nI u) a4 a5 = (-1000006, w, z, y) := by
                 unfold fCopy
                 rw [if_neg h1, if_neg hh3, jI_nat (by omega), jI_nat (by omega), if_neg ws, if_pos wu]
               exact ⟨_, _, rfl, rfl, by rw [hq]; exact hR.bq r1.2 r1.1⟩)
            | (have hq : fCopy w z y (nI s) a2 (nI u) a4 a5 = (-1000006, w, z, y) := by
                 unfold fCopy
                 rw [if_neg h1, if_neg hh3, jI_nat (by omega), jI_nat (by omega), if_neg ws, if_pos wu]
               exact ⟨_, _, rfl, rfl, by rw [hq]; exact hR.bq r2.2 r2.1⟩)
            | (have hq : fCopy w z y (nI s) a2 (nI u) a4 a5 = (-1000006, w, z, y) := by
                 unfold fCopy
                 rw [if_neg h1, if_neg hh3, jI_nat (by omega), jI_nat (by omega), if_neg ws, if_pos wu]
               exact ⟨_, _, rfl, rfl, by rw [hq]; exact hR.bq r3.2 r3.1⟩)
            | (have hq : fCopy w z y (nI s) a2 (nI u) a4 a5 = (-1000006, w, z, y) := by
                 unfold fCopy
                 rw [if_neg h1, if_neg hh3, jI_nat (by omega), jI_nat (by omega), if_neg ws, if_pos wu]
               exact ⟨_, _, rfl, rfl, by rw [hq]; exact hR.bq r4.2 r4.1⟩)
            | (have hq : fCopy w z y (nI s) a2 (nI u) a4 a5 = (-1000006, w, z, y) := by
                 unfold fCopy
                 rw [if_neg h1, if_neg hh3, jI_nat (by omega), jI_nat (by omega), if_neg ws, if_pos wu]
               exact ⟨_, _, rfl, rfl, by rw [hq]; exact hR.bq r5.2 r5.1⟩)
            | (have hq : fCopy w z y (nI s) a2 (nI u) a4 a5 = (-1000006, w, z, y) := by
                 unfold fCopy
                 rw [if_neg h1, if_neg hh3, jI_nat (by omega), jI_nat (by omega), if_neg ws, if_pos wu]
               exact ⟨_, _, rfl, rfl, by rw [hq]; exact hR.bq r6.2 r6.1⟩)
            | (have hq : fCopy w z y (nI s) a2 (nI u) a4 a5 = (-1000006, w, z, y) := by
                 unfold fCopy
                 rw [if_neg h1, if_neg hh3, jI_nat (by omega), jI_nat (by omega), if_neg ws, if_pos wu]
               exact ⟨_, _, rfl, rfl, by rw [hq]; exact hR.bq r7.2 r7.1⟩)
            | (have hq : fCopy w z y (nI s) a2 (nI u) a4 a5 = (-1000006, w, z, y) := by
                 unfold fCopy
                 rw [if_neg h1, if_neg hh3, jI_nat (by omega), jI_nat (by omega), if_neg ws, if_pos wu]
               exact ⟨_, _, rfl, rfl, by rw [hq]; exact hR.bq r8.2 r8.1⟩)
            | (have hq : fCopy w z y (nI s) a2 (nI u) a4 a5 = (-1000006, w, z, y) := by
                 unfold fCopy
                 rw [if_neg h1, if_neg hh3, jI_nat (by omega), jI_nat (by omega), if_neg ws, if_pos wu]
               exact ⟨_, _, rfl, rfl, by rw [hq]; exact hR.bq r9.2 r9.1⟩)
            | (have hq : fCopy w z y (nI s) a2 (nI u) a4 a5 = (-1000006, w, z, y) := by
                 unfold fCopy
                 rw [if_neg h1, if_neg hh3, jI_nat (by omega), jI_nat (by omega), if_neg ws, if_pos wu]
               exact ⟨_, _, rfl, rfl, by rw [hq]; exact hR.bq r10.2 r10.1⟩)
            | (have hq : fCopy w z y (nI s) a2 (nI u) a4 a5 = (-1000006, w, z, y) := by
                 unfold fCopy
                 rw [if_neg h1, if_neg hh3, jI_nat (by omega), jI_nat (by omega), if_neg ws, if_pos wu]
               exact ⟨_, _, rfl, rfl, by rw [hq]; exact hR.bq r11.2 r11.1⟩)
            | (have hq : fCopy w z y (nI s) a2 (nI u) a4 a5 = (-1000006, w, z, y) := by
                 unfold fCopy
                 rw [if_neg h1, if_neg hh3, jI_nat (by omega), jI_nat (by omega), if_neg ws, if_pos wu]
               exact ⟨_, _, rfl, rfl, by rw [hq]; exact hR.bq r12.2 r12.1⟩)
            | (have hq : fCopy w z y (nI s) a2 (nI u) a4 a5 = (-1000006, w, z, y) := by
                 unfold fCopy
                 rw [if_neg h1, if_neg hh3, jI_nat (by omega), jI_nat (by omega), if_neg ws, if_pos wu]
               exact ⟨_, _, rfl, rfl, by rw [hq]; exact hR.bq r14.2 r14.1⟩)
            | (have hq : fCopy w z y (nI s) a2 (nI u) a4 a5 = (-1000006, w, z, y) := by
                 unfold fCopy
                 rw [if_neg h1, if_neg hh3, jI_nat (by omega), jI_nat (by omega), if_neg ws, if_pos wu]
               exact ⟨_, _, rfl, rfl, by rw [hq]; exact hR.bq r15.2 r15.1⟩)
            | (have hq : fCopy w z y (nI s) a2 (nI u) a4 a5 = (-1000006, w, z, y) := by
                 unfold fCopy
                 rw [if_neg h1, if_neg hh3, jI_nat (by omega), jI_nat (by omega), if_neg ws, if_pos wu]
               exact ⟨_, _, rfl, rfl, by rw [hq]; exact hR.bq r16.2 r16.1⟩)
            | (have hq : fCopy w z y (nI s) a2 (nI u) a4 a5 = (-1000006, w, z, y) := by
                 unfold fCopy
                 rw [if_neg h1, if_neg hh3, jI_nat (by omega), jI_nat (by omega), if_neg ws, if_pos wu]
               exact ⟨_, _, rfl, rfl, by rw [hq]; exact hR.bq r17.2 r17.1⟩)
            | (have hq : fCopy w z y (nI s) a2 (nI u) a4 a5 = (-1000006, w, z, y) := by
                 unfold fCopy
                 rw [if_neg h1, if_neg hh3, jI_nat (by omega), jI_nat (by omega), if_neg ws, if_pos wu]
               exact ⟨_, _, rfl, rfl, by rw [hq]; exact hR.bq r18.2 r18.1⟩)
            | (have hq : fCopy w z y (nI s) a2 (nI u) a4 a5 = (-1000006, w, z, y) := by
                 unfold fCopy
                 rw [if_neg h1, if_neg hh3, jI_nat (by omega), jI_nat (by omega), if_neg ws, if_pos wu]
               exact ⟨_, _, rfl, rfl, by rw [hq]; exact hR.bq r19.2 r19.1⟩)
            | (have hq : fCopy w z y (nI s) a2 (nI u) a4 a5 = (-1000006, w, z, y) := by
                 unfold fCopy
                 rw [if_neg h1, if_neg hh3, jI_nat (by omega), jI_nat (by omega), if_neg ws, if_pos wu]
               exact ⟨_, _, rfl, rfl, by rw [hq]; exact hR.bq r20.2 r20.1⟩)
            | (have hq : fCopy w z y (nI s) a2 (nI u) a4 a5 = (-1000006, w, z, y) := by
                 unfold fCopy
                 rw [if_neg h1, if_neg hh3, jI_nat (by omega), jI_nat (by omega), if_neg ws, if_pos wu]
               exact ⟨_, _, rfl, rfl, by rw [hq]; exact hR.bq r21.2 r21.1⟩)
            | (have hq : fCopy w z y (nI s) a2 (nI u) a4 a5 = (-1000006, w, z, y) := by
                 unfold fCopy
                 rw [if_neg h1, if_neg hh3, jI_nat (by omega), jI_nat (by omega), if_neg ws, if_pos wu]
               exact ⟨_, _, rfl, rfl, by rw [hq]; exact hR.bq r22.2 r22.1⟩)
            | (have hq : fCopy w z y (nI s) a2 (nI u) a4 a5 = (-1000006, w, z, y) := by
                 unfold fCopy
                 rw [if_neg h1, if_neg hh3, jI_nat (by omega), jI_nat (by omega), if_neg ws, if_pos wu]
               exact ⟨_, _, rfl, rfl, by rw [hq]; exact hR.bq r23.2 r23.1⟩)
            | (have hq : fCopy w z y (nI s) a2 (nI u) a4 a5 = (-1000006, w, z, y) := by
                 unfold fCopy
                 rw [if_neg h1, if_neg hh3, jI_nat (by omega), jI_nat (by omega), if_neg ws, if_pos wu]
               exact ⟨_, _, rfl, rfl, by rw [hq]; exact hR.bq r24.2 r24.1⟩)
            | (have hq : fCopy w z y (nI s) a2 (nI u) a4 a5 = (-1000006, w, z, y) := by
                 unfold fCopy
                 rw [if_neg h1, if_neg hh3, jI_nat (by omega), jI_nat (by omega), if_neg ws, if_pos wu]
               exact ⟨_, _, rfl, rfl, by rw [hq]; exact hR.bq r25.2 r25.1⟩)
    · refine x_aload_n hm rfl rfl ?_
      refine x_ldcI hm rfl (v := (-1000001 : Int32)) (by decide +kernel) ?_
      refine x_cVi hm rfl rfl (t7 (by decide +kernel)) (fun v14 M14 r14 => ?_)
      refine x_iret hm rfl rfl (by first | rfl | exact bI_nar | decide) ?_
      first
        | (have hq : fCopy w z y a1 a2 a3 a4 a5 = (-1000001, w, z, y) := by
             unfold fCopy
             rw [if_pos h1]
           exact ⟨_, _, rfl, rfl, by rw [hq]; exact hR.bq r14.2 r14.1⟩)
        | (have hq : fCopy w z y (nI s) a2 a3 a4 a5 = (-1000001, w, z, y) := by
             unfold fCopy
             rw [if_neg h1, if_pos (by assumption)]
           exact ⟨_, _, rfl, rfl, by rw [hq]; exact hR.bq r14.2 r14.1⟩)
        | (have hq : fCopy w z y a1 a2 a3 a4 a5 = (-1000001, w, z, y) := by
             unfold fCopy
             rw [if_pos h1]
           exact ⟨_, _, rfl, rfl, by rw [hq]; exact hR.bq r1.2 r1.1⟩)
        | (have hq : fCopy w z y a1 a2 a3 a4 a5 = (-1000001, w, z, y) := by
             unfold fCopy
             rw [if_pos h1]
           exact ⟨_, _, rfl, rfl, by rw [hq]; exact hR.bq r2.2 r2.1⟩)
        | (have hq : fCopy w z y a1 a2 a3 a4 a5 = (-1000001, w, z, y) := by
             unfold fCopy
             rw [if_pos h1]
           exact ⟨_, _, rfl, rfl, by rw [hq]; exact hR.bq r3.2 r3.1⟩)
        | (have hq : fCopy w z y a1 a2 a3 a4 a5 = (-1000001, w, z, y) := by
             unfold fCopy
             rw [if_pos h1]
           exact ⟨_, _, rfl, rfl, by rw [hq]; exact hR.bq r4.2 r4.1⟩)
        | (have hq : fCopy w z y a1 a2 a3 a4 a5 = (-1000001, w, z, y) := by
             unfold fCopy
             rw [if_pos h1]
           exact ⟨_, _, rfl, rfl, by rw [hq]; exact hR.bq r5.2 r5.1⟩)
        | (have hq : fCopy w z y a1 a2 a3 a4 a5 = (-1000001, w, z, y) := by
             unfold fCopy
             rw [if_pos h1]
           exact ⟨_, _, rfl, rfl, by rw [hq]; exact hR.bq r6.2 r6.1⟩)
        | (have hq : fCopy w z y a1 a2 a3 a4 a5 = (-1000001, w, z, y) := by
             unfold fCopy
             rw [if_pos h1]
           exact ⟨_, _, rfl, rfl, by rw [hq]; exact hR.bq r7.2 r7.1⟩)
        | (have hq : fCopy w z y a1 a2 a3 a4 a5 = (-1000001, w, z, y) := by
             unfold fCopy
             rw [if_pos h1]
           exact ⟨_, _, rfl, rfl, by rw [hq]; exact hR.bq r8.2 r8.1⟩)
        | (have hq : fCopy w z y a1 a2 a3 a4 a5 = (-1000001, w, z, y) := by
             unfold fCopy
             rw [if_pos h1]
           exact ⟨_, _, rfl, rfl, by rw [hq]; exact hR.bq r9.2 r9.1⟩)
        | (have hq : fCopy w z y a1 a2 a3 a4 a5 = (-1000001, w, z, y) := by
             unfold fCopy
             rw [if_pos h1]
           exact ⟨_, _, rfl, rfl, by rw [hq]; exact hR.bq r10.2 r10.1⟩)
        | (have hq : fCopy w z y a1 a2 a3 a4 a5 = (-1000001, w, z, y) := by
             unfold fCopy
             rw [if_pos h1]
           exact ⟨_, _, rfl, rfl, by rw [hq]; exact hR.bq r11.2 r11.1⟩)
        | (have hq : fCopy w z y a1 a2 a3 a4 a5 = (-1000001, w, z, y) := by
             unfold fCopy
             rw [if_pos h1]
           exact ⟨_, _, rfl, rfl, by rw [hq]; exact hR.bq r12.2 r12.1⟩)
        | (have hq : fCopy w z y a1 a2 a3 a4 a5 = (-1000001, w, z, y) := by
             unfold fCopy
             rw [if_pos h1]
           exact ⟨_, _, rfl, rfl, by rw [hq]; exact hR.bq r13.2 r13.1⟩)
        | (have hq : fCopy w z y a1 a2 a3 a4 a5 = (-1000001, w, z, y) := by
             unfold fCopy
             rw [if_pos h1]
           exact ⟨_, _, rfl, rfl, by rw [hq]; exact hR.bq r15.2 r15.1⟩)
        | (have hq : fCopy w z y a1 a2 a3 a4 a5 = (-1000001, w, z, y) := by
             unfold fCopy
             rw [if_pos h1]
           exact ⟨_, _, rfl, rfl, by rw [hq]; exact hR.bq r16.2 r16.1⟩)
        | (have hq : fCopy w z y a1 a2 a3 a4 a5 = (-1000001, w, z, y) := by
             unfold fCopy
             rw [if_pos h1]
           exact ⟨_, _, rfl, rfl, by rw [hq]; exact hR.bq r17.2 r17.1⟩)
        | (have hq : fCopy w z y a1 a2 a3 a4 a5 = (-1000001, w, z, y) := by
             unfold fCopy
             rw [if_pos h1]
           exact ⟨_, _, rfl, rfl, by rw [hq]; exact hR.bq r18.2 r18.1⟩)
        | (have hq : fCopy w z y a1 a2 a3 a4 a5 = (-1000001, w, z, y) := by
             unfold fCopy
             rw [if_pos h1]
           exact ⟨_, _, rfl, rfl, by rw [hq]; exact hR.bq r19.2 r19.1⟩)
        | (have hq : fCopy w z y a1 a2 a3 a4 a5 = (-1000001, w, z, y) := by
             unfold fCopy
             rw [if_pos h1]
           exact ⟨_, _, rfl, rfl, by rw [hq]; exact hR.bq r20.2 r20.1⟩)
        | (have hq : fCopy w z y a1 a2 a3 a4 a5 = (-1000001, w, z, y) := by
             unfold fCopy
             rw [if_pos h1]
           exact ⟨_, _, rfl, rfl, by rw [hq]; exact hR.bq r21.2 r21.1⟩)
        | (have hq : fCopy w z y a1 a2 a3 a4 a5 = (-1000001, w, z, y) := by
             unfold fCopy
             rw [if_pos h1]
           exact ⟨_, _, rfl, rfl, by rw [hq]; exact hR.bq r22.2 r22.1⟩)
        | (have hq : fCopy w z y a1 a2 a3 a4 a5 = (-1000001, w, z, y) := by
             unfold fCopy
             rw [if_pos h1]
           exact ⟨_, _, rfl, rfl, by rw [hq]; exact hR.bq r23.2 r23.1⟩)
        | (have hq : fCopy w z y a1 a2 a3 a4 a5 = (-1000001, w, z, y) := by
             unfold fCopy
             rw [if_pos h1]
           exact ⟨_, _, rfl, rfl, by rw [hq]; exact hR.bq r24.2 r24.1⟩)
        | (have hq : fCopy w z y a1 a2 a3 a4 a5 = (-1000001, w, z, y) := by
             unfold fCopy
             rw [if_pos h1]
           exact ⟨_, _, rfl, rfl, by rw [hq]; exact hR.bq r25.2 r25.1⟩)
        | (have hq : fCopy w z y (nI s) a2 a3 a4 a5 = (-1000001, w, z, y) := by
             unfold fCopy
             rw [if_neg h1, if_pos (by assumption)]
           exact ⟨_, _, rfl, rfl, by rw [hq]; exact hR.bq r1.2 r1.1⟩)
        | (have hq : fCopy w z y (nI s) a2 a3 a4 a5 = (-1000001, w, z, y) := by
             unfold fCopy
             rw [if_neg h1, if_pos (by assumption)]
           exact ⟨_, _, rfl, rfl, by rw [hq]; exact hR.bq r2.2 r2.1⟩)
        | (have hq : fCopy w z y (nI s) a2 a3 a4 a5 = (-1000001, w, z, y) := by
             unfold fCopy
             rw [if_neg h1, if_pos (by assumption)]
           exact ⟨_, _, rfl, rfl, by rw [hq]; exact hR.bq r3.2 r3.1⟩)
        | (have hq : fCopy w z y (nI s) a2 a3 a4 a5 = (-1000001, w, z, y) := by
             unfold fCopy
             rw [if_neg h1, if_pos (by assumption)]
           exact ⟨_, _, rfl, rfl, by rw [hq]; exact hR.bq r4.2 r4.1⟩)
        | (have hq : fCopy w z y (nI s) a2 a3 a4 a5 = (-1000001, w, z, y) := by
             unfold fCopy
             rw [if_neg h1, if_pos (by assumption)]
           exact ⟨_, _, rfl, rfl, by rw [hq]; exact hR.bq r5.2 r5.1⟩)
        | (have hq : fCopy w z y (nI s) a2 a3 a4 a5 = (-1000001, w, z, y) := by
             unfold fCopy
             rw [if_neg h1, if_pos (by assumption)]
           exact ⟨_, _, rfl, rfl, by rw [hq]; exact hR.bq r6.2 r6.1⟩)
        | (have hq : fCopy w z y (nI s) a2 a3 a4 a5 = (-1000001, w, z, y) := by
             unfold fCopy
             rw [if_neg h1, if_pos (by assumption)]
           exact ⟨_, _, rfl, rfl, by rw [hq]; exact hR.bq r7.2 r7.1⟩)
        | (have hq : fCopy w z y (nI s) a2 a3 a4 a5 = (-1000001, w, z, y) := by
             unfold fCopy
             rw [if_neg h1, if_pos (by assumption)]
           exact ⟨_, _, rfl, rfl, by rw [hq]; exact hR.bq r8.2 r8.1⟩)
        | (have hq : fCopy w z y (nI s) a2 a3 a4 a5 = (-1000001, w, z, y) := by
             unfold fCopy
             rw [if_neg h1, if_pos (by assumption)]
           exact ⟨_, _, rfl, rfl, by rw [hq]; exact hR.bq r9.2 r9.1⟩)
        | (have hq : fCopy w z y (nI s) a2 a3 a4 a5 = (-1000001, w, z, y) := by
             unfold fCopy
             rw [if_neg h1, if_pos (by assumption)]
           exact ⟨_, _, rfl, rfl, by rw [hq]; exact hR.bq r10.2 r10.1⟩)
        | (have hq : fCopy w z y (nI s) a2 a3 a4 a5 = (-1000001, w, z, y) := by
             unfold fCopy
             rw [if_neg h1, if_pos (by assumption)]
           exact ⟨_, _, rfl, rfl, by rw [hq]; exact hR.bq r11.2 r11.1⟩)
        | (have hq : fCopy w z y (nI s) a2 a3 a4 a5 = (-1000001, w, z, y) := by
             unfold fCopy
             rw [if_neg h1, if_pos (by assumption)]
           exact ⟨_, _, rfl, rfl, by rw [hq]; exact hR.bq r12.2 r12.1⟩)
        | (have hq : fCopy w z y (nI s) a2 a3 a4 a5 = (-1000001, w, z, y) := by
             unfold fCopy
             rw [if_neg h1, if_pos (by assumption)]
           exact ⟨_, _, rfl, rfl, by rw [hq]; exact hR.bq r13.2 r13.1⟩)
        | (have hq : fCopy w z y (nI s) a2 a3 a4 a5 = (-1000001, w, z, y) := by
             unfold fCopy
             rw [if_neg h1, if_pos (by assumption)]
           exact ⟨_, _, rfl, rfl, by rw [hq]; exact hR.bq r15.2 r15.1⟩)
        | (have hq : fCopy w z y (nI s) a2 a3 a4 a5 = (-1000001, w, z, y) := by
             unfold fCopy
             rw [if_neg h1, if_pos (by assumption)]
           exact ⟨_, _, rfl, rfl, by rw [hq]; exact hR.bq r16.2 r16.1⟩)
        | (have hq : fCopy w z y (nI s) a2 a3 a4 a5 = (-1000001, w, z, y) := by
             unfold fCopy
             rw [if_neg h1, if_pos (by assumption)]
           exact ⟨_, _, rfl, rfl, by rw [hq]; exact hR.bq r17.2 r17.1⟩)
        | (have hq : fCopy w z y (nI s) a2 a3 a4 a5 = (-1000001, w, z, y) := by
             unfold fCopy
             rw [if_neg h1, if_pos (by assumption)]
           exact ⟨_, _, rfl, rfl, by rw [hq]; exact hR.bq r18.2 r18.1⟩)
        | (have hq : fCopy w z y (nI s) a2 a3 a4 a5 = (-1000001, w, z, y) := by
             unfold fCopy
             rw [if_neg h1, if_pos (by assumption)]
           exact ⟨_, _, rfl, rfl, by rw [hq]; exact hR.bq r19.2 r19.1⟩)
        | (have hq : fCopy w z y (nI s) a2 a3 a4 a5 = (-1000001, w, z, y) := by
             unfold fCopy
             rw [if_neg h1, if_pos (by assumption)]
           exact ⟨_, _, rfl, rfl, by rw [hq]; exact hR.bq r20.2 r20.1⟩)
        | (have hq : fCopy w z y (nI s) a2 a3 a4 a5 = (-1000001, w, z, y) := by
             unfold fCopy
             rw [if_neg h1, if_pos (by assumption)]
           exact ⟨_, _, rfl, rfl, by rw [hq]; exact hR.bq r21.2 r21.1⟩)
        | (have hq : fCopy w z y (nI s) a2 a3 a4 a5 = (-1000001, w, z, y) := by
             unfold fCopy
             rw [if_neg h1, if_pos (by assumption)]
           exact ⟨_, _, rfl, rfl, by rw [hq]; exact hR.bq r22.2 r22.1⟩)
        | (have hq : fCopy w z y (nI s) a2 a3 a4 a5 = (-1000001, w, z, y) := by
             unfold fCopy
             rw [if_neg h1, if_pos (by assumption)]
           exact ⟨_, _, rfl, rfl, by rw [hq]; exact hR.bq r23.2 r23.1⟩)
        | (have hq : fCopy w z y (nI s) a2 a3 a4 a5 = (-1000001, w, z, y) := by
             unfold fCopy
             rw [if_neg h1, if_pos (by assumption)]
           exact ⟨_, _, rfl, rfl, by rw [hq]; exact hR.bq r24.2 r24.1⟩)
        | (have hq : fCopy w z y (nI s) a2 a3 a4 a5 = (-1000001, w, z, y) := by
             unfold fCopy
             rw [if_neg h1, if_pos (by assumption)]
           exact ⟨_, _, rfl, rfl, by rw [hq]; exact hR.bq r25.2 r25.1⟩)
theorem m237b {s t i j n : Nat} (hs : s ≤ 3) (ht : t ≤ 3) (hi : i + n ≤ 40) (hj : j + n ≤ 40) : ∀ (q k : Nat) (M1 : mM), n - k < q → k ≤ n → (∀ x, x < n → M1 79 x = M 78 (40 * s + i + x)) → M1 78 = mvY (M 78) s i t j k → (∀ a, a ≠ 78 → a ≠ 79 → M1 a = M a) → mEv X (QI (fun v M' => v = nI n ∧ M' 78 = mvY (M 78) s i t j n ∧ ∀ a, a ≠ 78 → a ≠ 79 → M' a = M a)) 237 165 [some (.ref 66), some (.int (nI s)), some (.int (nI i)), some (.int (nI t)), some (.int (nI j)), some (.int (nI n)), some (.int (nI k))] [] (con M1) := by
  have hm : mMet 237 = some _ := rfl
  intro q
  induction q with
  | zero =>
    intro k M1 hkn hkb h79 h78 hfr
    omega
  | succ q ih =>
    intro k M1 hkn hkb h79 h78 hfr
    refine x_iload hm rfl rfl ?_
    refine x_iload hm rfl rfl ?_
    refine x_icmp_ge hm rfl (t := 200) rfl (fun h1 => ?_) (fun h1 => ?_)
    · obtain rfl : k = n := Nat.le_antisymm hkb ((jI_le (by omega) (by omega)).mp h1)
      refine x_iload hm rfl rfl ?_
      refine x_iret hm rfl rfl (by first | rfl | exact bI_nar | decide) ?_
      exact ⟨_, _, rfl, rfl, rfl, h78, hfr⟩
    · have hk : k < n := Nat.lt_of_not_le fun h => h1 (nI_le h (by omega))
      refine x_aload_n hm rfl rfl ?_
      refine x_getf hm rfl (gR rfl rfl) ?_
      refine x_bipush hm rfl (v := nI 40) (by decide) ?_
      refine x_iload_n hm rfl rfl ?_
      refine x_imul hm rfl ?_
      rw [jI_mul]
      refine x_iload hm rfl rfl ?_
      refine x_iadd hm rfl ?_
      rw [jI_add]
      refine x_iload hm rfl rfl ?_
      refine x_iadd hm rfl ?_
      rw [jI_add]
      refine x_aload_n hm rfl rfl ?_
      refine x_getf hm rfl (gR rfl rfl) ?_
      refine x_iload hm rfl rfl ?_
      refine x_iald hm rfl (lI rfl (by omega) (by decide)) ?_
      refine x_iast hm rfl (sI rfl (by omega) (by decide)) ?_
      refine x_iinc hm rfl rfl (v := nI 1) (by decide) rfl ?_
      rw [jI_add]
      refine x_goto hm rfl (t := 165) rfl ?_
      refine ih (k + 1) _ (by omega) (by omega) (fun x hx => (congrFun (mpo (by decide)) x).trans (h79 x hx)) ?_ (fun a h1 h2 => (mpo h1).trans (hfr a h1 h2))
      rw [mputf, h78]
      funext x
      unfold put1 mvY
      by_cases e : x = 40 * t + j + k
      · subst e
        rw [if_pos rfl, if_pos ⟨by omega, by omega⟩, h79 k hk]
        congr 1
        omega
      · rw [if_neg e]
        by_cases g : 40 * t + j ≤ x ∧ x < 40 * t + j + k
        · rw [if_pos g, if_pos ⟨by omega, by omega⟩]
        · rw [if_neg g, if_neg (by omega)]
theorem m237a {s t i j n : Nat} (hs : s ≤ 3) (ht : t ≤ 3) (hi : i + n ≤ 40) (hj : j + n ≤ 40) : ∀ (q k : Nat) (M1 : mM), n - k < q → k ≤ n → (∀ x, x < k → M1 79 x = M 78 (40 * s + i + x)) → (∀ a, a ≠ 79 → M1 a = M a) → mEv X (QI (fun v M' => v = nI n ∧ M' 78 = mvY (M 78) s i t j n ∧ ∀ a, a ≠ 78 → a ≠ 79 → M' a = M a)) 237 128 [some (.ref 66), some (.int (nI s)), some (.int (nI i)), some (.int (nI t)), some (.int (nI j)), some (.int (nI n)), some (.int (nI k))] [] (con M1) := by
  have hm : mMet 237 = some _ := rfl
  intro q
  induction q with
  | zero =>
    intro k M1 hkn hkb h79 hfr
    omega
  | succ q ih =>
    intro k M1 hkn hkb h79 hfr
    have h78 : M1 78 = M 78 := hfr 78 (by decide)
    refine x_iload hm rfl rfl ?_
    refine x_iload hm rfl rfl ?_
    refine x_icmp_ge hm rfl (t := 162) rfl (fun h1 => ?_) (fun h1 => ?_)
    · have hkn2 : k = n := Nat.le_antisymm hkb ((jI_le (by omega) (by omega)).mp h1)
      rw [hkn2] at h79
      refine x_iconst hm rfl (v := nI 0) (by decide) ?_
      refine x_istore hm rfl rfl ?_
      exact m237b hs ht hi hj _ 0 _ (Nat.lt_succ_self _) (Nat.zero_le _) h79 (by rw [h78]; funext x; unfold mvY; rw [if_neg (by omega)]) (fun a h1 h2 => hfr a h2)
    · have hk : k < n := Nat.lt_of_not_le fun h => h1 (nI_le h (by omega))
      refine x_aload_n hm rfl rfl ?_
      refine x_getf hm rfl (gR rfl rfl) ?_
      refine x_iload hm rfl rfl ?_
      refine x_aload_n hm rfl rfl ?_
      refine x_getf hm rfl (gR rfl rfl) ?_
      refine x_bipush hm rfl (v := nI 40) (by decide) ?_
      refine x_iload_n hm rfl rfl ?_
      refine x_imul hm rfl ?_
      rw [jI_mul]
      refine x_iload_n hm rfl rfl ?_
      refine x_iadd hm rfl ?_
      rw [jI_add]
      refine x_iload hm rfl rfl ?_
      refine x_iadd hm rfl ?_
      rw [jI_add]
      refine x_iald hm rfl (lI rfl (by omega) (by decide)) ?_
      rw [h78]
      refine x_iast hm rfl (sI rfl (by omega) (by decide)) ?_
      refine x_iinc hm rfl rfl (v := nI 1) (by decide) rfl ?_
      rw [jI_add]
      refine x_goto hm rfl (t := 128) rfl ?_
      refine ih (k + 1) _ (by omega) (by omega) (fun x hx => ?_) (fun a h1 => (mpo h1).trans (hfr a h1))
      by_cases e : x = k
      · subst e; exact mp0
      · rw [mpn (by omega)]; exact h79 x (by omega)
theorem g237 {a1 a2 a3 a4 a5 : Int32} (hz : ∀ u, u < 4 → ∃ k, k ≤ 40 ∧ M 77 u = nI k) : ∃ v M', mT X 237 [.ref 66, .int a1, .int a2, .int a3, .int a4, .int a5] (con M) (some (.int v)) (con M') ∧ Hq (fCopy (M 76) (M 77) (M 78) a1 a2 a3 a4 a5) v M M' := by
  refine ti_of (row := _) rfl (Nat.le_of_ble_eq_true rfl) ?_
  have hm : mMet 237 = some _ := rfl
  refine x_iload_n hm rfl rfl ?_
  refine x_callS hm rfl rfl (t210) ?_
  refine x_if_eq hm rfl (t := 14) rfl (fun h1 => ?_) (fun h1 => ?_)
  · refine x_aload_n hm rfl rfl ?_
    refine x_ldcI hm rfl (v := (-1000001 : Int32)) (by decide +kernel) ?_
    refine x_callV hm rfl rfl (e135 (by decide +kernel)) ?_
    refine x_iret hm rfl rfl (by first | rfl | exact bI_nar | decide) ?_
    first
      | (have hq : fCopy (M 76) (M 77) (M 78) a1 a2 a3 a4 a5 = (-1000001, M 76, M 77, M 78) := by
           unfold fCopy
           rw [if_pos h1]
         exact ⟨_, _, rfl, rfl, by rw [hq]; exact fnd_hq⟩)
      | (have hq : fCopy (M 76) (M 77) (M 78) (nI s) a2 a3 a4 a5 = (-1000001, M 76, M 77, M 78) := by
           unfold fCopy
           rw [if_neg h1, if_pos (by assumption)]
         exact ⟨_, _, rfl, rfl, by rw [hq]; exact fnd_hq⟩)
  · obtain ⟨s, hs, hs3⟩ := le_k (by omega) (bI_ne0 h1)
    subst hs3
    refine x_iload_n hm rfl rfl ?_
    refine x_callS hm rfl rfl (t210) ?_
    refine x_if_ne hm rfl (t := 21) rfl (fun h2 => ?_) (fun h2 => ?_)
    · have hh3 := h2
      obtain ⟨t, ht, ht3⟩ := le_k (by omega) (bI_ne0 hh3)
      subst ht3
      obtain ⟨ls, hls, hzs⟩ := hz s (by omega)
      obtain ⟨lu, hlu, hzu⟩ := hz t (by omega)
      refine x_aload_n hm rfl rfl ?_
      refine x_getf hm rfl (gR rfl rfl) ?_
      refine x_iload_n hm rfl rfl ?_
      refine x_iald hm rfl (lI rfl (by omega) (by decide)) ?_
      refine x_if_eq hm rfl (t := 39) rfl (fun h3 => ?_) (fun h3 => ?_)
      · have ws : M 76 s = 0 := h3
        refine x_aload_n hm rfl rfl ?_
        refine x_ldcI hm rfl (v := (-1000006 : Int32)) (by decide +kernel) ?_
        refine x_callV hm rfl rfl (e135 (by decide +kernel)) ?_
        refine x_iret hm rfl rfl (by first | rfl | exact bI_nar | decide) ?_
        first
          | (have hq : fCopy (M 76) (M 77) (M 78) (nI s) a2 (nI t) a4 a5 = (-1000006, M 76, M 77, M 78) := by
               unfold fCopy
               rw [if_neg h1, if_neg hh3, jI_nat (by omega), jI_nat (by omega), if_pos ws]
             exact ⟨_, _, rfl, rfl, by rw [hq]; exact fnd_hq⟩)
          | (have hq : fCopy (M 76) (M 77) (M 78) (nI s) a2 (nI t) a4 a5 = (-1000006, M 76, M 77, M 78) := by
               unfold fCopy
               rw [if_neg h1, if_neg hh3, jI_nat (by omega), jI_nat (by omega), if_neg ws, if_pos wu]
             exact ⟨_, _, rfl, rfl, by rw [hq]; exact fnd_hq⟩)
      · have ws : ¬ M 76 s = 0 := h3
        refine x_aload_n hm rfl rfl ?_
        refine x_getf hm rfl (gR rfl rfl) ?_
        refine x_iload_n hm rfl rfl ?_
        refine x_iald hm rfl (lI rfl (by omega) (by decide)) ?_
        refine x_if_ne hm rfl (t := 46) rfl (fun h4 => ?_) (fun h4 => ?_)
        · have wu : ¬ M 76 t = 0 := h4
          refine x_aload_n hm rfl rfl ?_
          refine x_getf hm rfl (gR rfl rfl) ?_
          refine x_iload_n hm rfl rfl ?_
          refine x_iald hm rfl (lI rfl (by omega) (by decide)) ?_
          refine x_aload_n hm rfl rfl ?_
          refine x_getf hm rfl (gR rfl rfl) ?_
          refine x_iload_n hm rfl rfl ?_
          refine x_iald hm rfl (lI rfl (by omega) (by decide)) ?_
          refine x_icmp_eq hm rfl (t := 69) rfl (fun h5 => ?_) (fun h5 => ?_)
          · have we : M 76 s = M 76 t := h5
            refine x_iload_n hm rfl rfl ?_
            refine x_if_lt hm rfl (t := 118) rfl (fun h6 => ?_) (fun h6 => ?_)
            · have hbad : ¬ (hsP (M 77 s) a2 a5 ∧ hsP (M 77 t) a4 a5) := fun q => Int32.not_le.mpr h6 q.1.1
              refine x_aload_n hm rfl rfl ?_
              refine x_ldcI hm rfl (v := (-1000001 : Int32)) (by decide +kernel) ?_
              refine x_callV hm rfl rfl (e135 (by decide +kernel)) ?_
              refine x_iret hm rfl rfl (by first | rfl | exact bI_nar | decide) ?_
              first
                | (have hq : fCopy (M 76) (M 77) (M 78) (nI s) a2 (nI t) a4 a5 = (-1000001, M 76, M 77, M 78) := by
                     unfold fCopy
                     rw [if_neg h1, if_neg hh3, jI_nat (by omega), jI_nat (by omega), if_neg ws, if_neg wu, if_neg (not_not_intro we), if_pos hbad]
                   exact ⟨_, _, rfl, rfl, by rw [hq]; exact fnd_hq⟩)
                | (have hq : fCopy (M 76) (M 77) (M 78) (nI s) (nI i) (nI t) (nI j) (nI n) = (-1000001, M 76, M 77, M 78) := by
                     unfold fCopy
                     rw [if_neg h1, if_neg hh3, jI_nat (by omega), jI_nat (by omega), if_neg ws, if_neg wu, if_neg (not_not_intro we), if_pos hbad]
                   exact ⟨_, _, rfl, rfl, by rw [hq]; exact fnd_hq⟩)
            · have pi := h6
              refine x_iload hm rfl rfl ?_
              refine x_if_lt hm rfl (t := 118) rfl (fun h7 => ?_) (fun h7 => ?_)
              · have hbad : ¬ (hsP (M 77 s) a2 a5 ∧ hsP (M 77 t) a4 a5) := fun q => Int32.not_le.mpr h7 q.2.1
                refine x_aload_n hm rfl rfl ?_
                refine x_ldcI hm rfl (v := (-1000001 : Int32)) (by decide +kernel) ?_
                refine x_callV hm rfl rfl (e135 (by decide +kernel)) ?_
                refine x_iret hm rfl rfl (by first | rfl | exact bI_nar | decide) ?_
                first
                  | (have hq : fCopy (M 76) (M 77) (M 78) (nI s) a2 (nI t) a4 a5 = (-1000001, M 76, M 77, M 78) := by
                       unfold fCopy
                       rw [if_neg h1, if_neg hh3, jI_nat (by omega), jI_nat (by omega), if_neg ws, if_neg wu, if_neg (not_not_intro we), if_pos hbad]
                     exact ⟨_, _, rfl, rfl, by rw [hq]; exact fnd_hq⟩)
                  | (have hq : fCopy (M 76) (M 77) (M 78) (nI s) (nI i) (nI t) (nI j) (nI n) = (-1000001, M 76, M 77, M 78) := by
                       unfold fCopy
                       rw [if_neg h1, if_neg hh3, jI_nat (by omega), jI_nat (by omega), if_neg ws, if_neg wu, if_neg (not_not_intro we), if_pos hbad]
                     exact ⟨_, _, rfl, rfl, by rw [hq]; exact fnd_hq⟩)
              · have pj := h7
                refine x_iload hm rfl rfl ?_
                refine x_if_lt hm rfl (t := 118) rfl (fun h8 => ?_) (fun h8 => ?_)
                · have hbad : ¬ (hsP (M 77 s) a2 a5 ∧ hsP (M 77 t) a4 a5) := fun q => Int32.not_le.mpr h8 q.1.2.1
                  refine x_aload_n hm rfl rfl ?_
                  refine x_ldcI hm rfl (v := (-1000001 : Int32)) (by decide +kernel) ?_
                  refine x_callV hm rfl rfl (e135 (by decide +kernel)) ?_
                  refine x_iret hm rfl rfl (by first | rfl | exact bI_nar | decide) ?_
                  first
                    | (have hq : fCopy (M 76) (M 77) (M 78) (nI s) a2 (nI t) a4 a5 = (-1000001, M 76, M 77, M 78) := by
                         unfold fCopy
                         rw [if_neg h1, if_neg hh3, jI_nat (by omega), jI_nat (by omega), if_neg ws, if_neg wu, if_neg (not_not_intro we), if_pos hbad]
                       exact ⟨_, _, rfl, rfl, by rw [hq]; exact fnd_hq⟩)
                    | (have hq : fCopy (M 76) (M 77) (M 78) (nI s) (nI i) (nI t) (nI j) (nI n) = (-1000001, M 76, M 77, M 78) := by
                         unfold fCopy
                         rw [if_neg h1, if_neg hh3, jI_nat (by omega), jI_nat (by omega), if_neg ws, if_neg wu, if_neg (not_not_intro we), if_pos hbad]
                       exact ⟨_, _, rfl, rfl, by rw [hq]; exact fnd_hq⟩)
                · obtain ⟨i, hi, hi3⟩ := jI_of pi
                  obtain ⟨j, hj, hj3⟩ := jI_of pj
                  obtain ⟨n, hn, hn3⟩ := jI_of h8
                  subst hi3
                  subst hj3
                  subst hn3
                  refine x_iload_n hm rfl rfl ?_
                  refine x_i2l hm rfl ?_
                  refine x_iload hm rfl rfl ?_
                  refine x_i2l hm rfl ?_
                  refine x_ladd hm rfl ?_
                  refine x_aload_n hm rfl rfl ?_
                  refine x_getf hm rfl (gR rfl rfl) ?_
                  refine x_iload_n hm rfl rfl ?_
                  refine x_iald hm rfl (lI rfl (by omega) (by decide)) ?_
                  rw [hzs]
                  refine x_i2l hm rfl ?_
                  refine x_lcmp hm rfl ?_
                  refine x_if_gt hm rfl (t := 118) rfl (fun h9 => ?_) (fun h9 => ?_)
                  · have hbad : ¬ (hsP (M 77 s) (nI i) (nI n) ∧ hsP (M 77 t) (nI j) (nI n)) := fun q => Int32.not_lt.mpr (cpr hi hn hls ((hsP_iff hi hn hls).mp (by rw [← hzs]; exact q.1))) h9
                    refine x_aload_n hm rfl rfl ?_
                    refine x_ldcI hm rfl (v := (-1000001 : Int32)) (by decide +kernel) ?_
                    refine x_callV hm rfl rfl (e135 (by decide +kernel)) ?_
                    refine x_iret hm rfl rfl (by first | rfl | exact bI_nar | decide) ?_
                    first
                      | (have hq : fCopy (M 76) (M 77) (M 78) (nI s) a2 (nI t) a4 a5 = (-1000001, M 76, M 77, M 78) := by
                           unfold fCopy
                           rw [if_neg h1, if_neg hh3, jI_nat (by omega), jI_nat (by omega), if_neg ws, if_neg wu, if_neg (not_not_intro we), if_pos hbad]
                         exact ⟨_, _, rfl, rfl, by rw [hq]; exact fnd_hq⟩)
                      | (have hq : fCopy (M 76) (M 77) (M 78) (nI s) (nI i) (nI t) (nI j) (nI n) = (-1000001, M 76, M 77, M 78) := by
                           unfold fCopy
                           rw [if_neg h1, if_neg hh3, jI_nat (by omega), jI_nat (by omega), if_neg ws, if_neg wu, if_neg (not_not_intro we), if_pos hbad]
                         exact ⟨_, _, rfl, rfl, by rw [hq]; exact fnd_hq⟩)
                  · have g1 := cpg hi hn hls h9
                    refine x_iload hm rfl rfl ?_
                    refine x_i2l hm rfl ?_
                    refine x_iload hm rfl rfl ?_
                    refine x_i2l hm rfl ?_
                    refine x_ladd hm rfl ?_
                    refine x_aload_n hm rfl rfl ?_
                    refine x_getf hm rfl (gR rfl rfl) ?_
                    refine x_iload_n hm rfl rfl ?_
                    refine x_iald hm rfl (lI rfl (by omega) (by decide)) ?_
                    rw [hzu]
                    refine x_i2l hm rfl ?_
                    refine x_lcmp hm rfl ?_
                    refine x_if_le hm rfl (t := 125) rfl (fun h10 => ?_) (fun h10 => ?_)
                    · have g2 := cpl hj hn hlu h10
                      refine x_iconst hm rfl (v := nI 0) (by decide) ?_
                      refine x_istore hm rfl rfl ?_
                      have hq : fCopy (M 76) (M 77) (M 78) (nI s) (nI i) (nI t) (nI j) (nI n) = (nI n, M 76, M 77, mvY (M 78) s i t j n) := by
                        unfold fCopy
                        rw [if_neg h1, if_neg hh3, jI_nat (by omega), jI_nat (by omega), if_neg ws, if_neg wu, if_neg (not_not_intro we), if_neg (not_not_intro (And.intro (by rw [hzs]; exact (hsP_iff hi hn hls).mpr g1) (by rw [hzu]; exact (hsP_iff hj hn hlu).mpr g2))), jI_nat (by omega), jI_nat (by omega), jI_nat (by omega)]
                      exact ev_mono (m237a (M := M) hs ht (by omega) (by omega) _ 0 _ (Nat.lt_succ_self _) (Nat.zero_le _) (fun x h => absurd h (Nat.not_lt_zero x)) (fun _ _ => rfl)) (fun r0 D ⟨v, M2, k1, k2, k3, k4, k5⟩ => ⟨v, M2, k1, k2, by rw [hq]; exact ⟨k3, k5 76 (by decide) (by decide), k5 77 (by decide) (by decide), k4, fun a _ _ _ h4 h5 => k5 a h4 h5⟩⟩)
                    · have hbad : ¬ (hsP (M 77 s) (nI i) (nI n) ∧ hsP (M 77 t) (nI j) (nI n)) := fun q => h10 (cpr hj hn hlu ((hsP_iff hj hn hlu).mp (by rw [← hzu]; exact q.2)))
                      refine x_aload_n hm rfl rfl ?_
                      refine x_ldcI hm rfl (v := (-1000001 : Int32)) (by decide +kernel) ?_
                      refine x_callV hm rfl rfl (e135 (by decide +kernel)) ?_
                      refine x_iret hm rfl rfl (by first | rfl | exact bI_nar | decide) ?_
                      first
                        | (have hq : fCopy (M 76) (M 77) (M 78) (nI s) a2 (nI t) a4 a5 = (-1000001, M 76, M 77, M 78) := by
                             unfold fCopy
                             rw [if_neg h1, if_neg hh3, jI_nat (by omega), jI_nat (by omega), if_neg ws, if_neg wu, if_neg (not_not_intro we), if_pos hbad]
                           exact ⟨_, _, rfl, rfl, by rw [hq]; exact fnd_hq⟩)
                        | (have hq : fCopy (M 76) (M 77) (M 78) (nI s) (nI i) (nI t) (nI j) (nI n) = (-1000001, M 76, M 77, M 78) := by
                             unfold fCopy
                             rw [if_neg h1, if_neg hh3, jI_nat (by omega), jI_nat (by omega), if_neg ws, if_neg wu, if_neg (not_not_intro we), if_pos hbad]
                           exact ⟨_, _, rfl, rfl, by rw [hq]; exact fnd_hq⟩)
          · have we : ¬ M 76 s = M 76 t := h5
            refine x_aload_n hm rfl rfl ?_
            refine x_ldc_wI hm rfl (v := (-1000003 : Int32)) (by decide) ?_
            refine x_callV hm rfl rfl (e135 (by decide +kernel)) ?_
            refine x_iret hm rfl rfl (by first | rfl | exact bI_nar | decide) ?_
            have hq : fCopy (M 76) (M 77) (M 78) (nI s) a2 (nI t) a4 a5 = (-1000003, M 76, M 77, M 78) := by
              unfold fCopy
              rw [if_neg h1, if_neg hh3, jI_nat (by omega), jI_nat (by omega), if_neg ws, if_neg wu, if_pos we]
            exact ⟨_, _, rfl, rfl, by rw [hq]; exact fnd_hq⟩
        · have wu : M 76 t = 0 := h4
          refine x_aload_n hm rfl rfl ?_
          refine x_ldcI hm rfl (v := (-1000006 : Int32)) (by decide +kernel) ?_
          refine x_callV hm rfl rfl (e135 (by decide +kernel)) ?_
          refine x_iret hm rfl rfl (by first | rfl | exact bI_nar | decide) ?_
          first
            | (have hq : fCopy (M 76) (M 77) (M 78) (nI s) a2 (nI t) a4 a5 = (-1000006, M 76, M 77, M 78) := by
                 unfold fCopy
                 rw [if_neg h1, if_neg hh3, jI_nat (by omega), jI_nat (by omega), if_pos ws]
               exact ⟨_, _, rfl, rfl, by rw [hq]; exact fnd_hq⟩)
            | (have hq : fCopy (M 76) (M 77) (M 78) (nI s) a2 (nI t) a4 a5 = (-1000006, M 76, M 77, M 78) := by
                 unfold fCopy
                 rw [if_neg h1, if_neg hh3, jI_nat (by omega), jI_nat (by omega), if_neg ws, if_pos wu]
               exact ⟨_, _, rfl, rfl, by rw [hq]; exact fnd_hq⟩)
    · refine x_aload_n hm rfl rfl ?_
      refine x_ldcI hm rfl (v := (-1000001 : Int32)) (by decide +kernel) ?_
      refine x_callV hm rfl rfl (e135 (by decide +kernel)) ?_
      refine x_iret hm rfl rfl (by first | rfl | exact bI_nar | decide) ?_
      first
        | (have hq : fCopy (M 76) (M 77) (M 78) a1 a2 a3 a4 a5 = (-1000001, M 76, M 77, M 78) := by
             unfold fCopy
             rw [if_pos h1]
           exact ⟨_, _, rfl, rfl, by rw [hq]; exact fnd_hq⟩)
        | (have hq : fCopy (M 76) (M 77) (M 78) (nI s) a2 a3 a4 a5 = (-1000001, M 76, M 77, M 78) := by
             unfold fCopy
             rw [if_neg h1, if_pos (by assumption)]
           exact ⟨_, _, rfl, rfl, by rw [hq]; exact fnd_hq⟩)
theorem Wok.copy {a1 a2 a3 a4 a5 : Int32} (h : Wok w) : Wok (fCopy w z y a1 a2 a3 a4 a5).2.1 := by
  unfold fCopy
  repeat' split
  all_goals exact h
theorem j_copy {a1 a2 a3 a4 a5 : Int32} (hJ : J M) : JJ X 120 237 [.ref 0, .int a1, .int a2, .int a3, .int a4, .int a5] [.ref 66, .int a1, .int a2, .int a3, .int a4, .int a5] M Eq := by
  refine J.shj hJ (t120 hJ.1.1) (g120 hJ.rs.1 (fun u _ => hJ.1.1.size u)) (fun M1 i => t237 i) (fun M1 i k => ?_) hJ.rs.2.copy
  rw [← k 76 (by decide), ← k 77 (by decide), ← k 78 (by decide)]
  exact g237 (fun u _ => i.1.size u)
end EX
end
section
/-! ===== texts: what they tell, and the reference token by token ===== -/
def wh (p : Nat → Bool) : Nat → Nat → Nat
  | 0, b => b
  | f + 1, b => if p b = true then wh p f (b + 1) else b
theorem wh_c {p : Nat → Bool} {c : Nat} (h : ∀ k, c ≤ k → ¬ p k = true) : ∀ (f g b : Nat), c ≤ b + f → c ≤ b + g → wh p f b = wh p g b := by
  intro f
  induction f with
  | zero =>
    intro g b h1 h2
    cases g with
    | zero => rfl
    | succ g => exact (if_neg (h b (by omega))).symm
  | succ f ih =>
    intro g b h1 h2
    cases g with
    | zero => exact if_neg (h b (by omega))
    | succ g =>
      show (if p b = true then wh p f (b + 1) else b) = (if p b = true then wh p g (b + 1) else b)
      rw [ih g (b + 1) (by omega) (by omega)]
theorem wh_le {p : Nat → Bool} {c : Nat} (h : ∀ k, c ≤ k → ¬ p k = true) : ∀ (f b : Nat), b ≤ wh p f b ∧ (b ≤ c → wh p f b ≤ c) := by
  intro f
  induction f with
  | zero => intro b; exact ⟨Nat.le_refl _, fun h => h⟩
  | succ f ih =>
    intro b
    show b ≤ (if p b = true then wh p f (b + 1) else b) ∧ (b ≤ c → (if p b = true then wh p f (b + 1) else b) ≤ c)
    by_cases g : p b = true
    · rw [if_pos g]
      have hb : b < c := Nat.lt_of_not_le fun q => h b q g
      exact ⟨Nat.le_trans (Nat.le_succ b) (ih (b + 1)).1, fun _ => (ih (b + 1)).2 hb⟩
    · rw [if_neg g]
      exact ⟨Nat.le_refl _, fun q => q⟩
def w1 (p : Nat → Bool) (b : Nat) : Nat := wh p 121 b
theorem w1_z {p : Nat → Bool} {b : Nat} (h : ¬ p b = true) : w1 p b = b := if_neg h
theorem w1_s {p : Nat → Bool} {b c : Nat} (hc : c ≤ 120) (hp : ∀ k, c ≤ k → ¬ p k = true) (h : p b = true) : w1 p b = w1 p (b + 1) := by
  have e : w1 p b = wh p 120 (b + 1) := if_pos h
  rw [e]
  exact wh_c hp _ _ _ (by omega) (by omega)
def sp8 (T : Nat → Nat) (c k : Nat) : Bool := decide (k < c ∧ T k = 32)
def lt8 (T : Nat → Nat) (c k : Nat) : Bool := decide (k < c ∧ 97 ≤ T k ∧ T k ≤ 122)
def dg8 (T : Nat → Nat) (c k : Nat) : Bool := decide (k < c ∧ 48 ≤ T k ∧ T k ≤ 57)
theorem sp8_n {T : Nat → Nat} {c : Nat} : ∀ k, c ≤ k → ¬ sp8 T c k = true := fun k h g => by have := (of_decide_eq_true g).1; omega
theorem lt8_n {T : Nat → Nat} {c : Nat} : ∀ k, c ≤ k → ¬ lt8 T c k = true := fun k h g => by have := (of_decide_eq_true g).1; omega
theorem dg8_n {T : Nat → Nat} {c : Nat} : ∀ k, c ≤ k → ¬ dg8 T c k = true := fun k h g => by have := (of_decide_eq_true g).1; omega
/-- a number's value, by so many digits -/
def pV (T : Nat → Nat) (b : Nat) : Nat → Nat
  | 0 => 0
  | j + 1 => min 1000 (10 * pV T b j + T (b + j) - 48)
theorem pV_le {T : Nat → Nat} {b : Nat} : ∀ j, pV T b j ≤ 1000 := by
  intro j
  cases j with
  | zero => exact Nat.zero_le _
  | succ j => exact Nat.min_le_left _ _
/-- where a token begins and ends, its sort, its value, whether something was wrong -/
abbrev PS := Nat × Nat × Nat × Nat × Bool
def pNx (T : Nat → Nat) (c e : Nat) : PS :=
  if ¬ w1 (sp8 T c) e < c then (w1 (sp8 T c) e, w1 (sp8 T c) e, 0, 0, false)
  else if lt8 T c (w1 (sp8 T c) e) = true then (w1 (sp8 T c) e, w1 (lt8 T c) (w1 (sp8 T c) e), 1, 0, false)
  else if dg8 T c (w1 (sp8 T c) e) = true then (w1 (sp8 T c) e, w1 (dg8 T c) (w1 (sp8 T c) e), 2, pV T (w1 (sp8 T c) e) (w1 (dg8 T c) (w1 (sp8 T c) e) - w1 (sp8 T c) e), false)
  else (w1 (sp8 T c) e, w1 (sp8 T c) e + 1, 3, 0, false)
section PX
variable {T : Nat → Nat} {c e b x : Nat}
theorem pNx_0 (h : w1 (sp8 T c) e = b) (hb : ¬ b < c) : pNx T c e = (b, b, 0, 0, false) := by
  unfold pNx
  rw [h, if_pos hb]
theorem pNx_1 (h : w1 (sp8 T c) e = b) (hb : b < c) (hl : lt8 T c b = true) (hx : w1 (lt8 T c) b = x) : pNx T c e = (b, x, 1, 0, false) := by
  unfold pNx
  rw [h, if_neg (fun q => q hb), if_pos hl, hx]
theorem pNx_2 (h : w1 (sp8 T c) e = b) (hb : b < c) (hl : ¬ lt8 T c b = true) (hd : dg8 T c b = true) (hx : w1 (dg8 T c) b = x) : pNx T c e = (b, x, 2, pV T b (x - b), false) := by
  unfold pNx
  rw [h, if_neg (fun q => q hb), if_neg hl, if_pos hd, hx]
theorem pNx_3 (h : w1 (sp8 T c) e = b) (hb : b < c) (hl : ¬ lt8 T c b = true) (hd : ¬ dg8 T c b = true) : pNx T c e = (b, b + 1, 3, 0, false) := by
  unfold pNx
  rw [h, if_neg (fun q => q hb), if_neg hl, if_neg hd]
def Pk (c : Nat) (q : PS) : Prop := c ≤ 120 ∧ q.1 ≤ q.2.1 ∧ q.2.1 ≤ c ∧ (¬ q.2.2.1 = 0 → q.1 < q.2.1) ∧ q.2.2.1 ≤ 3 ∧ q.2.2.2.1 ≤ 1000
theorem pNx_w : (pNx T c e).2.2.2.2 = false := by
  unfold pNx
  repeat' split
  all_goals rfl
theorem pNx_pk (hc : c ≤ 120) (he : e ≤ c) : Pk c (pNx T c e) ∧ e ≤ (pNx T c e).1 := by
  obtain ⟨s1, s2⟩ := wh_le (sp8_n (T := T) (c := c)) 121 e
  have s3 := s2 he
  change e ≤ w1 (sp8 T c) e at s1
  change w1 (sp8 T c) e ≤ c at s3
  generalize hb : w1 (sp8 T c) e = b at s1 s3
  by_cases h1 : b < c
  · by_cases h2 : lt8 T c b = true
    · rw [pNx_1 hb h1 h2 rfl]
      obtain ⟨u1, u2⟩ := wh_le (lt8_n (T := T) (c := c)) 121 (b + 1)
      rw [w1_s hc lt8_n h2]
      exact ⟨⟨hc, Nat.le_trans (Nat.le_succ b) u1, u2 h1, fun _ => u1, Nat.le_of_ble_eq_true rfl, Nat.le_of_ble_eq_true rfl⟩, s1⟩
    · by_cases h3 : dg8 T c b = true
      · rw [pNx_2 hb h1 h2 h3 rfl]
        obtain ⟨u1, u2⟩ := wh_le (dg8_n (T := T) (c := c)) 121 (b + 1)
        rw [w1_s hc dg8_n h3]
        exact ⟨⟨hc, Nat.le_trans (Nat.le_succ b) u1, u2 h1, fun _ => u1, Nat.le_of_ble_eq_true rfl, pV_le _⟩, s1⟩
      · rw [pNx_3 hb h1 h2 h3]
        exact ⟨⟨hc, Nat.le_succ _, h1, fun _ => Nat.lt_succ_self _, Nat.le_of_ble_eq_true rfl, Nat.le_of_ble_eq_true rfl⟩, s1⟩
  · rw [pNx_0 hb h1]
    exact ⟨⟨hc, Nat.le_refl _, s3, fun q => absurd rfl q, Nat.le_of_ble_eq_true rfl, Nat.le_of_ble_eq_true rfl⟩, s1⟩
end PX
def pMu (T : Nat → Nat) (c : Nat) (q : PS) (x : Int32) : PS := if q.2.2.2.2 = true ∨ x = 0 then (q.1, q.2.1, q.2.2.1, q.2.2.2.1, true) else pNx T c q.2.1
def pNu (T : Nat → Nat) (c : Nat) (q : PS) (hi : Int32) : PS := pMu T c q (if q.2.2.1 = 2 ∧ nI q.2.2.2.1 ≤ hi then nI 1 else nI 0)
abbrev pWd (T : Nat → Nat) (q : PS) (t : Nat) : Prop := q.2.2.1 = 1 ∧ q.2.1 - q.1 = (mTx.getD t []).length ∧ ∀ k, k < (mTx.getD t []).length → T (q.1 + k) = (mTx.getD t []).getD k 0
noncomputable def pAf (T : Nat → Nat) (c : Nat) (q : PS) (t : Nat) (w hi : Int32) : Int32 × PS :=
  if q.2.2.2.2 = true ∨ ¬ pWd T q t then (w, q) else (nI (pMu T c q (nI 1)).2.2.2.1, pNu T c (pMu T c q (nI 1)) hi)
noncomputable def pKd (T : Nat → Nat) (q : PS) : Nat → Int32
  | 0 => -1
  | k + 1 => if pWd T q (kt k) then nI k else pKd T q k
section PY
variable {T : Nat → Nat} {c : Nat} {q : PS} {x hi w : Int32} {t : Nat}
theorem pMu_pk (h : Pk c q) : Pk c (pMu T c q x) ∧ q.1 ≤ (pMu T c q x).1 := by
  unfold pMu
  split
  · exact ⟨h, Nat.le_refl _⟩
  · obtain ⟨g1, g2⟩ := pNx_pk (T := T) h.1 h.2.2.1
    exact ⟨g1, Nat.le_trans h.2.1 g2⟩
theorem pMu_ok (h : (pMu T c q x).2.2.2.2 = false) : q.2.2.2.2 = false ∧ ¬ x = 0 := by
  unfold pMu at h
  split at h
  · cases h
  · rename_i g
    exact ⟨Bool.not_eq_true _ ▸ fun e => g (Or.inl e), fun e => g (Or.inr e)⟩
theorem pMu_w (h : q.2.2.2.2 = true) : pMu T c q x = q := by
  obtain ⟨a, b, d, e, f⟩ := q
  subst h
  exact if_pos (Or.inl rfl)
theorem pNu_w (h : q.2.2.2.2 = true) : pNu T c q hi = q := pMu_w h
theorem pNu_pk (h : Pk c q) : Pk c (pNu T c q hi) ∧ q.1 ≤ (pNu T c q hi).1 := pMu_pk h
theorem pNu_ok (h : (pNu T c q hi).2.2.2.2 = false) : q.2.2.2.2 = false ∧ q.2.2.1 = 2 ∧ nI q.2.2.2.1 ≤ hi := by
  obtain ⟨g1, g2⟩ := pMu_ok h
  refine ⟨g1, ?_⟩
  by_cases e : q.2.2.1 = 2 ∧ nI q.2.2.2.1 ≤ hi
  · exact e
  · exact absurd (if_neg e) g2
theorem pAf_pk (h : Pk c q) : Pk c (pAf T c q t w hi).2 ∧ q.1 ≤ (pAf T c q t w hi).2.1 := by
  unfold pAf
  split
  · exact ⟨h, Nat.le_refl _⟩
  · obtain ⟨g1, g2⟩ := pMu_pk (T := T) (x := nI 1) h
    obtain ⟨k1, k2⟩ := pNu_pk (T := T) (hi := hi) g1
    exact ⟨k1, Nat.le_trans g2 k2⟩
theorem pAf_ok (h : Pk c q) (g : (pAf T c q t w hi).2.2.2.2.2 = false) : q.2.2.2.2 = false ∧ ((pAf T c q t w hi).1 = w ∨ ∃ k, k ≤ 1000 ∧ (pAf T c q t w hi).1 = nI k ∧ nI k ≤ hi) := by
  by_cases e : q.2.2.2.2 = true ∨ ¬ pWd T q t
  · rw [show pAf T c q t w hi = (w, q) from if_pos e] at g ⊢
    exact ⟨g, Or.inl rfl⟩
  · rw [show pAf T c q t w hi = (nI (pMu T c q (nI 1)).2.2.2.1, pNu T c (pMu T c q (nI 1)) hi) from if_neg e] at g ⊢
    obtain ⟨g1, g2, g3⟩ := pNu_ok g
    exact ⟨(pMu_ok g1).1, Or.inr ⟨_, (pMu_pk h).1.2.2.2.2.2, rfl, g3⟩⟩
theorem pAf_w (h : q.2.2.2.2 = true) : pAf T c q t w hi = (w, q) := if_pos (Or.inl h)
end PY
/-- the reference stands so -/
def RT (T : Nat → Nat) (c : Nat) (q : PS) (M : mM) : Prop := M 66 10 = nI q.1 ∧ M 66 11 = nI q.2.1 ∧ M 66 12 = nI q.2.2.1 ∧ M 66 13 = nI q.2.2.2.1 ∧ M 66 14 = (if q.2.2.2.2 = true then nI 1 else nI 0) ∧ M 66 9 = nI c ∧ (∀ k, k < c → M 73 k = nI (T k)) ∧ Pk c q
section RT
variable {X : mSc} {Q : Option Value → mHp → Prop} {M : mM} {T : Nat → Nat} {c : Nat}
theorem by8_k {k : Nat} (hT : ∀ k, k < c → M 73 k = nI (T k)) (h : k < c) : by8 M c k = nI (T k) := by
  unfold by8
  rw [if_pos h, hT k h]
theorem by8_o {k : Nat} (h : ¬ k < c) : by8 M c k = -1 := if_neg h
theorem by8_in {k lo hi : Nat} (hT : ∀ k, k < c → M 73 k = nI (T k)) (h8 : ∀ k, k < c → T k < 256) (hl : lo ≤ 1000) (hh : hi ≤ 1000) : (nI lo ≤ by8 M c k ∧ by8 M c k ≤ nI hi) ↔ (k < c ∧ lo ≤ T k ∧ T k ≤ hi) := by
  by_cases h : k < c
  · have := h8 k h
    rw [by8_k hT h, jI_le (by omega) (by omega), jI_le (by omega) (by omega)]
    exact ⟨fun g => ⟨h, g⟩, fun g => g.2⟩
  · refine ⟨fun g => absurd (by8_lt g.1 hl) h, fun g => absurd g.1 h⟩
theorem by8_sp {k : Nat} (hT : ∀ k, k < c → M 73 k = nI (T k)) (h8 : ∀ k, k < c → T k < 256) : by8 M c k = nI 32 ↔ sp8 T c k = true := by
  unfold sp8
  rw [decide_eq_true_iff]
  by_cases h : k < c
  · have := h8 k h
    rw [by8_k hT h]
    exact ⟨fun g => ⟨h, jI_inj (by omega) (by decide) g⟩, fun g => by rw [g.2]⟩
  · rw [by8_o h]
    exact ⟨fun g => absurd g (by decide), fun g => absurd g.1 h⟩
theorem by8_nn {k : Nat} (hT : ∀ k, k < c → M 73 k = nI (T k)) (h8 : ∀ k, k < c → T k < 256) : (nI 0 ≤ by8 M c k) ↔ k < c := by
  refine ⟨fun g => by8_lt g (by decide), fun h => ?_⟩
  have := h8 k h
  rw [by8_k hT h, jI_le (by decide) (by omega)]
  omega
theorem RT.nx {N : mM} {e b s x v : Nat} (hL : Lx M N) (hc9 : M 66 9 = nI c) (hc1 : c ≤ 120) (hT : ∀ k, k < c → M 73 k = nI (T k)) (h14 : M 66 14 = nI 0) (hec : e ≤ c) (hq : pNx T c e = (b, x, s, v, false)) (h10 : N 66 10 = nI b) (h11 : N 66 11 = nI x) (h12 : N 66 12 = nI s) (h13 : N 66 13 = nI v) : RT T c (pNx T c e) N := by
  have hp := (pNx_pk (T := T) hc1 hec).1
  rw [hq] at hp ⊢
  exact ⟨h10, h11, h12, h13, (hL 66 14 (by omega)).trans h14, (hL 66 9 (by omega)).trans hc9, fun k hk => (hL 73 k (by omega)).trans (hT k hk), hp⟩
theorem pV_s {b j e : Nat} (he : e = b + j) (h8 : T e < 256) (hd : 48 ≤ T e) : (if nI 10 * nI (pV T b j) + nI (T e) - nI 48 < nI 1000 then nI 10 * nI (pV T b j) + nI (T e) - nI 48 else nI 1000) = nI (pV T b (j + 1)) := by
  subst he
  have h1 := pV_le (T := T) (b := b) j
  rw [jI_mul, jI_add, sub_k (by omega)]
  show _ = nI (min 1000 (10 * pV T b j + T (b + j) - 48))
  by_cases h : 10 * pV T b j + T (b + j) - 48 < 1000
  · rw [if_pos ((jI_lt (by omega) (by decide)).mpr h), Nat.min_eq_right (by omega)]
  · rw [if_neg (fun g => h ((jI_lt (by omega) (by decide)).mp g)), Nat.min_eq_left (by omega)]
theorem k221w {e0 : Nat} (hc9 : M 66 9 = nI c) (hc1 : c ≤ 120) (hT : ∀ k, k < c → M 73 k = nI (T k)) (h8 : ∀ k, k < c → T k < 256) (h14 : M 66 14 = nI 0) (hec0 : e0 ≤ c) {b : Nat} {v : Int32} (hsk : w1 (sp8 T c) e0 = b) (hbc : b < c) (hlb : lt8 T c b = true) : ∀ (n e : Nat) (M1 : mM), c - e < n → b ≤ e → e ≤ c → w1 (lt8 T c) b = w1 (lt8 T c) e → M1 66 10 = nI b → M1 66 11 = nI e → M1 66 12 = nI 1 → M1 66 13 = nI 0 → Lx M M1 → mEv X (QV (fun M' => RT T c (pNx T c e0) M' ∧ Lx M M')) 221 84 [some (.ref 66), some (.int v)] [] (con M1) := by
  have hm : mMet 221 = some _ := rfl
  intro n
  induction n with
  | zero =>
    intro e M1 hen hbe hec hw h10 h11 h12 h13 hL
    omega
  | succ n ih =>
    intro e M1 hen hbe hec hw h10 h11 h12 h13 hL
    have h9 : M1 66 9 = nI c := (hL 66 9 (by omega)).trans hc9
    have hT1 : ∀ k, k < c → M1 73 k = nI (T k) := fun k hk => (hL 73 k (by omega)).trans (hT k hk)
    refine x_aload_n hm rfl rfl ?_
    refine x_aload_n hm rfl rfl ?_
    refine x_getf hm rfl (gI rfl rfl) ?_
    rw [h11]
    refine x_callV hm rfl rfl (t222 h9 hc1 (by omega)) ?_
    refine x_bipush hm rfl (v := nI 97) (by decide) ?_
    refine x_bipush hm rfl (v := nI 122) (by decide) ?_
    refine x_callS hm rfl rfl (t133) ?_
    refine x_if_eq hm rfl (t := 206) rfl (fun h1 => ?_) (fun h1 => ?_)
    · have hz : ¬ lt8 T c e = true := fun q => bI_eq0.mp h1 ((by8_in hT1 h8 (by decide) (by decide)).mpr (of_decide_eq_true q))
      refine x_ret hm rfl rfl ?_
      exact ⟨_, rfl, rfl, RT.nx hL hc9 hc1 hT h14 hec0 (pNx_1 hsk hbc hlb (hw.trans (w1_z hz))) h10 h11 h12 h13, hL⟩
    · have hq := (by8_in hT1 h8 (by decide) (by decide)).mp (bI_ne0 h1)
      have hlt := hq.1
      have hs : lt8 T c e = true := decide_eq_true hq
      refine x_aload_n hm rfl rfl ?_
      refine x_dup hm rfl rfl ?_
      refine x_getf hm rfl (gI rfl rfl) ?_
      rw [h11]
      refine x_iconst hm rfl (v := nI 1) (by decide) ?_
      refine x_iadd hm rfl ?_
      rw [jI_add]
      refine x_putf hm rfl (pI rfl rfl (by decide) (by first | exact mFit_int | rfl | decide) rfl) ?_
      refine x_goto hm rfl (t := 84) rfl ?_
      exact ih (e + 1) _ (by omega) (by omega) (by omega) (hw.trans (w1_s hc1 lt8_n hs)) (by rw [mpf (by decide)]; exact h10) mp0 (by rw [mpf (by decide)]; exact h12) (by rw [mpf (by decide)]; exact h13) (hL.trans (Lx.put (by decide) (by decide)))
theorem k221n {e0 : Nat} (hc9 : M 66 9 = nI c) (hc1 : c ≤ 120) (hT : ∀ k, k < c → M 73 k = nI (T k)) (h8 : ∀ k, k < c → T k < 256) (h14 : M 66 14 = nI 0) (hec0 : e0 ≤ c) {b : Nat} {v : Int32} (hsk : w1 (sp8 T c) e0 = b) (hbc : b < c) (hnl : ¬ lt8 T c b = true) (hdb : dg8 T c b = true) : ∀ (n e : Nat) (M1 : mM), c - e < n → b ≤ e → e ≤ c → w1 (dg8 T c) b = w1 (dg8 T c) e → M1 66 10 = nI b → M1 66 11 = nI e → M1 66 12 = nI 2 → M1 66 13 = nI (pV T b (e - b)) → Lx M M1 → mEv X (QV (fun M' => RT T c (pNx T c e0) M' ∧ Lx M M')) 221 131 [some (.ref 66), some (.int v)] [] (con M1) := by
  have hm : mMet 221 = some _ := rfl
  intro n
  induction n with
  | zero =>
    intro e M1 hen hbe hec hw h10 h11 h12 h13 hL
    omega
  | succ n ih =>
    intro e M1 hen hbe hec hw h10 h11 h12 h13 hL
    have h9 : M1 66 9 = nI c := (hL 66 9 (by omega)).trans hc9
    have hT1 : ∀ k, k < c → M1 73 k = nI (T k) := fun k hk => (hL 73 k (by omega)).trans (hT k hk)
    refine x_aload_n hm rfl rfl ?_
    refine x_aload_n hm rfl rfl ?_
    refine x_getf hm rfl (gI rfl rfl) ?_
    rw [h11]
    refine x_callV hm rfl rfl (t222 h9 hc1 (by omega)) ?_
    refine x_bipush hm rfl (v := nI 48) (by decide) ?_
    refine x_bipush hm rfl (v := nI 57) (by decide) ?_
    refine x_callS hm rfl rfl (t133) ?_
    refine x_if_eq hm rfl (t := 206) rfl (fun h1 => ?_) (fun h1 => ?_)
    · have hz : ¬ dg8 T c e = true := fun q => bI_eq0.mp h1 ((by8_in hT1 h8 (by decide) (by decide)).mpr (of_decide_eq_true q))
      refine x_ret hm rfl rfl ?_
      exact ⟨_, rfl, rfl, RT.nx hL hc9 hc1 hT h14 hec0 (pNx_2 hsk hbc hnl hdb (hw.trans (w1_z hz))) h10 h11 h12 h13, hL⟩
    · have hq := (by8_in hT1 h8 (by decide) (by decide)).mp (bI_ne0 h1)
      have hlt := hq.1
      have hs : dg8 T c e = true := decide_eq_true hq
      refine x_aload_n hm rfl rfl ?_
      refine x_sipush hm rfl (v := nI 1000) (by decide) ?_
      refine x_bipush hm rfl (v := nI 10) (by decide) ?_
      refine x_aload_n hm rfl rfl ?_
      refine x_getf hm rfl (gI rfl rfl) ?_
      rw [h13]
      refine x_imul hm rfl ?_
      refine x_aload_n hm rfl rfl ?_
      refine x_aload_n hm rfl rfl ?_
      refine x_getf hm rfl (gI rfl rfl) ?_
      rw [h11]
      refine x_callV hm rfl rfl (t222 h9 hc1 (by omega)) ?_
      rw [by8_k hT1 hlt]
      refine x_iadd hm rfl ?_
      refine x_bipush hm rfl (v := nI 48) (by decide) ?_
      refine x_isub hm rfl ?_
      refine x_lib hm rfl rfl ?_
      dsimp only
      rw [pV_s (j := e - b) (by omega) (h8 e hlt) hq.2.1]
      refine x_putf hm rfl (pI rfl rfl (by decide) (by first | exact mFit_int | rfl | decide) rfl) ?_
      refine x_aload_n hm rfl rfl ?_
      refine x_dup hm rfl rfl ?_
      refine x_getf hm rfl (gI rfl rfl) ?_
      rw [mpf (by decide), h11]
      refine x_iconst hm rfl (v := nI 1) (by decide) ?_
      refine x_iadd hm rfl ?_
      rw [jI_add]
      refine x_putf hm rfl (pI rfl rfl (by decide) (by first | exact mFit_int | rfl | decide) rfl) ?_
      refine x_goto hm rfl (t := 131) rfl ?_
      exact ih (e + 1) _ (by omega) (by omega) (by omega) (hw.trans (w1_s hc1 dg8_n hs)) (by rw [mpf (by decide), mpf (by decide)]; exact h10) mp0 (by rw [mpf (by decide), mpf (by decide)]; exact h12) (by rw [mpf (by decide), mp0, show e + 1 - b = e - b + 1 by omega]) ((hL.trans (Lx.put (by decide) (by decide))).trans (Lx.put (by decide) (by decide)))
theorem k221s {e0 : Nat} (hc9 : M 66 9 = nI c) (hc1 : c ≤ 120) (hT : ∀ k, k < c → M 73 k = nI (T k)) (h8 : ∀ k, k < c → T k < 256) (h14 : M 66 14 = nI 0) (hec0 : e0 ≤ c) : ∀ (n b : Nat) (x1 : Option Value) (M1 : mM), c - b < n → e0 ≤ b → b ≤ c → w1 (sp8 T c) e0 = w1 (sp8 T c) b → M1 66 10 = nI b → Lx M M1 → mEv X (QV (fun M' => RT T c (pNx T c e0) M' ∧ Lx M M')) 221 8 [some (.ref 66), x1] [] (con M1) := by
  have hm : mMet 221 = some _ := rfl
  intro n
  induction n with
  | zero =>
    intro b x1 M1 hbn he0 hbc hsk h10 hL
    omega
  | succ n ih =>
    intro b x1 M1 hbn he0 hbc hsk h10 hL
    have h9 : M1 66 9 = nI c := (hL 66 9 (by omega)).trans hc9
    have hT1 : ∀ k, k < c → M1 73 k = nI (T k) := fun k hk => (hL 73 k (by omega)).trans (hT k hk)
    refine x_aload_n hm rfl rfl ?_
    refine x_aload_n hm rfl rfl ?_
    refine x_getf hm rfl (gI rfl rfl) ?_
    rw [h10]
    refine x_callV hm rfl rfl (t222 h9 hc1 (by omega)) ?_
    refine x_bipush hm rfl (v := nI 32) (by decide) ?_
    refine x_icmp_ne hm rfl (t := 34) rfl (fun h1 => ?_) (fun h1 => ?_)
    · have hsk2 := hsk.trans (w1_z fun q => h1 ((by8_sp hT1 h8).mpr q))
      refine x_aload_n hm rfl rfl ?_
      refine x_aload_n hm rfl rfl ?_
      refine x_getf hm rfl (gI rfl rfl) ?_
      rw [h10]
      refine x_callV hm rfl rfl (t222 h9 hc1 (by omega)) ?_
      refine x_istore_n hm rfl rfl ?_
      refine x_aload_n hm rfl rfl ?_
      refine x_aload_n hm rfl rfl ?_
      refine x_getf hm rfl (gI rfl rfl) ?_
      rw [h10]
      refine x_putf hm rfl (pI rfl rfl (by decide) (by first | exact mFit_int | rfl | decide) rfl) ?_
      refine x_aload_n hm rfl rfl ?_
      refine x_iconst hm rfl (v := nI 0) (by decide) ?_
      refine x_putf hm rfl (pI rfl rfl (by decide) (by first | exact mFit_int | rfl | decide) rfl) ?_
      refine x_iload_n hm rfl rfl ?_
      refine x_if_ge hm rfl (t := 68) rfl (fun h2 => ?_) (fun h2 => ?_)
      · have hlt : b < c := (by8_nn hT1 h8).mp h2
        refine x_iload_n hm rfl rfl ?_
        refine x_bipush hm rfl (v := nI 97) (by decide) ?_
        refine x_bipush hm rfl (v := nI 122) (by decide) ?_
        refine x_callS hm rfl rfl (t133) ?_
        refine x_if_eq hm rfl (t := 115) rfl (fun h3 => ?_) (fun h3 => ?_)
        · have hnl : ¬ lt8 T c b = true := fun q => bI_eq0.mp h3 ((by8_in hT1 h8 (by decide) (by decide)).mpr (of_decide_eq_true q))
          refine x_iload_n hm rfl rfl ?_
          refine x_bipush hm rfl (v := nI 48) (by decide) ?_
          refine x_bipush hm rfl (v := nI 57) (by decide) ?_
          refine x_callS hm rfl rfl (t133) ?_
          refine x_if_eq hm rfl (t := 191) rfl (fun h4 => ?_) (fun h4 => ?_)
          · have hnd : ¬ dg8 T c b = true := fun q => bI_eq0.mp h4 ((by8_in hT1 h8 (by decide) (by decide)).mpr (of_decide_eq_true q))
            refine x_aload_n hm rfl rfl ?_
            refine x_iconst hm rfl (v := nI 3) (by decide) ?_
            refine x_putf hm rfl (pI rfl rfl (by decide) (by first | exact mFit_int | rfl | decide) rfl) ?_
            refine x_aload_n hm rfl rfl ?_
            refine x_dup hm rfl rfl ?_
            refine x_getf hm rfl (gI rfl rfl) ?_
            rw [mpf (by decide), mpf (by decide), mp0]
            refine x_iconst hm rfl (v := nI 1) (by decide) ?_
            refine x_iadd hm rfl ?_
            rw [jI_add]
            refine x_putf hm rfl (pI rfl rfl (by decide) (by first | exact mFit_int | rfl | decide) rfl) ?_
            refine x_ret hm rfl rfl ?_
            first
              | exact ⟨_, rfl, rfl, RT.nx (hL.trans (((Lx.put (M := M1) (x := 11) (v := nI b) (by decide) (by decide)).trans (Lx.put (x := 13) (v := nI 0) (by decide) (by decide))).trans (Lx.put (x := 12) (v := nI 0) (by decide) (by decide)))) hc9 hc1 hT h14 hec0 (pNx_0 hsk2 (fun q => hge ((by8_nn hT1 h8).mpr q))) (by rw [mpf (by decide), mpf (by decide), mpf (by decide)]; exact h10) (by rw [mpf (by decide), mpf (by decide)]; exact mp0) mp0 (by rw [mpf (by decide)]; exact mp0), hL.trans (((Lx.put (M := M1) (x := 11) (v := nI b) (by decide) (by decide)).trans (Lx.put (x := 13) (v := nI 0) (by decide) (by decide))).trans (Lx.put (x := 12) (v := nI 0) (by decide) (by decide)))⟩
              | exact ⟨_, rfl, rfl, RT.nx ((hL.trans (((Lx.put (M := M1) (x := 11) (v := nI b) (by decide) (by decide)).trans (Lx.put (x := 13) (v := nI 0) (by decide) (by decide))).trans (Lx.put (x := 12) (v := nI 3) (by decide) (by decide)))).trans (Lx.put (by decide) (by decide))) hc9 hc1 hT h14 hec0 (pNx_3 hsk2 hlt hnl hnd) (by rw [mpf (by decide), mpf (by decide), mpf (by decide), mpf (by decide)]; exact h10) mp0 (by rw [mpf (by decide)]; exact mp0) (by rw [mpf (by decide), mpf (by decide)]; exact mp0), (hL.trans (((Lx.put (M := M1) (x := 11) (v := nI b) (by decide) (by decide)).trans (Lx.put (x := 13) (v := nI 0) (by decide) (by decide))).trans (Lx.put (x := 12) (v := nI 3) (by decide) (by decide)))).trans (Lx.put (by decide) (by decide))⟩
          · have hdb : dg8 T c b = true := decide_eq_true ((by8_in hT1 h8 (by decide) (by decide)).mp (bI_ne0 h4))
            refine x_aload_n hm rfl rfl ?_
            refine x_iconst hm rfl (v := nI 2) (by decide) ?_
            refine x_putf hm rfl (pI rfl rfl (by decide) (by first | exact mFit_int | rfl | decide) rfl) ?_
            exact k221n hc9 hc1 hT h8 h14 hec0 hsk2 hlt hnl hdb _ b _ (Nat.lt_succ_self _) (Nat.le_refl _) hbc rfl (by rw [mpf (by decide), mpf (by decide), mpf (by decide)]; exact h10) (by rw [mpf (by decide), mpf (by decide)]; exact mp0) mp0 (by rw [mpf (by decide), mp0, Nat.sub_self]; rfl) (hL.trans (((Lx.put (M := M1) (x := 11) (v := nI b) (by decide) (by decide)).trans (Lx.put (x := 13) (v := nI 0) (by decide) (by decide))).trans (Lx.put (x := 12) (v := nI 2) (by decide) (by decide))))
        · have hlb : lt8 T c b = true := decide_eq_true ((by8_in hT1 h8 (by decide) (by decide)).mp (bI_ne0 h3))
          refine x_aload_n hm rfl rfl ?_
          refine x_iconst hm rfl (v := nI 1) (by decide) ?_
          refine x_putf hm rfl (pI rfl rfl (by decide) (by first | exact mFit_int | rfl | decide) rfl) ?_
          exact k221w hc9 hc1 hT h8 h14 hec0 hsk2 hlt hlb _ b _ (Nat.lt_succ_self _) (Nat.le_refl _) hbc rfl (by rw [mpf (by decide), mpf (by decide), mpf (by decide)]; exact h10) (by rw [mpf (by decide), mpf (by decide)]; exact mp0) mp0 (by rw [mpf (by decide)]; exact mp0) (hL.trans (((Lx.put (M := M1) (x := 11) (v := nI b) (by decide) (by decide)).trans (Lx.put (x := 13) (v := nI 0) (by decide) (by decide))).trans (Lx.put (x := 12) (v := nI 1) (by decide) (by decide))))
      · have hge : ¬ nI 0 ≤ by8 M1 c b := h2
        refine x_aload_n hm rfl rfl ?_
        refine x_iconst hm rfl (v := nI 0) (by decide) ?_
        refine x_putf hm rfl (pI rfl rfl (by decide) (by first | exact mFit_int | rfl | decide) rfl) ?_
        refine x_goto hm rfl (t := 206) rfl ?_
        refine x_ret hm rfl rfl ?_
        first
          | exact ⟨_, rfl, rfl, RT.nx (hL.trans (((Lx.put (M := M1) (x := 11) (v := nI b) (by decide) (by decide)).trans (Lx.put (x := 13) (v := nI 0) (by decide) (by decide))).trans (Lx.put (x := 12) (v := nI 0) (by decide) (by decide)))) hc9 hc1 hT h14 hec0 (pNx_0 hsk2 (fun q => hge ((by8_nn hT1 h8).mpr q))) (by rw [mpf (by decide), mpf (by decide), mpf (by decide)]; exact h10) (by rw [mpf (by decide), mpf (by decide)]; exact mp0) mp0 (by rw [mpf (by decide)]; exact mp0), hL.trans (((Lx.put (M := M1) (x := 11) (v := nI b) (by decide) (by decide)).trans (Lx.put (x := 13) (v := nI 0) (by decide) (by decide))).trans (Lx.put (x := 12) (v := nI 0) (by decide) (by decide)))⟩
          | exact ⟨_, rfl, rfl, RT.nx ((hL.trans (((Lx.put (M := M1) (x := 11) (v := nI b) (by decide) (by decide)).trans (Lx.put (x := 13) (v := nI 0) (by decide) (by decide))).trans (Lx.put (x := 12) (v := nI 3) (by decide) (by decide)))).trans (Lx.put (by decide) (by decide))) hc9 hc1 hT h14 hec0 (pNx_3 hsk2 hlt hnl hnd) (by rw [mpf (by decide), mpf (by decide), mpf (by decide), mpf (by decide)]; exact h10) mp0 (by rw [mpf (by decide)]; exact mp0) (by rw [mpf (by decide), mpf (by decide)]; exact mp0), (hL.trans (((Lx.put (M := M1) (x := 11) (v := nI b) (by decide) (by decide)).trans (Lx.put (x := 13) (v := nI 0) (by decide) (by decide))).trans (Lx.put (x := 12) (v := nI 3) (by decide) (by decide)))).trans (Lx.put (by decide) (by decide))⟩
    · have hs := (by8_sp hT1 h8).mp h1
      have hlt : b < c := (of_decide_eq_true hs).1
      refine x_aload_n hm rfl rfl ?_
      refine x_dup hm rfl rfl ?_
      refine x_getf hm rfl (gI rfl rfl) ?_
      rw [h10]
      refine x_iconst hm rfl (v := nI 1) (by decide) ?_
      refine x_iadd hm rfl ?_
      rw [jI_add]
      refine x_putf hm rfl (pI rfl rfl (by decide) (by first | exact mFit_int | rfl | decide) rfl) ?_
      refine x_goto hm rfl (t := 8) rfl ?_
      exact ih (b + 1) _ _ (by omega) (by omega) (by omega) (hsk.trans (w1_s hc1 sp8_n hs)) mp0 (hL.trans (Lx.put (by decide) (by decide)))
theorem k221 {e0 : Nat} (he : M 66 11 = nI e0) (hc9 : M 66 9 = nI c) (hc1 : c ≤ 120) (hT : ∀ k, k < c → M 73 k = nI (T k)) (h8 : ∀ k, k < c → T k < 256) (h14 : M 66 14 = nI 0) (hec0 : e0 ≤ c) : ∃ M', mT X 221 [.ref 66] (con M) none (con M') ∧ RT T c (pNx T c e0) M' ∧ Lx M M' := by
  refine tv_of (row := _) rfl (Nat.le_of_ble_eq_true rfl) ?_
  have hm : mMet 221 = some _ := rfl
  refine x_aload_n hm rfl rfl ?_
  refine x_aload_n hm rfl rfl ?_
  refine x_getf hm rfl (gI rfl rfl) ?_
  rw [he]
  refine x_putf hm rfl (pI rfl rfl (by decide) (by first | exact mFit_int | rfl | decide) rfl) ?_
  exact k221s hc9 hc1 hT h8 h14 hec0 _ e0 _ _ (Nat.lt_succ_self _) (Nat.le_refl _) hec0 rfl mp0 (Lx.put (by decide) (by decide))
theorem RT.wr {q : PS} (h : RT T c q M) (g : M 66 14 = nI 1 ∨ True) : RT T c (q.1, q.2.1, q.2.2.1, q.2.2.2.1, true) (mput M 66 14 (nI 1)) := by
  obtain ⟨h1, h2, h3, h4, h5, h6, h7, h8⟩ := h
  exact ⟨(mpf (by decide)).trans h1, (mpf (by decide)).trans h2, (mpf (by decide)).trans h3, (mpf (by decide)).trans h4, mp0, (mpf (by decide)).trans h6, fun k hk => (congrFun (mpo (by decide)) k).trans (h7 k hk), h8⟩
theorem RT.fw {q : PS} (h : RT T c q M) (g : ¬ M 66 14 = 0) : q.2.2.2.2 = true := by
  have e := h.2.2.2.2.1
  cases hq : q.2.2.2.2 with
  | true => rfl
  | false => rw [hq] at e; exact absurd e g
theorem RT.ff {q : PS} (h : RT T c q M) (g : M 66 14 = 0) : q.2.2.2.2 = false := by
  have e := h.2.2.2.2.1
  cases hq : q.2.2.2.2 with
  | false => rfl
  | true => rw [hq, g] at e; exact absurd e (by decide)
theorem k226 {q : PS} {x : Int32} (h : RT T c q M) (h8 : ∀ k, k < c → T k < 256) : ∃ M', mT X 226 [.ref 66, .int x] (con M) none (con M') ∧ RT T c (pMu T c q x) M' ∧ Ly M M' := by
  refine tv_of (row := _) rfl (Nat.le_of_ble_eq_true rfl) ?_
  have hm : mMet 226 = some _ := rfl
  refine x_aload_n hm rfl rfl ?_
  refine x_aload_n hm rfl rfl ?_
  refine x_getf hm rfl (gI rfl rfl) ?_
  refine x_if_ne hm rfl (t := 12) rfl (fun h1 => ?_) (fun h1 => ?_)
  · have hq : pMu T c q x = (q.1, q.2.1, q.2.2.1, q.2.2.2.1, true) := if_pos (Or.inl (h.fw h1))
    refine x_iconst hm rfl (v := nI 1) (by decide) ?_
    refine x_goto hm rfl (t := 17) rfl ?_
    refine x_putf hm rfl (pI rfl rfl (by decide) (by first | exact mFit_int | rfl | decide) rfl) ?_
    refine x_aload_n hm rfl rfl ?_
    refine x_getf hm rfl (gI rfl rfl) ?_
    rw [mp0]
    refine x_if_ne hm rfl (t := 31) rfl (fun h2 => ?_) (fun h2 => ?_)
    · refine x_ret hm rfl rfl ?_
      first
        | exact absurd (by decide : nI 0 = (0 : Int32)) (by assumption)
        | exact absurd (show nI 1 = (0 : Int32) by assumption) (by decide)
        | exact ⟨_, rfl, rfl, by rw [hq]; exact h.wr (Or.inr trivial), Ly.flag⟩
        | exact r1.elim
        | exact r2.elim
        | exact r3.elim
        | exact r4.elim
        | exact r5.elim
        | exact r6.elim
        | exact ⟨_, rfl, rfl, by rw [hq]; exact r1.1, Ly.flag.trans r1.2.ly⟩
        | exact ⟨_, rfl, rfl, by rw [hq]; exact r2.1, Ly.flag.trans r2.2.ly⟩
        | exact ⟨_, rfl, rfl, by rw [hq]; exact r3.1, Ly.flag.trans r3.2.ly⟩
        | exact ⟨_, rfl, rfl, by rw [hq]; exact r4.1, Ly.flag.trans r4.2.ly⟩
        | exact ⟨_, rfl, rfl, by rw [hq]; exact r5.1, Ly.flag.trans r5.2.ly⟩
        | exact ⟨_, rfl, rfl, by rw [hq]; exact r6.1, Ly.flag.trans r6.2.ly⟩
        | exact ⟨_, rfl, rfl, by rw [hq]; exact r7.1, Ly.flag.trans r7.2.ly⟩
        | exact ⟨_, rfl, rfl, by rw [hq]; exact r8.1, Ly.flag.trans r8.2.ly⟩
    · refine x_aload_n hm rfl rfl ?_
      refine x_cVv hm rfl rfl (by first | exact k221 ((mpf (by decide)).trans h.2.1) ((mpf (by decide)).trans h.2.2.2.2.2.1) h.2.2.2.2.2.2.2.1 (fun k hk => (congrFun (mpo (by decide)) k).trans (h.2.2.2.2.2.2.1 k hk)) h8 mp0 h.2.2.2.2.2.2.2.2.2.1 | exact (absurd (show (nI 1 : Int32) = 0 by assumption) (by decide) : ∃ M', mT X 221 [.ref 66] (con (mput M 66 14 (nI 1))) none (con M') ∧ (fun _ => False) M')) (fun M3 r3 => ?_)
      refine x_ret hm rfl rfl ?_
      first
        | exact r3.elim
        | exact ⟨_, rfl, rfl, by rw [hq]; exact r3.1, Ly.flag.trans r3.2.ly⟩
        | exact absurd (by decide : nI 0 = (0 : Int32)) (by assumption)
        | exact absurd (show nI 1 = (0 : Int32) by assumption) (by decide)
        | exact ⟨_, rfl, rfl, by rw [hq]; exact h.wr (Or.inr trivial), Ly.flag⟩
        | exact r1.elim
        | exact r2.elim
        | exact r4.elim
        | exact r5.elim
        | exact r6.elim
        | exact ⟨_, rfl, rfl, by rw [hq]; exact r1.1, Ly.flag.trans r1.2.ly⟩
        | exact ⟨_, rfl, rfl, by rw [hq]; exact r2.1, Ly.flag.trans r2.2.ly⟩
        | exact ⟨_, rfl, rfl, by rw [hq]; exact r4.1, Ly.flag.trans r4.2.ly⟩
        | exact ⟨_, rfl, rfl, by rw [hq]; exact r5.1, Ly.flag.trans r5.2.ly⟩
        | exact ⟨_, rfl, rfl, by rw [hq]; exact r6.1, Ly.flag.trans r6.2.ly⟩
        | exact ⟨_, rfl, rfl, by rw [hq]; exact r7.1, Ly.flag.trans r7.2.ly⟩
        | exact ⟨_, rfl, rfl, by rw [hq]; exact r8.1, Ly.flag.trans r8.2.ly⟩
  · have hf := h.ff h1
    refine x_iload_n hm rfl rfl ?_
    refine x_if_ne hm rfl (t := 16) rfl (fun h4 => ?_) (fun h4 => ?_)
    · have hq : pMu T c q x = pNx T c q.2.1 := if_neg (fun g => g.elim (fun g => absurd (hf.symm.trans g) (by decide)) h4)
      refine x_iconst hm rfl (v := nI 0) (by decide) ?_
      refine x_putf hm rfl (pI rfl rfl (by decide) (by first | exact mFit_int | rfl | decide) rfl) ?_
      refine x_aload_n hm rfl rfl ?_
      refine x_getf hm rfl (gI rfl rfl) ?_
      rw [mp0]
      refine x_if_ne hm rfl (t := 31) rfl (fun h5 => ?_) (fun h5 => ?_)
      · refine x_ret hm rfl rfl ?_
        first
          | exact absurd (by decide : nI 0 = (0 : Int32)) (by assumption)
          | exact absurd (show nI 1 = (0 : Int32) by assumption) (by decide)
          | exact ⟨_, rfl, rfl, by rw [hq]; exact h.wr (Or.inr trivial), Ly.flag⟩
          | exact r1.elim
          | exact r2.elim
          | exact r3.elim
          | exact r4.elim
          | exact r5.elim
          | exact r6.elim
          | exact ⟨_, rfl, rfl, by rw [hq]; exact r1.1, Ly.flag.trans r1.2.ly⟩
          | exact ⟨_, rfl, rfl, by rw [hq]; exact r2.1, Ly.flag.trans r2.2.ly⟩
          | exact ⟨_, rfl, rfl, by rw [hq]; exact r3.1, Ly.flag.trans r3.2.ly⟩
          | exact ⟨_, rfl, rfl, by rw [hq]; exact r4.1, Ly.flag.trans r4.2.ly⟩
          | exact ⟨_, rfl, rfl, by rw [hq]; exact r5.1, Ly.flag.trans r5.2.ly⟩
          | exact ⟨_, rfl, rfl, by rw [hq]; exact r6.1, Ly.flag.trans r6.2.ly⟩
          | exact ⟨_, rfl, rfl, by rw [hq]; exact r7.1, Ly.flag.trans r7.2.ly⟩
          | exact ⟨_, rfl, rfl, by rw [hq]; exact r8.1, Ly.flag.trans r8.2.ly⟩
      · refine x_aload_n hm rfl rfl ?_
        refine x_cVv hm rfl rfl (by first | exact k221 ((mpf (by decide)).trans h.2.1) ((mpf (by decide)).trans h.2.2.2.2.2.1) h.2.2.2.2.2.2.2.1 (fun k hk => (congrFun (mpo (by decide)) k).trans (h.2.2.2.2.2.2.1 k hk)) h8 mp0 h.2.2.2.2.2.2.2.2.2.1 | exact (absurd (show (nI 1 : Int32) = 0 by assumption) (by decide) : ∃ M', mT X 221 [.ref 66] (con (mput M 66 14 (nI 1))) none (con M') ∧ (fun _ => False) M')) (fun M6 r6 => ?_)
        refine x_ret hm rfl rfl ?_
        first
          | exact r6.elim
          | exact ⟨_, rfl, rfl, by rw [hq]; exact r6.1, Ly.flag.trans r6.2.ly⟩
          | exact absurd (by decide : nI 0 = (0 : Int32)) (by assumption)
          | exact absurd (show nI 1 = (0 : Int32) by assumption) (by decide)
          | exact ⟨_, rfl, rfl, by rw [hq]; exact h.wr (Or.inr trivial), Ly.flag⟩
          | exact r1.elim
          | exact r2.elim
          | exact r3.elim
          | exact r4.elim
          | exact r5.elim
          | exact ⟨_, rfl, rfl, by rw [hq]; exact r1.1, Ly.flag.trans r1.2.ly⟩
          | exact ⟨_, rfl, rfl, by rw [hq]; exact r2.1, Ly.flag.trans r2.2.ly⟩
          | exact ⟨_, rfl, rfl, by rw [hq]; exact r3.1, Ly.flag.trans r3.2.ly⟩
          | exact ⟨_, rfl, rfl, by rw [hq]; exact r4.1, Ly.flag.trans r4.2.ly⟩
          | exact ⟨_, rfl, rfl, by rw [hq]; exact r5.1, Ly.flag.trans r5.2.ly⟩
          | exact ⟨_, rfl, rfl, by rw [hq]; exact r7.1, Ly.flag.trans r7.2.ly⟩
          | exact ⟨_, rfl, rfl, by rw [hq]; exact r8.1, Ly.flag.trans r8.2.ly⟩
    · have hq : pMu T c q x = (q.1, q.2.1, q.2.2.1, q.2.2.2.1, true) := if_pos (Or.inr h4)
      refine x_iconst hm rfl (v := nI 1) (by decide) ?_
      refine x_goto hm rfl (t := 17) rfl ?_
      refine x_putf hm rfl (pI rfl rfl (by decide) (by first | exact mFit_int | rfl | decide) rfl) ?_
      refine x_aload_n hm rfl rfl ?_
      refine x_getf hm rfl (gI rfl rfl) ?_
      rw [mp0]
      refine x_if_ne hm rfl (t := 31) rfl (fun h7 => ?_) (fun h7 => ?_)
      · refine x_ret hm rfl rfl ?_
        first
          | exact absurd (by decide : nI 0 = (0 : Int32)) (by assumption)
          | exact absurd (show nI 1 = (0 : Int32) by assumption) (by decide)
          | exact ⟨_, rfl, rfl, by rw [hq]; exact h.wr (Or.inr trivial), Ly.flag⟩
          | exact r1.elim
          | exact r2.elim
          | exact r3.elim
          | exact r4.elim
          | exact r5.elim
          | exact r6.elim
          | exact ⟨_, rfl, rfl, by rw [hq]; exact r1.1, Ly.flag.trans r1.2.ly⟩
          | exact ⟨_, rfl, rfl, by rw [hq]; exact r2.1, Ly.flag.trans r2.2.ly⟩
          | exact ⟨_, rfl, rfl, by rw [hq]; exact r3.1, Ly.flag.trans r3.2.ly⟩
          | exact ⟨_, rfl, rfl, by rw [hq]; exact r4.1, Ly.flag.trans r4.2.ly⟩
          | exact ⟨_, rfl, rfl, by rw [hq]; exact r5.1, Ly.flag.trans r5.2.ly⟩
          | exact ⟨_, rfl, rfl, by rw [hq]; exact r6.1, Ly.flag.trans r6.2.ly⟩
          | exact ⟨_, rfl, rfl, by rw [hq]; exact r7.1, Ly.flag.trans r7.2.ly⟩
          | exact ⟨_, rfl, rfl, by rw [hq]; exact r8.1, Ly.flag.trans r8.2.ly⟩
      · refine x_aload_n hm rfl rfl ?_
        refine x_cVv hm rfl rfl (by first | exact k221 ((mpf (by decide)).trans h.2.1) ((mpf (by decide)).trans h.2.2.2.2.2.1) h.2.2.2.2.2.2.2.1 (fun k hk => (congrFun (mpo (by decide)) k).trans (h.2.2.2.2.2.2.1 k hk)) h8 mp0 h.2.2.2.2.2.2.2.2.2.1 | exact (absurd (show (nI 1 : Int32) = 0 by assumption) (by decide) : ∃ M', mT X 221 [.ref 66] (con (mput M 66 14 (nI 1))) none (con M') ∧ (fun _ => False) M')) (fun M8 r8 => ?_)
        refine x_ret hm rfl rfl ?_
        first
          | exact ⟨_, rfl, rfl, by rw [hq]; exact r8.1, Ly.flag.trans r8.2.ly⟩
          | exact absurd (by decide : nI 0 = (0 : Int32)) (by assumption)
          | exact absurd (show nI 1 = (0 : Int32) by assumption) (by decide)
          | exact ⟨_, rfl, rfl, by rw [hq]; exact h.wr (Or.inr trivial), Ly.flag⟩
          | exact r1.elim
          | exact r2.elim
          | exact r3.elim
          | exact r4.elim
          | exact r5.elim
          | exact r6.elim
          | exact ⟨_, rfl, rfl, by rw [hq]; exact r1.1, Ly.flag.trans r1.2.ly⟩
          | exact ⟨_, rfl, rfl, by rw [hq]; exact r2.1, Ly.flag.trans r2.2.ly⟩
          | exact ⟨_, rfl, rfl, by rw [hq]; exact r3.1, Ly.flag.trans r3.2.ly⟩
          | exact ⟨_, rfl, rfl, by rw [hq]; exact r4.1, Ly.flag.trans r4.2.ly⟩
          | exact ⟨_, rfl, rfl, by rw [hq]; exact r5.1, Ly.flag.trans r5.2.ly⟩
          | exact ⟨_, rfl, rfl, by rw [hq]; exact r6.1, Ly.flag.trans r6.2.ly⟩
          | exact ⟨_, rfl, rfl, by rw [hq]; exact r7.1, Ly.flag.trans r7.2.ly⟩
theorem k228 {q : PS} {hi : Int32} (h : RT T c q M) (h8 : ∀ k, k < c → T k < 256) : ∃ v M', mT X 228 [.ref 66, .int (nI 0), .int hi] (con M) (some (.int v)) (con M') ∧ v = nI q.2.2.2.1 ∧ RT T c (pNu T c q hi) M' ∧ Ly M M' := by
  refine ti_of (row := _) rfl (Nat.le_of_ble_eq_true rfl) ?_
  have hm : mMet 228 = some _ := rfl
  obtain ⟨a1, a2, a3, a4, a5, a6, a7, a8⟩ := id h
  refine x_aload_n hm rfl rfl ?_
  refine x_getf hm rfl (gI rfl rfl) ?_
  refine x_istore_n hm rfl rfl ?_
  refine x_aload_n hm rfl rfl ?_
  refine x_aload_n hm rfl rfl ?_
  refine x_getf hm rfl (gI rfl rfl) ?_
  rw [a3]
  refine x_iconst hm rfl (v := nI 2) (by decide) ?_
  refine x_icmp_ne hm rfl (t := 27) rfl (fun h1 => ?_) (fun h1 => ?_)
  · have hn2 : ¬ q.2.2.1 = 2 := fun e => h1 (by rw [e])
    have hq : pNu T c q hi = pMu T c q (nI 0) := congrArg (pMu T c q) (if_neg fun g => hn2 g.1)
    refine x_iconst hm rfl (v := nI 0) (by decide) ?_
    refine x_cVv hm rfl rfl (k226 h h8) (fun M2 r2 => ?_)
    refine x_iload_n hm rfl rfl ?_
    refine x_iret hm rfl rfl (by first | rfl | exact bI_nar | decide) ?_
    first
      | exact ⟨_, _, rfl, rfl, a4, by rw [hq]; exact r2.1, r2.2⟩
      | exact ⟨_, _, rfl, rfl, a4, by rw [hq]; exact r1.1, r1.2⟩
      | exact ⟨_, _, rfl, rfl, a4, by rw [hq]; exact r3.1, r3.2⟩
      | exact ⟨_, _, rfl, rfl, a4, by rw [hq]; exact r4.1, r4.2⟩
      | exact ⟨_, _, rfl, rfl, a4, by rw [hq]; exact r5.1, r5.2⟩
      | exact ⟨_, _, rfl, rfl, a4, by rw [hq]; exact r6.1, r6.2⟩
      | exact ⟨_, _, rfl, rfl, a4, by rw [hq]; exact r7.1, r7.2⟩
  · have h2 : q.2.2.1 = 2 := jI_inj (by have := a8.2.2.2.2.1; omega) (by decide) h1
    refine x_iload_n hm rfl rfl ?_
    refine x_iload_n hm rfl rfl ?_
    refine x_iload_n hm rfl rfl ?_
    refine x_callS hm rfl rfl (t133) ?_
    refine x_if_eq hm rfl (t := 27) rfl (fun h3 => ?_) (fun h3 => ?_)
    · have hq : pNu T c q hi = pMu T c q (nI 0) := congrArg (pMu T c q) (if_neg fun g => bI_eq0.mp h3 ⟨by rw [a4]; exact ge0 (by have := a8.2.2.2.2.2; omega), by rw [a4]; exact g.2⟩)
      refine x_iconst hm rfl (v := nI 0) (by decide) ?_
      refine x_cVv hm rfl rfl (k226 h h8) (fun M4 r4 => ?_)
      refine x_iload_n hm rfl rfl ?_
      refine x_iret hm rfl rfl (by first | rfl | exact bI_nar | decide) ?_
      first
        | exact ⟨_, _, rfl, rfl, a4, by rw [hq]; exact r4.1, r4.2⟩
        | exact ⟨_, _, rfl, rfl, a4, by rw [hq]; exact r1.1, r1.2⟩
        | exact ⟨_, _, rfl, rfl, a4, by rw [hq]; exact r2.1, r2.2⟩
        | exact ⟨_, _, rfl, rfl, a4, by rw [hq]; exact r3.1, r3.2⟩
        | exact ⟨_, _, rfl, rfl, a4, by rw [hq]; exact r5.1, r5.2⟩
        | exact ⟨_, _, rfl, rfl, a4, by rw [hq]; exact r6.1, r6.2⟩
        | exact ⟨_, _, rfl, rfl, a4, by rw [hq]; exact r7.1, r7.2⟩
    · have hq : pNu T c q hi = pMu T c q (nI 1) := congrArg (pMu T c q) (if_pos ⟨h2, by rw [← a4]; exact (bI_ne0 h3).2⟩)
      refine x_iconst hm rfl (v := nI 1) (by decide) ?_
      refine x_goto hm rfl (t := 28) rfl ?_
      refine x_cVv hm rfl rfl (k226 h h8) (fun M5 r5 => ?_)
      refine x_iload_n hm rfl rfl ?_
      refine x_iret hm rfl rfl (by first | rfl | exact bI_nar | decide) ?_
      first
        | exact ⟨_, _, rfl, rfl, a4, by rw [hq]; exact r5.1, r5.2⟩
        | exact ⟨_, _, rfl, rfl, a4, by rw [hq]; exact r1.1, r1.2⟩
        | exact ⟨_, _, rfl, rfl, a4, by rw [hq]; exact r2.1, r2.2⟩
        | exact ⟨_, _, rfl, rfl, a4, by rw [hq]; exact r3.1, r3.2⟩
        | exact ⟨_, _, rfl, rfl, a4, by rw [hq]; exact r4.1, r4.2⟩
        | exact ⟨_, _, rfl, rfl, a4, by rw [hq]; exact r6.1, r6.2⟩
        | exact ⟨_, _, rfl, rfl, a4, by rw [hq]; exact r7.1, r7.2⟩
theorem wd_c {T : Nat → Nat} {q : PS} {t k : Nat} (h : ∀ j, j < k → T (q.1 + j) = (mTx.getD t []).getD j 0) (h2 : T (q.1 + k) = (mTx.getD t []).getD k 0) : ∀ j, j < k + 1 → T (q.1 + j) = (mTx.getD t []).getD j 0 := by
  intro j hj
  rcases Nat.lt_or_ge j k with g | g
  · exact h j g
  · obtain rfl : j = k := by omega
    exact h2
theorem ch_lt {t k : Nat} (ht : t < 15) : (mTx.getD t []).getD k 0 < 256 := by
  have e : ∀ t, t < 15 → (mTx.getD t []).all (fun x => decide (x < 256)) = true := by decide +kernel
  have h := List.all_eq_true.mp (e t ht)
  rw [List.getD_eq_getElem?_getD]
  cases hg : (mTx.getD t [])[k]? with
  | none => exact (by decide : (0 : Nat) < 256)
  | some x => exact of_decide_eq_true (h x (List.mem_of_getElem? hg))
theorem k225l {q : PS} {t : Nat} (h : RT T c q M) (h8 : ∀ k, k < c → T k < 256) (ht : t < 15) : ∀ (n k : Nat) (g : Int32), (mTx.getD t []).length - k < n → k ≤ (mTx.getD t []).length → ((g = nI 0 ∧ ¬ pWd T q t) ∨ (g = nI 1 ∧ q.2.2.1 = 1 ∧ q.2.1 - q.1 = (mTx.getD t []).length ∧ ∀ j, j < k → T (q.1 + j) = (mTx.getD t []).getD j 0)) → mEv X (QE M (fun v => v = bI (pWd T q t))) 225 32 [some (.ref 66), some (.ref (1000000 + t)), some (.int g), some (.int (nI k))] [] (con M) := by
  have hm : mMet 225 = some _ := rfl
  intro n
  induction n with
  | zero =>
    intro k g hkn hkb hg
    omega
  | succ n ih =>
    intro k g hkn hkb hg
    have hle := mTx_le t
    have h01 : g = nI 0 ∨ g = nI 1 := hg.imp (fun z => z.1) (fun z => z.1)
    obtain ⟨a1, a2, a3, a4, a5, a6, a7, b1, b2, b3, b4, b5, b6⟩ := id h
    refine x_iload_n hm rfl rfl ?_
    refine x_aload_n hm rfl rfl ?_
    refine x_libV hm rfl (len_call ht rfl) ?_
    dsimp only
    refine x_icmp_ge hm rfl (t := 75) rfl (fun h1 => ?_) (fun h1 => ?_)
    · have hkl : (mTx.getD t []).length ≤ k := (jI_le (by omega) (by omega)).mp h1
      refine x_iload_n hm rfl rfl ?_
      refine x_iret hm rfl rfl (nar01 h01) ?_
      first
        | exact ⟨_, rfl, rfl, by rcases hg with ⟨rfl, hg⟩ | ⟨rfl, hg1, hg2, hg3⟩; exact bI_f hg; exact bI_t ⟨hg1, hg2, fun j hj => hg3 j (by omega)⟩⟩
        | exact ⟨_, rfl, rfl, by rcases hg with ⟨rfl, hg⟩ | ⟨rfl, -⟩; exact bI_f hg; exact absurd hg0 (by decide)⟩ --stop
    · have hk : k < (mTx.getD t []).length := Nat.lt_of_not_le fun h => h1 (nI_le h (by omega))
      refine x_iload_n hm rfl rfl ?_
      refine x_if_eq hm rfl (t := 75) rfl (fun h2 => ?_) (fun h2 => ?_)
      · have hg0 := h2
        refine x_iload_n hm rfl rfl ?_
        refine x_iret hm rfl rfl (nar01 h01) ?_
        first
          | exact ⟨_, rfl, rfl, by rcases hg with ⟨rfl, hg⟩ | ⟨rfl, hg1, hg2, hg3⟩; exact bI_f hg; exact bI_t ⟨hg1, hg2, fun j hj => hg3 j (by omega)⟩⟩
          | exact ⟨_, rfl, rfl, by rcases hg with ⟨rfl, hg⟩ | ⟨rfl, -⟩; exact bI_f hg; exact absurd hg0 (by decide)⟩ --stop
      · obtain ⟨hg1, hs1, hlen, hch⟩ := hg.resolve_left (fun q => h2 (by rw [q.1]; rfl))
        have hkc : q.1 + k < c := by omega
        have hx1 := ch_lt (k := k) ht
        have hx2 := h8 _ hkc
        refine x_aload_n hm rfl rfl ?_
        refine x_getf hm rfl (gR rfl rfl) ?_
        refine x_aload_n hm rfl rfl ?_
        refine x_getf hm rfl (gI rfl rfl) ?_
        rw [a1]
        refine x_iload_n hm rfl rfl ?_
        refine x_iadd hm rfl ?_
        rw [jI_add]
        refine x_iald hm rfl (lI rfl (by omega) (by decide)) ?_
        rw [a7 _ hkc]
        refine x_aload_n hm rfl rfl ?_
        refine x_iload_n hm rfl rfl ?_
        refine x_libV hm rfl (chr_call ht rfl hk) ?_
        dsimp only
        refine x_icmp_ne hm rfl (t := 67) rfl (fun h3 => ?_) (fun h3 => ?_)
        · have hno : ¬ pWd T q t := fun z => h3 (by rw [z.2.2 k hk])
          refine x_iconst hm rfl (v := nI 0) (by decide) ?_
          refine x_istore_n hm rfl rfl ?_
          refine x_iinc hm rfl rfl (v := nI 1) (by decide) rfl ?_
          rw [jI_add]
          refine x_goto hm rfl (t := 32) rfl ?_
          exact ih _ _ (by omega) (by omega) (by first | exact Or.inl ⟨rfl, hno⟩ | exact Or.inr ⟨rfl, hs1, hlen, wd_c hch hyes⟩)
        · have hyes := jI_inj (by omega) (by omega) h3
          refine x_iconst hm rfl (v := nI 1) (by decide) ?_
          refine x_goto hm rfl (t := 68) rfl ?_
          refine x_istore_n hm rfl rfl ?_
          refine x_iinc hm rfl rfl (v := nI 1) (by decide) rfl ?_
          rw [jI_add]
          refine x_goto hm rfl (t := 32) rfl ?_
          exact ih _ _ (by omega) (by omega) (by first | exact Or.inl ⟨rfl, hno⟩ | exact Or.inr ⟨rfl, hs1, hlen, wd_c hch hyes⟩)
theorem k225 {q : PS} {t : Nat} (h : RT T c q M) (h8 : ∀ k, k < c → T k < 256) (ht : t < 15) : ∃ v, mT X 225 [.ref 66, .ref (1000000 + t)] (con M) (some (.int v)) (con M) ∧ v = bI (pWd T q t) := by
  refine te_of (row := _) rfl (Nat.le_of_ble_eq_true rfl) ?_
  have hm : mMet 225 = some _ := rfl
  have hle := mTx_le t
  obtain ⟨a1, a2, a3, a4, a5, a6, a7, b1, b2, b3, b4, b5, b6⟩ := id h
  refine x_aload_n hm rfl rfl ?_
  refine x_getf hm rfl (gI rfl rfl) ?_
  refine x_iconst hm rfl (v := nI 1) (by decide) ?_
  refine x_icmp_ne hm rfl (t := 28) rfl (fun h1 => ?_) (fun h1 => ?_)
  · have hno : ¬ pWd T q t := fun z => h1 (by rw [a3, z.1])
    refine x_iconst hm rfl (v := nI 0) (by decide) ?_
    refine x_istore_n hm rfl rfl ?_
    refine x_iconst hm rfl (v := nI 0) (by decide) ?_
    refine x_istore_n hm rfl rfl ?_
    first
      | exact k225l h h8 ht _ 0 _ (Nat.lt_succ_self _) (Nat.zero_le _) (Or.inl ⟨rfl, hno⟩)
      | exact k225l h h8 ht _ 0 _ (Nat.lt_succ_self _) (Nat.zero_le _) (Or.inr ⟨rfl, hs1, hlen, fun j hj => absurd hj (Nat.not_lt_zero j)⟩)
  · have hs1 : q.2.2.1 = 1 := jI_inj (by omega) (by decide) (a3.symm.trans h1)
    refine x_aload_n hm rfl rfl ?_
    refine x_getf hm rfl (gI rfl rfl) ?_
    rw [a2]
    refine x_aload_n hm rfl rfl ?_
    refine x_getf hm rfl (gI rfl rfl) ?_
    rw [a1]
    refine x_isub hm rfl ?_
    rw [subI b2]
    refine x_aload_n hm rfl rfl ?_
    refine x_libV hm rfl (len_call ht rfl) ?_
    dsimp only
    refine x_icmp_ne hm rfl (t := 28) rfl (fun h2 => ?_) (fun h2 => ?_)
    · have hno : ¬ pWd T q t := fun z => h2 (by rw [z.2.1])
      refine x_iconst hm rfl (v := nI 0) (by decide) ?_
      refine x_istore_n hm rfl rfl ?_
      refine x_iconst hm rfl (v := nI 0) (by decide) ?_
      refine x_istore_n hm rfl rfl ?_
      first
        | exact k225l h h8 ht _ 0 _ (Nat.lt_succ_self _) (Nat.zero_le _) (Or.inl ⟨rfl, hno⟩)
        | exact k225l h h8 ht _ 0 _ (Nat.lt_succ_self _) (Nat.zero_le _) (Or.inr ⟨rfl, hs1, hlen, fun j hj => absurd hj (Nat.not_lt_zero j)⟩)
    · have hlen := jI_inj (by omega) (by omega) h2
      refine x_iconst hm rfl (v := nI 1) (by decide) ?_
      refine x_goto hm rfl (t := 29) rfl ?_
      refine x_istore_n hm rfl rfl ?_
      refine x_iconst hm rfl (v := nI 0) (by decide) ?_
      refine x_istore_n hm rfl rfl ?_
      first
        | exact k225l h h8 ht _ 0 _ (Nat.lt_succ_self _) (Nat.zero_le _) (Or.inl ⟨rfl, hno⟩)
        | exact k225l h h8 ht _ 0 _ (Nat.lt_succ_self _) (Nat.zero_le _) (Or.inr ⟨rfl, hs1, hlen, fun j hj => absurd hj (Nat.not_lt_zero j)⟩)
theorem k224l {q : PS} (h : RT T c q M) (h8 : ∀ k, k < c → T k < 256) : ∀ (n k : Nat) (g : Int32), 7 - k < n → k ≤ 7 → g = pKd T q k → mEv X (QE M (fun v => v = pKd T q 7)) 224 4 [some (.ref 66), some (.int g), some (.int (nI k))] [] (con M) := by
  have hm : mMet 224 = some _ := rfl
  intro n
  induction n with
  | zero =>
    intro k g hkn hkb hg
    omega
  | succ n ih =>
    intro k g hkn hkb hg
    refine x_iload_n hm rfl rfl ?_
    refine x_aload_n hm rfl rfl ?_
    refine x_getf hm rfl (gR rfl rfl) ?_
    refine x_alen hm rfl (gLen _ rfl rfl) ?_
    refine x_icmp_ge hm rfl (t := 38) rfl (fun h1 => ?_) (fun h1 => ?_)
    · obtain rfl : k = 7 := Nat.le_antisymm hkb ((jI_le (by decide) (by omega)).mp h1)
      refine x_iload_n hm rfl rfl ?_
      refine x_iret hm rfl rfl (by first | rfl | exact bI_nar | decide) ?_
      exact ⟨_, rfl, rfl, hg⟩
    · have hk : k < 7 := Nat.lt_of_not_le fun h => h1 (nI_le h (by omega))
      refine x_aload_n hm rfl rfl ?_
      refine x_aload_n hm rfl rfl ?_
      refine x_getf hm rfl (gR rfl rfl) ?_
      refine x_iload_n hm rfl rfl ?_
      refine x_aald (v := .ref (1000000 + kt k)) hm rfl ?_ ?_
      · exact lQ 4 (Or.inr (Or.inr rfl)) rfl (knk hk) hk (by decide)
      refine x_cVe hm rfl rfl (k225 h h8 (kt_lt hk)) (fun v2 r2 => ?_)
      first
        | rw [r2]
        | rw [r8]
        | rw [r7]
        | rw [r6]
        | rw [r5]
        | rw [r4]
        | rw [r3]
        | rw [r1]
      refine x_if_eq hm rfl (t := 30) rfl (fun h3 => ?_) (fun h3 => ?_)
      · have hq : pKd T q (k + 1) = pKd T q k := if_neg (bI_eq0.mp h3)
        refine x_iload_n hm rfl rfl ?_
        refine x_istore_n hm rfl rfl ?_
        refine x_iinc hm rfl rfl (v := nI 1) (by decide) rfl ?_
        rw [jI_add]
        refine x_goto hm rfl (t := 4) rfl ?_
        first
          | exact ih _ _ (by omega) (by omega) (hg.trans hq.symm)
          | exact ih _ _ (by omega) (by omega) hq.symm
      · have hq : pKd T q (k + 1) = nI k := if_pos (bI_ne0 h3)
        refine x_iload_n hm rfl rfl ?_
        refine x_goto hm rfl (t := 31) rfl ?_
        refine x_istore_n hm rfl rfl ?_
        refine x_iinc hm rfl rfl (v := nI 1) (by decide) rfl ?_
        rw [jI_add]
        refine x_goto hm rfl (t := 4) rfl ?_
        first
          | exact ih _ _ (by omega) (by omega) (hg.trans hq.symm)
          | exact ih _ _ (by omega) (by omega) hq.symm
theorem k224 {q : PS} (h : RT T c q M) (h8 : ∀ k, k < c → T k < 256) : ∃ v, mT X 224 [.ref 66] (con M) (some (.int v)) (con M) ∧ v = pKd T q 7 := by
  refine te_of (row := _) rfl (Nat.le_of_ble_eq_true rfl) ?_
  have hm : mMet 224 = some _ := rfl
  refine x_iconst hm rfl (v := (-1 : Int32)) (by decide) ?_
  refine x_istore_n hm rfl rfl ?_
  refine x_iconst hm rfl (v := nI 0) (by decide) ?_
  refine x_istore_n hm rfl rfl ?_
  exact k224l h h8 _ 0 _ (Nat.lt_succ_self _) (Nat.zero_le _) rfl
theorem k227 {q : PS} {t : Nat} {w hi : Int32} (h : RT T c q M) (h8 : ∀ k, k < c → T k < 256) (ht : t < 15) : ∃ v M', mT X 227 [.ref 66, .ref (1000000 + t), .int w, .int (nI 0), .int hi] (con M) (some (.int v)) (con M') ∧ v = (pAf T c q t w hi).1 ∧ RT T c (pAf T c q t w hi).2 M' ∧ Ly M M' := by
  refine ti_of (row := _) rfl (Nat.le_of_ble_eq_true rfl) ?_
  have hm : mMet 227 = some _ := rfl
  refine x_aload_n hm rfl rfl ?_
  refine x_getf hm rfl (gI rfl rfl) ?_
  refine x_if_ne hm rfl (t := 15) rfl (fun h1 => ?_) (fun h1 => ?_)
  · have hq : pAf T c q t w hi = (w, q) := if_pos (Or.inl (h.fw h1))
    refine x_iload_n hm rfl rfl ?_
    refine x_iret hm rfl rfl (by first | rfl | exact bI_nar | decide) ?_
    first
      | exact ⟨_, _, rfl, rfl, by rw [hq], by rw [hq]; exact h, Ly.rf⟩
      | exact ⟨_, _, rfl, rfl, by rw [hq]; exact r3.1, by rw [hq]; exact r3.2.1, r2.2.trans r3.2.2⟩
      | exact ⟨_, _, rfl, rfl, by rw [hq]; exact r4.1, by rw [hq]; exact r4.2.1, r2.2.trans r4.2.2⟩
      | exact ⟨_, _, rfl, rfl, by rw [hq]; exact r4.1, by rw [hq]; exact r4.2.1, r3.2.trans r4.2.2⟩
      | exact ⟨_, _, rfl, rfl, by rw [hq]; exact r5.1, by rw [hq]; exact r5.2.1, r3.2.trans r5.2.2⟩
      | exact ⟨_, _, rfl, rfl, by rw [hq]; exact r5.1, by rw [hq]; exact r5.2.1, r4.2.trans r5.2.2⟩
      | exact ⟨_, _, rfl, rfl, by rw [hq]; exact r6.1, by rw [hq]; exact r6.2.1, r4.2.trans r6.2.2⟩
      | exact ⟨_, _, rfl, rfl, by rw [hq]; exact r6.1, by rw [hq]; exact r6.2.1, r5.2.trans r6.2.2⟩
      | exact ⟨_, _, rfl, rfl, by rw [hq]; exact r7.1, by rw [hq]; exact r7.2.1, r5.2.trans r7.2.2⟩
  · have hf := h.ff h1
    refine x_aload_n hm rfl rfl ?_
    refine x_aload_n hm rfl rfl ?_
    refine x_cVe hm rfl rfl (k225 h h8 ht) (fun v2 r2 => ?_)
    first
      | rw [r2]
      | rw [r8]
      | rw [r7]
      | rw [r6]
      | rw [r5]
      | rw [r4]
      | rw [r3]
      | rw [r1]
    refine x_if_ne hm rfl (t := 17) rfl (fun h3 => ?_) (fun h3 => ?_)
    · have hq : pAf T c q t w hi = (nI (pMu T c q (nI 1)).2.2.2.1, pNu T c (pMu T c q (nI 1)) hi) := if_neg (fun g => g.elim (fun g => absurd (hf.symm.trans g) (by decide)) (fun g => g (bI_ne0 h3)))
      refine x_aload_n hm rfl rfl ?_
      refine x_iconst hm rfl (v := nI 1) (by decide) ?_
      refine x_cVv hm rfl rfl (k226 h h8) (fun M4 r4 => ?_)
      refine x_aload_n hm rfl rfl ?_
      refine x_iload_n hm rfl rfl ?_
      refine x_iload hm rfl rfl ?_
      refine x_cVi hm rfl rfl (by first | exact k228 r2.1 h8 | exact k228 r3.1 h8 | exact k228 r4.1 h8 | exact k228 r5.1 h8) (fun v5 M5 r5 => ?_)
      refine x_iret hm rfl rfl (by first | rfl | exact bI_nar | decide) ?_
      first
        | exact ⟨_, _, rfl, rfl, by rw [hq]; exact r5.1, by rw [hq]; exact r5.2.1, r4.2.trans r5.2.2⟩
        | exact ⟨_, _, rfl, rfl, by rw [hq], by rw [hq]; exact h, Ly.rf⟩
        | exact ⟨_, _, rfl, rfl, by rw [hq]; exact r4.1, by rw [hq]; exact r4.2.1, r2.2.trans r4.2.2⟩
        | exact ⟨_, _, rfl, rfl, by rw [hq]; exact r3.1, by rw [hq]; exact r3.2.1, r2.2.trans r3.2.2⟩
        | exact ⟨_, _, rfl, rfl, by rw [hq]; exact r4.1, by rw [hq]; exact r4.2.1, r3.2.trans r4.2.2⟩
        | exact ⟨_, _, rfl, rfl, by rw [hq]; exact r5.1, by rw [hq]; exact r5.2.1, r3.2.trans r5.2.2⟩
        | exact ⟨_, _, rfl, rfl, by rw [hq]; exact r6.1, by rw [hq]; exact r6.2.1, r4.2.trans r6.2.2⟩
        | exact ⟨_, _, rfl, rfl, by rw [hq]; exact r6.1, by rw [hq]; exact r6.2.1, r5.2.trans r6.2.2⟩
        | exact ⟨_, _, rfl, rfl, by rw [hq]; exact r7.1, by rw [hq]; exact r7.2.1, r5.2.trans r7.2.2⟩
    · have hq : pAf T c q t w hi = (w, q) := if_pos (Or.inr (bI_eq0.mp (by first | exact h3 | exact Classical.byContradiction h3)))
      refine x_iload_n hm rfl rfl ?_
      refine x_iret hm rfl rfl (by first | rfl | exact bI_nar | decide) ?_
      first
        | exact ⟨_, _, rfl, rfl, by rw [hq], by rw [hq]; exact h, Ly.rf⟩
        | exact ⟨_, _, rfl, rfl, by rw [hq]; exact r3.1, by rw [hq]; exact r3.2.1, r2.2.trans r3.2.2⟩
        | exact ⟨_, _, rfl, rfl, by rw [hq]; exact r4.1, by rw [hq]; exact r4.2.1, r2.2.trans r4.2.2⟩
        | exact ⟨_, _, rfl, rfl, by rw [hq]; exact r4.1, by rw [hq]; exact r4.2.1, r3.2.trans r4.2.2⟩
        | exact ⟨_, _, rfl, rfl, by rw [hq]; exact r5.1, by rw [hq]; exact r5.2.1, r3.2.trans r5.2.2⟩
        | exact ⟨_, _, rfl, rfl, by rw [hq]; exact r5.1, by rw [hq]; exact r5.2.1, r4.2.trans r5.2.2⟩
        | exact ⟨_, _, rfl, rfl, by rw [hq]; exact r6.1, by rw [hq]; exact r6.2.1, r4.2.trans r6.2.2⟩
        | exact ⟨_, _, rfl, rfl, by rw [hq]; exact r6.1, by rw [hq]; exact r6.2.1, r5.2.trans r6.2.2⟩
        | exact ⟨_, _, rfl, rfl, by rw [hq]; exact r7.1, by rw [hq]; exact r7.2.1, r5.2.trans r7.2.2⟩
end RT
end
section
/-! ===== texts: items ===== -/
def itm (a b c d e f g : Int32) : Nat → Int32 := fun j => if j = 0 then a else if j = 1 then b else if j = 2 then c else if j = 3 then d else if j = 4 then e else if j = 5 then f else g
/-- likings read: the word and so many numbers behind it -/
def pL (T : Nat → Nat) (c : Nat) (q : PS) : Nat → PS
  | 0 => pMu T c q (nI 1)
  | i + 1 => pNu T c (pL T c q i) (nI 9)
def pP1 (T : Nat → Nat) (c : Nat) (q : PS) (pn : Nat) : PS := pMu T c q (if pn < 8 then nI 1 else nI 0)
noncomputable def pP2 (T : Nat → Nat) (c : Nat) (q : PS) (pn : Nat) : Int32 × PS := pAf T c (pP1 T c q pn) 8 (nI 0) (nI 15)
noncomputable def pP3 (T : Nat → Nat) (c : Nat) (q : PS) (pn : Nat) : Int32 × PS := pAf T c (pP2 T c q pn).2 9 (nI 1) (nI 15)
abbrev noL (T : Nat → Nat) (q : PS) : Prop := q.2.2.2.2 = true ∨ ¬ pWd T q 10
noncomputable def pPer (T : Nat → Nat) (c : Nat) (q : PS) (k : Int32) (pn : Nat) : (Nat → Int32) × PS :=
  if noL T (pP3 T c q pn).2 then (itm k (pP2 T c q pn).1 (pP3 T c q pn).1 (nI 1) (nI 1) (nI 1) (nI 1), (pP3 T c q pn).2)
  else (itm k (pP2 T c q pn).1 (pP3 T c q pn).1 (nI (pL T c (pP3 T c q pn).2 0).2.2.2.1) (nI (pL T c (pP3 T c q pn).2 1).2.2.2.1) (nI (pL T c (pP3 T c q pn).2 2).2.2.2.1) (nI (pL T c (pP3 T c q pn).2 3).2.2.2.1), pL T c (pP3 T c q pn).2 4)
noncomputable def pT1 (T : Nat → Nat) (c : Nat) (q : PS) (tn : Nat) : PS := pMu T c q (if pWd T q 0 ∧ tn < 8 then nI 1 else nI 0)
noncomputable def pT2 (T : Nat → Nat) (c : Nat) (q : PS) (tn : Nat) : PS := pNu T c (pT1 T c q tn) (nI 3)
noncomputable def pT3 (T : Nat → Nat) (c : Nat) (q : PS) (tn : Nat) : Int32 × PS := pAf T c (pT2 T c q tn) 8 (nI 0) (nI 15)
noncomputable def pT4 (T : Nat → Nat) (c : Nat) (q : PS) (tn : Nat) : Int32 × PS := pAf T c (pT3 T c q tn).2 11 (nI 100) (nI 999)
noncomputable def pT5 (T : Nat → Nat) (c : Nat) (q : PS) (tn : Nat) : Int32 × PS := pAf T c (pT4 T c q tn).2 12 (nI 0) (nI 9)
noncomputable def pT6 (T : Nat → Nat) (c : Nat) (q : PS) (tn pn : Nat) : Int32 × PS := pAf T c (pT5 T c q tn).2 13 (-1) (nI pn - nI 1)
noncomputable def pT7 (T : Nat → Nat) (c : Nat) (q : PS) (tn pn : Nat) : Int32 × PS := pAf T c (pT6 T c q tn pn).2 14 (-1) (nI tn - nI 1)
noncomputable def pThg (T : Nat → Nat) (c : Nat) (q : PS) (tn pn : Nat) : (Nat → Int32) × PS :=
  (itm (nI 10) (nI (pT1 T c q tn).2.2.2.1) (pT3 T c q tn).1 (pT4 T c q tn).1 (pT5 T c q tn).1 (pT6 T c q tn pn).1 (pT7 T c q tn pn).1, (pT7 T c q tn pn).2)
/-- an item, how many things and people there are then, where the reading stands -/
noncomputable def pItem (T : Nat → Nat) (c : Nat) (q : PS) (tn pn : Nat) : (Nat → Int32) × Nat × Nat × PS :=
  if pKd T q 7 < 0 then ((pThg T c q tn pn).1, tn + 1, pn, (pThg T c q tn pn).2) else ((pPer T c q (pKd T q 7) pn).1, tn, pn + 1, (pPer T c q (pKd T q 7) pn).2)
/-- an item is sound -/
def OkI (tn pn : Nat) (it : Nat → Int32) : Prop :=
  (∃ k, k < 7 ∧ it 0 = nI k ∧ pn < 8 ∧ Le 15 (it 1) ∧ Le 15 (it 2) ∧ Le 9 (it 3) ∧ Le 9 (it 4) ∧ Le 9 (it 5) ∧ Le 9 (it 6))
  ∨ (it 0 = nI 10 ∧ tn < 8 ∧ Le 3 (it 1) ∧ Le 15 (it 2) ∧ Le 999 (it 3) ∧ Le 9 (it 4) ∧ Lo pn (it 5) ∧ Lo tn (it 6))
section PZ
variable {T : Nat → Nat} {c tn pn : Nat} {q : PS}
theorem pKd_k : ∀ k, k ≤ 7 → pKd T q k = -1 ∨ ∃ j, j < k ∧ pKd T q k = nI j ∧ pWd T q (kt j) := by
  intro k
  induction k with
  | zero => intro _; exact Or.inl rfl
  | succ k ih =>
    intro hk
    by_cases h : pWd T q (kt k)
    · exact Or.inr ⟨k, Nat.lt_succ_self _, if_pos h, h⟩
    · rw [show pKd T q (k + 1) = pKd T q k from if_neg h]
      exact (ih (by omega)).imp id fun ⟨j, a, b⟩ => ⟨j, by omega, b⟩
theorem pKd_nn (h : ¬ pKd T q 7 < 0) : ∃ j, j < 7 ∧ pKd T q 7 = nI j ∧ pWd T q (kt j) := by
  rcases pKd_k (T := T) (q := q) 7 (Nat.le_refl _) with e | e
  · exact absurd (by rw [e]; decide) h
  · exact e
theorem pL_pk (h : Pk c q) : ∀ i, Pk c (pL T c q i) := by
  intro i
  induction i with
  | zero => exact (pMu_pk h).1
  | succ i ih => exact (pNu_pk ih).1
theorem le_v {n v : Nat} (hn : n ≤ 2000) (hv : v ≤ 1000) (h : nI v ≤ nI n) : Le n (nI v) := ⟨v, (jI_le (by omega) (by omega)).mp h, rfl⟩
theorem pAf_le {t n : Nat} {w : Int32} (hp : Pk c q) (hn : n ≤ 2000) (hw : Le n w) (g : (pAf T c q t w (nI n)).2.2.2.2.2 = false) : q.2.2.2.2 = false ∧ Le n (pAf T c q t w (nI n)).1 := by
  obtain ⟨g1, g2⟩ := pAf_ok hp g
  refine ⟨g1, ?_⟩
  rcases g2 with e | ⟨k, hk, e, h⟩
  · rw [e]; exact hw
  · rw [e]; exact le_v hn hk h
theorem pAf_lo {t n : Nat} (hp : Pk c q) (hn : n ≤ 8) (g : (pAf T c q t (-1) (nI n - nI 1)).2.2.2.2.2 = false) : q.2.2.2.2 = false ∧ Lo n (pAf T c q t (-1) (nI n - nI 1)).1 := by
  obtain ⟨g1, g2⟩ := pAf_ok hp g
  refine ⟨g1, ?_⟩
  rcases g2 with e | ⟨k, hk, e, h⟩
  · exact Or.inl e
  · refine Or.inr (in_k rfl (by omega) ⟨?_, by rw [e]; exact h⟩)
    rw [e]
    exact (jI_le (by decide) (by omega)).mpr (Nat.zero_le _)
theorem pP1_pk (h : Pk c q) : Pk c (pP1 T c q pn) := (pMu_pk h).1
theorem pP2_pk (h : Pk c q) : Pk c (pP2 T c q pn).2 := (pAf_pk (pP1_pk h)).1
theorem pP3_pk (h : Pk c q) : Pk c (pP3 T c q pn).2 := (pAf_pk (pP2_pk h)).1
theorem pT1_pk (h : Pk c q) : Pk c (pT1 T c q tn) := (pMu_pk h).1
theorem pT2_pk (h : Pk c q) : Pk c (pT2 T c q tn) := (pNu_pk (pT1_pk h)).1
theorem pT3_pk (h : Pk c q) : Pk c (pT3 T c q tn).2 := (pAf_pk (pT2_pk h)).1
theorem pT4_pk (h : Pk c q) : Pk c (pT4 T c q tn).2 := (pAf_pk (pT3_pk h)).1
theorem pT5_pk (h : Pk c q) : Pk c (pT5 T c q tn).2 := (pAf_pk (pT4_pk h)).1
theorem pT6_pk (h : Pk c q) : Pk c (pT6 T c q tn pn).2 := (pAf_pk (pT5_pk h)).1
theorem pT7_pk (h : Pk c q) : Pk c (pT7 T c q tn pn).2 := (pAf_pk (pT6_pk h)).1
theorem pItem_pk (h : Pk c q) : Pk c (pItem T c q tn pn).2.2.2 := by
  unfold pItem
  split
  · exact pT7_pk h
  · show Pk c (pPer T c q (pKd T q 7) pn).2
    unfold pPer
    split
    · exact pP3_pk h
    · exact pL_pk (pP3_pk h) 4
theorem pItem_ok (h : Pk c q) (ht : tn ≤ 8) (hp : pn ≤ 8) (g : (pItem T c q tn pn).2.2.2.2.2.2.2 = false) : OkI tn pn (pItem T c q tn pn).1 := by
  by_cases e : pKd T q 7 < 0
  · have eq : pItem T c q tn pn = ((pThg T c q tn pn).1, tn + 1, pn, (pThg T c q tn pn).2) := if_pos e
    rw [eq] at g ⊢
    obtain ⟨g7, v7⟩ := pAf_lo (pT6_pk h) ht g
    obtain ⟨g6, v6⟩ := pAf_lo (pT5_pk h) hp g7
    obtain ⟨g5, v5⟩ := pAf_le (pT4_pk h) (by decide) ⟨0, by decide, rfl⟩ g6
    obtain ⟨g4, v4⟩ := pAf_le (pT3_pk h) (by decide) ⟨100, by decide, rfl⟩ g5
    obtain ⟨g3, v3⟩ := pAf_le (pT2_pk h) (by decide) ⟨0, by decide, rfl⟩ g4
    obtain ⟨g2, -, v2⟩ := pNu_ok g3
    obtain ⟨g1, v1⟩ := pMu_ok g2
    refine Or.inr ⟨rfl, ?_, le_v (by decide) (pT1_pk h).2.2.2.2.2 v2, v3, v4, v5, v6, v7⟩
    by_cases e1 : pWd T q 0 ∧ tn < 8
    · exact e1.2
    · exact absurd (if_neg e1) v1
  · obtain ⟨k, hk, ek, -⟩ := pKd_nn e
    have eq : pItem T c q tn pn = ((pPer T c q (pKd T q 7) pn).1, tn, pn + 1, (pPer T c q (pKd T q 7) pn).2) := if_neg e
    rw [eq] at g ⊢
    have fin : (pP3 T c q pn).2.2.2.2.2 = false → pn < 8 ∧ Le 15 (pP2 T c q pn).1 ∧ Le 15 (pP3 T c q pn).1 := by
      intro g
      obtain ⟨g3, v3⟩ := pAf_le (pP2_pk h) (by decide) ⟨1, by decide, rfl⟩ g
      obtain ⟨g2, v2⟩ := pAf_le (pP1_pk h) (by decide) ⟨0, by decide, rfl⟩ g3
      obtain ⟨g1, v1⟩ := pMu_ok g2
      refine ⟨?_, v2, v3⟩
      by_cases e1 : pn < 8
      · exact e1
      · exact absurd (if_neg e1) v1
    have l1 : Le 9 (nI 1) := ⟨1, by decide, rfl⟩
    by_cases el : noL T (pP3 T c q pn).2
    · have e2 : pPer T c q (pKd T q 7) pn = (itm (pKd T q 7) (pP2 T c q pn).1 (pP3 T c q pn).1 (nI 1) (nI 1) (nI 1) (nI 1), (pP3 T c q pn).2) := if_pos el
      rw [e2] at g ⊢
      obtain ⟨f1, f2, f3⟩ := fin g
      exact Or.inl ⟨k, hk, ek, f1, f2, f3, l1, l1, l1, l1⟩
    · have e2 : pPer T c q (pKd T q 7) pn = (itm (pKd T q 7) (pP2 T c q pn).1 (pP3 T c q pn).1 (nI (pL T c (pP3 T c q pn).2 0).2.2.2.1) (nI (pL T c (pP3 T c q pn).2 1).2.2.2.1) (nI (pL T c (pP3 T c q pn).2 2).2.2.2.1) (nI (pL T c (pP3 T c q pn).2 3).2.2.2.1), pL T c (pP3 T c q pn).2 4) := if_neg el
      rw [e2] at g ⊢
      obtain ⟨g4, -, v4⟩ := pNu_ok g
      obtain ⟨g3, -, v3⟩ := pNu_ok g4
      obtain ⟨g2, -, v2⟩ := pNu_ok g3
      obtain ⟨g1, -, v1⟩ := pNu_ok g2
      have hk3 := pP3_pk (T := T) (pn := pn) h
      obtain ⟨f1, f2, f3⟩ := fin (pMu_ok g1).1
      exact Or.inl ⟨k, hk, ek, f1, f2, f3, le_v (by decide) (pL_pk hk3 0).2.2.2.2.2 v1, le_v (by decide) (pL_pk hk3 1).2.2.2.2.2 v2, le_v (by decide) (pL_pk hk3 2).2.2.2.2.2 v3, le_v (by decide) (pL_pk hk3 3).2.2.2.2.2 v4⟩
end PZ
section RI
variable {X : mSc} {Q : Option Value → mHp → Prop} {M : mM} {T : Nat → Nat} {c : Nat}
/-- between the steps of an item's reading: where it stands, how many items, things, people -/
def Rk (T : Nat → Nat) (c : Nat) (q : PS) (m tn pn : Nat) (M0 M : mM) : Prop := RT T c q M ∧ M 66 17 = nI m ∧ M 66 18 = nI tn ∧ M 66 19 = nI pn ∧ Lw m M0 M
theorem Rk.ly {q q' : PS} {m tn pn : Nat} {M0 M1 : mM} (h : Rk T c q m tn pn M0 M) (g : RT T c q' M1) (hL : Ly M M1) : Rk T c q' m tn pn M0 M1 := ⟨g, (hL 66 17 (by omega)).trans h.2.1, (hL 66 18 (by omega)).trans h.2.2.1, (hL 66 19 (by omega)).trans h.2.2.2.1, h.2.2.2.2.trans hL.lw⟩
theorem RT.pf {q : PS} {x : Nat} {v : Int32} (h : RT T c q M) (hx : 15 ≤ x) : RT T c q (mput M 66 x v) := by
  obtain ⟨h1, h2, h3, h4, h5, h6, h7, h8⟩ := h
  exact ⟨(mpf (by omega)).trans h1, (mpf (by omega)).trans h2, (mpf (by omega)).trans h3, (mpf (by omega)).trans h4, (mpf (by omega)).trans h5, (mpf (by omega)).trans h6, fun k hk => (congrFun (mpo (by decide)) k).trans (h7 k hk), h8⟩
theorem Rk.p19 {q : PS} {m tn pn : Nat} {M0 : mM} (h : Rk T c q m tn pn M0 M) : Rk T c q m tn (pn + 1) M0 (mput M 66 19 (nI (pn + 1))) := ⟨h.1.pf (by decide), (mpf (by decide)).trans h.2.1, (mpf (by decide)).trans h.2.2.1, mp0, h.2.2.2.2.trans (Lw.put (by decide))⟩
theorem Rk.p18 {q : PS} {m tn pn : Nat} {M0 : mM} (h : Rk T c q m tn pn M0 M) : Rk T c q m (tn + 1) pn M0 (mput M 66 18 (nI (tn + 1))) := ⟨h.1.pf (by decide), (mpf (by decide)).trans h.2.1, mp0, (mpf (by decide)).trans h.2.2.2.1, h.2.2.2.2.trans (Lw.put (by decide))⟩
theorem it7_j {m : Nat} {a b c1 d e f g : Int32} : ∀ j, j < 7 → it7 M m a b c1 d e f g 75 (7 * m + j) = itm a b c1 d e f g j := by
  intro j hj
  rcases (by omega : j = 0 ∨ j = 1 ∨ j = 2 ∨ j = 3 ∨ j = 4 ∨ j = 5 ∨ j = 6) with rfl | rfl | rfl | rfl | rfl | rfl | rfl
  all_goals (unfold it7 mput itm; simp)
/-- behind an item -/
def Rn (T : Nat → Nat) (c : Nat) (r : (Nat → Int32) × Nat × Nat × PS) (m : Nat) (M0 M : mM) : Prop := RT T c r.2.2.2 M ∧ M 66 17 = nI (m + 1) ∧ M 66 18 = nI r.2.1 ∧ M 66 19 = nI r.2.2.1 ∧ (∀ j, j < 7 → M 75 (7 * m + j) = r.1 j) ∧ Lw m M0 M
theorem Rk.fin {q : PS} {m tn pn : Nat} {a b c1 d e f g : Int32} {M0 : mM} (h : Rk T c q m tn pn M0 M) : Rn T c (itm a b c1 d e f g, tn, pn, q) m M0 (it7 M m a b c1 d e f g) := by
  obtain ⟨⟨h1, h2, h3, h4, h5, h6, h7, h8⟩, k1, k2, k3, k4⟩ := h
  refine ⟨⟨(it7_66 (by decide)).trans h1, (it7_66 (by decide)).trans h2, (it7_66 (by decide)).trans h3, (it7_66 (by decide)).trans h4, (it7_66 (by decide)).trans h5, (it7_66 (by decide)).trans h6, fun k hk => (it7_o 73 k (Or.inl (by decide)) (Or.inl (by decide))).trans (h7 k hk), h8⟩, ?_, (it7_66 (by decide)).trans k2, (it7_66 (by decide)).trans k3, it7_j, k4.trans it7_o⟩
  unfold it7
  exact mp0
theorem v226k {q : PS} {x : Int32} {m tn pn : Nat} {M0 : mM} (h8 : ∀ k, k < c → T k < 256) (h : Rk T c q m tn pn M0 M) : ∃ M', mT X 226 [.ref 66, .int x] (con M) none (con M') ∧ Rk T c (pMu T c q x) m tn pn M0 M' := by
  obtain ⟨M1, h1, h2, h3⟩ := k226 (X := X) (x := x) h.1 h8
  exact ⟨M1, h1, h.ly h2 h3⟩
theorem v228k {q : PS} {hi : Int32} {m tn pn : Nat} {M0 : mM} (h8 : ∀ k, k < c → T k < 256) (h : Rk T c q m tn pn M0 M) : ∃ v M', mT X 228 [.ref 66, .int (nI 0), .int hi] (con M) (some (.int v)) (con M') ∧ v = nI q.2.2.2.1 ∧ Rk T c (pNu T c q hi) m tn pn M0 M' := by
  obtain ⟨v, M1, h1, h0, h2, h3⟩ := k228 (X := X) (hi := hi) h.1 h8
  exact ⟨v, M1, h1, h0, h.ly h2 h3⟩
theorem v227k {q : PS} {t : Nat} {w hi : Int32} {m tn pn : Nat} {M0 : mM} (h8 : ∀ k, k < c → T k < 256) (ht : t < 15) (h : Rk T c q m tn pn M0 M) : ∃ v M', mT X 227 [.ref 66, .ref (1000000 + t), .int w, .int (nI 0), .int hi] (con M) (some (.int v)) (con M') ∧ v = (pAf T c q t w hi).1 ∧ Rk T c (pAf T c q t w hi).2 m tn pn M0 M' := by
  obtain ⟨v, M1, h1, h0, h2, h3⟩ := k227 (X := X) (w := w) (hi := hi) h.1 h8 ht
  exact ⟨v, M1, h1, h0, h.ly h2 h3⟩
theorem k223a {q : PS} {m tn pn : Nat} {M0 : mM} {k a w : Int32} (hm1 : m < 120) (h8 : ∀ k, k < c → T k < 256) (h : Rk T c q m tn pn M0 M) : mEv X (QV (fun M' => Rn T c (itm k a w (nI 1) (nI 1) (nI 1) (nI 1), tn, pn, q) m M0 M')) 223 74 [some (.ref 66), some (.int k), some (.int a), some (.int w), some (.int (-1)), none, none, none] [] (con M) := by
  have hm : mMet 223 = some _ := rfl
  refine x_iload hm rfl rfl ?_
  refine x_if_ge hm rfl (t := 83) rfl (fun h1 => ?_) (fun h1 => ?_)
  · exact absurd h1 (by decide) --stop
  · refine x_iconst hm rfl (v := nI 1) (by decide) ?_
    refine x_goto hm rfl (t := 90) rfl ?_
    refine x_istore hm rfl rfl ?_
    refine x_iload hm rfl rfl ?_
    refine x_if_ge hm rfl (t := 101) rfl (fun h2 => ?_) (fun h2 => ?_)
    · exact absurd h2 (by decide) --stop
    · refine x_iconst hm rfl (v := nI 1) (by decide) ?_
      refine x_goto hm rfl (t := 108) rfl ?_
      refine x_istore hm rfl rfl ?_
      refine x_iload hm rfl rfl ?_
      refine x_if_ge hm rfl (t := 119) rfl (fun h3 => ?_) (fun h3 => ?_)
      · exact absurd h3 (by decide) --stop
      · refine x_iconst hm rfl (v := nI 1) (by decide) ?_
        refine x_goto hm rfl (t := 126) rfl ?_
        refine x_istore hm rfl rfl ?_
        refine x_aload_n hm rfl rfl ?_
        have e17 := h.2.1
        refine x_iload_n hm rfl rfl ?_
        refine x_iload_n hm rfl rfl ?_
        refine x_iload_n hm rfl rfl ?_
        refine x_iload hm rfl rfl ?_
        refine x_if_ge hm rfl (t := 141) rfl (fun h4 => ?_) (fun h4 => ?_)
        · exact absurd h4 (by decide) --stop
        · refine x_iconst hm rfl (v := nI 1) (by decide) ?_
          refine x_goto hm rfl (t := 143) rfl ?_
          refine x_iload hm rfl rfl ?_
          refine x_iload hm rfl rfl ?_
          refine x_iload hm rfl rfl ?_
          refine x_callV hm rfl rfl (t229 (by assumption) (by omega)) ?_
          refine x_goto hm rfl (t := 290) rfl ?_
          refine x_ret hm rfl rfl ?_
          exact ⟨_, rfl, rfl, h.fin⟩
theorem k223b {q : PS} {m tn pn : Nat} {M0 : mM} {k a w : Int32} (hm1 : m < 120) (h8 : ∀ k, k < c → T k < 256) (hpk : Pk c q) (h : Rk T c (pL T c q 1) m tn pn M0 M) : mEv X (QV (fun M' => Rn T c (itm k a w (nI (pL T c q 0).2.2.2.1) (nI (pL T c q 1).2.2.2.1) (nI (pL T c q 2).2.2.2.1) (nI (pL T c q 3).2.2.2.1), tn, pn, pL T c q 4) m M0 M')) 223 74 [some (.ref 66), some (.int k), some (.int a), some (.int w), some (.int (nI (pL T c q 0).2.2.2.1)), none, none, none] [] (con M) := by
  have hm : mMet 223 = some _ := rfl
  have hv0 := (pL_pk (T := T) hpk 0).2.2.2.2.2
  refine x_iload hm rfl rfl ?_
  refine x_if_ge hm rfl (t := 83) rfl (fun h1 => ?_) (fun h1 => ?_)
  · refine x_aload_n hm rfl rfl ?_
    refine x_iconst hm rfl (v := nI 0) (by decide) ?_
    refine x_bipush hm rfl (v := nI 9) (by decide) ?_
    refine x_cVi hm rfl rfl (v228k h8 h) (fun v2 M2 r2 => ?_)
    first
      | obtain ⟨z1, b1⟩ := r2; subst z1
      | obtain ⟨z1, b1⟩ := r11; subst z1
      | obtain ⟨z1, b1⟩ := r10; subst z1
      | obtain ⟨z1, b1⟩ := r9; subst z1
      | obtain ⟨z1, b1⟩ := r8; subst z1
      | obtain ⟨z1, b1⟩ := r7; subst z1
      | obtain ⟨z1, b1⟩ := r6; subst z1
      | obtain ⟨z1, b1⟩ := r5; subst z1
      | obtain ⟨z1, b1⟩ := r4; subst z1
      | obtain ⟨z1, b1⟩ := r3; subst z1
      | obtain ⟨z1, b1⟩ := r1; subst z1
    refine x_istore hm rfl rfl ?_
    refine x_iload hm rfl rfl ?_
    refine x_if_ge hm rfl (t := 101) rfl (fun h3 => ?_) (fun h3 => ?_)
    · refine x_aload_n hm rfl rfl ?_
      refine x_iconst hm rfl (v := nI 0) (by decide) ?_
      refine x_bipush hm rfl (v := nI 9) (by decide) ?_
      refine x_cVi hm rfl rfl (v228k h8 b1) (fun v4 M4 r4 => ?_)
      first
        | obtain ⟨z2, b2⟩ := r4; subst z2
        | obtain ⟨z2, b2⟩ := r2; subst z2
        | obtain ⟨z2, b2⟩ := r11; subst z2
        | obtain ⟨z2, b2⟩ := r10; subst z2
        | obtain ⟨z2, b2⟩ := r9; subst z2
        | obtain ⟨z2, b2⟩ := r8; subst z2
        | obtain ⟨z2, b2⟩ := r7; subst z2
        | obtain ⟨z2, b2⟩ := r6; subst z2
        | obtain ⟨z2, b2⟩ := r5; subst z2
        | obtain ⟨z2, b2⟩ := r3; subst z2
        | obtain ⟨z2, b2⟩ := r1; subst z2
      refine x_istore hm rfl rfl ?_
      refine x_iload hm rfl rfl ?_
      refine x_if_ge hm rfl (t := 119) rfl (fun h5 => ?_) (fun h5 => ?_)
      · refine x_aload_n hm rfl rfl ?_
        refine x_iconst hm rfl (v := nI 0) (by decide) ?_
        refine x_bipush hm rfl (v := nI 9) (by decide) ?_
        refine x_cVi hm rfl rfl (v228k h8 b2) (fun v6 M6 r6 => ?_)
        first
          | obtain ⟨z3, b3⟩ := r6; subst z3
          | obtain ⟨z3, b3⟩ := r4; subst z3
          | obtain ⟨z3, b3⟩ := r2; subst z3
          | obtain ⟨z3, b3⟩ := r11; subst z3
          | obtain ⟨z3, b3⟩ := r10; subst z3
          | obtain ⟨z3, b3⟩ := r9; subst z3
          | obtain ⟨z3, b3⟩ := r8; subst z3
          | obtain ⟨z3, b3⟩ := r7; subst z3
          | obtain ⟨z3, b3⟩ := r5; subst z3
          | obtain ⟨z3, b3⟩ := r3; subst z3
          | obtain ⟨z3, b3⟩ := r1; subst z3
        refine x_istore hm rfl rfl ?_
        refine x_aload_n hm rfl rfl ?_
        have e17 := b3.2.1
        refine x_iload_n hm rfl rfl ?_
        refine x_iload_n hm rfl rfl ?_
        refine x_iload_n hm rfl rfl ?_
        refine x_iload hm rfl rfl ?_
        refine x_if_ge hm rfl (t := 141) rfl (fun h7 => ?_) (fun h7 => ?_)
        · refine x_iload hm rfl rfl ?_
          refine x_iload hm rfl rfl ?_
          refine x_iload hm rfl rfl ?_
          refine x_iload hm rfl rfl ?_
          refine x_callV hm rfl rfl (t229 (by assumption) (by omega)) ?_
          refine x_goto hm rfl (t := 290) rfl ?_
          refine x_ret hm rfl rfl ?_
          exact ⟨_, rfl, rfl, b3.fin⟩
        · exact absurd (ge0 (by omega)) h7 --stop
      · exact absurd (ge0 (by omega)) h5 --stop
    · exact absurd (ge0 (by omega)) h3 --stop
  · exact absurd (ge0 (by omega)) h1 --stop
theorem k223 {q : PS} {m tn pn : Nat} {M0 : mM} (h8 : ∀ k, k < c → T k < 256) (hm1 : m < 120) (htn : tn ≤ 8) (hpn : pn ≤ 8) (h : Rk T c q m tn pn M0 M) : ∃ M', mT X 223 [.ref 66] (con M) none (con M') ∧ Rn T c (pItem T c q tn pn) m M0 M' := by
  refine tv_of (row := _) rfl (Nat.le_of_ble_eq_true rfl) ?_
  have hm : mMet 223 = some _ := rfl
  have hpk := h.1.2.2.2.2.2.2.2
  refine x_aload_n hm rfl rfl ?_
  refine x_cVe hm rfl rfl (k224 h.1 h8) (fun v1 r1 => ?_)
  subst r1
  refine x_istore_n hm rfl rfl ?_
  refine x_iload_n hm rfl rfl ?_
  refine x_if_lt hm rfl (t := 155) rfl (fun h2 => ?_) (fun h2 => ?_)
  · have hq : (pItem T c q tn pn) = ((pThg T c q tn pn).1, tn + 1, pn, (pThg T c q tn pn).2) := if_pos h2
    refine x_aload_n hm rfl rfl ?_
    refine x_aload_n hm rfl rfl ?_
    refine x_ldc_wS hm rfl ?_
    refine x_cVe hm rfl rfl (k225 h.1 h8 (by decide)) (fun v3 r3 => ?_)
    subst r3
    refine x_if_eq hm rfl (t := 179) rfl (fun h4 => ?_) (fun h4 => ?_)
    · have hnx : ¬ (pWd T q 0 ∧ tn < 8) := fun z => bI_eq0.mp h4 z.1
      refine x_iconst hm rfl (v := nI 0) (by decide) ?_
      refine x_cVv hm rfl rfl (v226k h8 h) (fun M5 r5 => ?_)
      first
        | have b1 : Rk T c (pT1 T c q tn) m tn pn M0 M5 := by unfold pT1; rw [if_pos hx]; exact r5
        | have b1 : Rk T c (pT1 T c q tn) m tn pn M0 M5 := by unfold pT1; rw [if_neg hnx]; exact r5
      refine x_aload_n hm rfl rfl ?_
      refine x_iconst hm rfl (v := nI 0) (by decide) ?_
      refine x_iconst hm rfl (v := nI 3) (by decide) ?_
      refine x_cVi hm rfl rfl (v228k h8 b1) (fun v6 M6 r6 => ?_)
      obtain ⟨z2, b2⟩ := r6
      subst z2
      refine x_istore_n hm rfl rfl ?_
      refine x_aload_n hm rfl rfl ?_
      refine x_ldc_wS hm rfl ?_
      refine x_iconst hm rfl (v := nI 0) (by decide) ?_
      refine x_iconst hm rfl (v := nI 0) (by decide) ?_
      refine x_bipush hm rfl (v := nI 15) (by decide) ?_
      refine x_cVi hm rfl rfl (v227k h8 (by decide) b2) (fun v7 M7 r7 => ?_)
      obtain ⟨z3, b3⟩ := r7
      subst z3
      refine x_istore_n hm rfl rfl ?_
      refine x_aload_n hm rfl rfl ?_
      refine x_ldc_wS hm rfl ?_
      refine x_bipush hm rfl (v := nI 100) (by decide) ?_
      refine x_iconst hm rfl (v := nI 0) (by decide) ?_
      refine x_sipush hm rfl (v := nI 999) (by decide) ?_
      refine x_cVi hm rfl rfl (v227k h8 (by decide) b3) (fun v8 M8 r8 => ?_)
      obtain ⟨z4, b4⟩ := r8
      subst z4
      refine x_istore hm rfl rfl ?_
      refine x_aload_n hm rfl rfl ?_
      refine x_ldc_wS hm rfl ?_
      refine x_iconst hm rfl (v := nI 0) (by decide) ?_
      refine x_iconst hm rfl (v := nI 0) (by decide) ?_
      refine x_bipush hm rfl (v := nI 9) (by decide) ?_
      refine x_cVi hm rfl rfl (v227k h8 (by decide) b4) (fun v9 M9 r9 => ?_)
      obtain ⟨z5, b5⟩ := r9
      subst z5
      refine x_istore hm rfl rfl ?_
      refine x_aload_n hm rfl rfl ?_
      refine x_ldc_wS hm rfl ?_
      refine x_iconst hm rfl (v := (-1 : Int32)) (by decide) ?_
      refine x_iconst hm rfl (v := nI 0) (by decide) ?_
      refine x_aload_n hm rfl rfl ?_
      refine x_getf hm rfl (gI rfl rfl) ?_
      rw [b5.2.2.2.1]
      refine x_iconst hm rfl (v := nI 1) (by decide) ?_
      refine x_isub hm rfl ?_
      refine x_cVi hm rfl rfl (v227k h8 (by decide) b5) (fun v10 M10 r10 => ?_)
      obtain ⟨z6, b6⟩ := r10
      subst z6
      refine x_istore hm rfl rfl ?_
      refine x_aload_n hm rfl rfl ?_
      refine x_ldc_wS hm rfl ?_
      refine x_iconst hm rfl (v := (-1 : Int32)) (by decide) ?_
      refine x_iconst hm rfl (v := nI 0) (by decide) ?_
      refine x_aload_n hm rfl rfl ?_
      refine x_getf hm rfl (gI rfl rfl) ?_
      rw [b6.2.2.1]
      refine x_iconst hm rfl (v := nI 1) (by decide) ?_
      refine x_isub hm rfl ?_
      refine x_cVi hm rfl rfl (v227k h8 (by decide) b6) (fun v11 M11 r11 => ?_)
      obtain ⟨z7, b7⟩ := r11
      subst z7
      refine x_istore hm rfl rfl ?_
      refine x_aload_n hm rfl rfl ?_
      refine x_dup hm rfl rfl ?_
      refine x_getf hm rfl (gI rfl rfl) ?_
      rw [b7.2.2.1]
      refine x_iconst hm rfl (v := nI 1) (by decide) ?_
      refine x_iadd hm rfl ?_
      rw [jI_add]
      refine x_putf hm rfl (pI rfl rfl (by decide) (by first | exact mFit_int | rfl | decide) rfl) ?_
      have b8 := b7.p18
      have e17 := b8.2.1
      refine x_aload_n hm rfl rfl ?_
      refine x_bipush hm rfl (v := nI 10) (by decide) ?_
      refine x_iload_n hm rfl rfl ?_
      refine x_iload_n hm rfl rfl ?_
      refine x_iload hm rfl rfl ?_
      refine x_iload hm rfl rfl ?_
      refine x_iload hm rfl rfl ?_
      refine x_iload hm rfl rfl ?_
      refine x_callV hm rfl rfl (t229 (by assumption) (by omega)) ?_
      refine x_ret hm rfl rfl ?_
      exact ⟨_, rfl, rfl, by rw [hq]; exact b8.fin⟩
    · have hw0 : pWd T q 0 := bI_ne0 h4
      refine x_aload_n hm rfl rfl ?_
      refine x_getf hm rfl (gI rfl rfl) ?_
      rw [h.2.2.1]
      refine x_bipush hm rfl (v := nI 8) (by decide) ?_
      refine x_icmp_ge hm rfl (t := 179) rfl (fun h12 => ?_) (fun h12 => ?_)
      · have hge8 : ¬ tn < 8 := fun q => by have := (jI_le (by omega) (by omega)).mp h12; omega
        have hnx : ¬ (pWd T q 0 ∧ tn < 8) := fun z => hge8 z.2
        refine x_iconst hm rfl (v := nI 0) (by decide) ?_
        refine x_cVv hm rfl rfl (v226k h8 h) (fun M13 r13 => ?_)
        first
          | have b1 : Rk T c (pT1 T c q tn) m tn pn M0 M13 := by unfold pT1; rw [if_pos hx]; exact r13
          | have b1 : Rk T c (pT1 T c q tn) m tn pn M0 M13 := by unfold pT1; rw [if_neg hnx]; exact r13
        refine x_aload_n hm rfl rfl ?_
        refine x_iconst hm rfl (v := nI 0) (by decide) ?_
        refine x_iconst hm rfl (v := nI 3) (by decide) ?_
        refine x_cVi hm rfl rfl (v228k h8 b1) (fun v14 M14 r14 => ?_)
        obtain ⟨z2, b2⟩ := r14
        subst z2
        refine x_istore_n hm rfl rfl ?_
        refine x_aload_n hm rfl rfl ?_
        refine x_ldc_wS hm rfl ?_
        refine x_iconst hm rfl (v := nI 0) (by decide) ?_
        refine x_iconst hm rfl (v := nI 0) (by decide) ?_
        refine x_bipush hm rfl (v := nI 15) (by decide) ?_
        refine x_cVi hm rfl rfl (v227k h8 (by decide) b2) (fun v15 M15 r15 => ?_)
        obtain ⟨z3, b3⟩ := r15
        subst z3
        refine x_istore_n hm rfl rfl ?_
        refine x_aload_n hm rfl rfl ?_
        refine x_ldc_wS hm rfl ?_
        refine x_bipush hm rfl (v := nI 100) (by decide) ?_
        refine x_iconst hm rfl (v := nI 0) (by decide) ?_
        refine x_sipush hm rfl (v := nI 999) (by decide) ?_
        refine x_cVi hm rfl rfl (v227k h8 (by decide) b3) (fun v16 M16 r16 => ?_)
        obtain ⟨z4, b4⟩ := r16
        subst z4
        refine x_istore hm rfl rfl ?_
        refine x_aload_n hm rfl rfl ?_
        refine x_ldc_wS hm rfl ?_
        refine x_iconst hm rfl (v := nI 0) (by decide) ?_
        refine x_iconst hm rfl (v := nI 0) (by decide) ?_
        refine x_bipush hm rfl (v := nI 9) (by decide) ?_
        refine x_cVi hm rfl rfl (v227k h8 (by decide) b4) (fun v17 M17 r17 => ?_)
        obtain ⟨z5, b5⟩ := r17
        subst z5
        refine x_istore hm rfl rfl ?_
        refine x_aload_n hm rfl rfl ?_
        refine x_ldc_wS hm rfl ?_
        refine x_iconst hm rfl (v := (-1 : Int32)) (by decide) ?_
        refine x_iconst hm rfl (v := nI 0) (by decide) ?_
        refine x_aload_n hm rfl rfl ?_
        refine x_getf hm rfl (gI rfl rfl) ?_
        rw [b5.2.2.2.1]
        refine x_iconst hm rfl (v := nI 1) (by decide) ?_
        refine x_isub hm rfl ?_
        refine x_cVi hm rfl rfl (v227k h8 (by decide) b5) (fun v18 M18 r18 => ?_)
        obtain ⟨z6, b6⟩ := r18
        subst z6
        refine x_istore hm rfl rfl ?_
        refine x_aload_n hm rfl rfl ?_
        refine x_ldc_wS hm rfl ?_
        refine x_iconst hm rfl (v := (-1 : Int32)) (by decide) ?_
        refine x_iconst hm rfl (v := nI 0) (by decide) ?_
        refine x_aload_n hm rfl rfl ?_
        refine x_getf hm rfl (gI rfl rfl) ?_
        rw [b6.2.2.1]
        refine x_iconst hm rfl (v := nI 1) (by decide) ?_
        refine x_isub hm rfl ?_
        refine x_cVi hm rfl rfl (v227k h8 (by decide) b6) (fun v19 M19 r19 => ?_)
        obtain ⟨z7, b7⟩ := r19
        subst z7
        refine x_istore hm rfl rfl ?_
        refine x_aload_n hm rfl rfl ?_
        refine x_dup hm rfl rfl ?_
        refine x_getf hm rfl (gI rfl rfl) ?_
        rw [b7.2.2.1]
        refine x_iconst hm rfl (v := nI 1) (by decide) ?_
        refine x_iadd hm rfl ?_
        rw [jI_add]
        refine x_putf hm rfl (pI rfl rfl (by decide) (by first | exact mFit_int | rfl | decide) rfl) ?_
        have b8 := b7.p18
        have e17 := b8.2.1
        refine x_aload_n hm rfl rfl ?_
        refine x_bipush hm rfl (v := nI 10) (by decide) ?_
        refine x_iload_n hm rfl rfl ?_
        refine x_iload_n hm rfl rfl ?_
        refine x_iload hm rfl rfl ?_
        refine x_iload hm rfl rfl ?_
        refine x_iload hm rfl rfl ?_
        refine x_iload hm rfl rfl ?_
        refine x_callV hm rfl rfl (t229 (by assumption) (by omega)) ?_
        refine x_ret hm rfl rfl ?_
        exact ⟨_, rfl, rfl, by rw [hq]; exact b8.fin⟩
      · have hlt8 : tn < 8 := Nat.lt_of_not_le fun q => h12 (nI_le q (by omega))
        have hx : pWd T q 0 ∧ tn < 8 := ⟨hw0, hlt8⟩
        refine x_iconst hm rfl (v := nI 1) (by decide) ?_
        refine x_goto hm rfl (t := 180) rfl ?_
        refine x_cVv hm rfl rfl (v226k h8 h) (fun M20 r20 => ?_)
        first
          | have b1 : Rk T c (pT1 T c q tn) m tn pn M0 M20 := by unfold pT1; rw [if_pos hx]; exact r20
          | have b1 : Rk T c (pT1 T c q tn) m tn pn M0 M20 := by unfold pT1; rw [if_neg hnx]; exact r20
        refine x_aload_n hm rfl rfl ?_
        refine x_iconst hm rfl (v := nI 0) (by decide) ?_
        refine x_iconst hm rfl (v := nI 3) (by decide) ?_
        refine x_cVi hm rfl rfl (v228k h8 b1) (fun v21 M21 r21 => ?_)
        obtain ⟨z2, b2⟩ := r21
        subst z2
        refine x_istore_n hm rfl rfl ?_
        refine x_aload_n hm rfl rfl ?_
        refine x_ldc_wS hm rfl ?_
        refine x_iconst hm rfl (v := nI 0) (by decide) ?_
        refine x_iconst hm rfl (v := nI 0) (by decide) ?_
        refine x_bipush hm rfl (v := nI 15) (by decide) ?_
        refine x_cVi hm rfl rfl (v227k h8 (by decide) b2) (fun v22 M22 r22 => ?_)
        obtain ⟨z3, b3⟩ := r22
        subst z3
        refine x_istore_n hm rfl rfl ?_
        refine x_aload_n hm rfl rfl ?_
        refine x_ldc_wS hm rfl ?_
        refine x_bipush hm rfl (v := nI 100) (by decide) ?_
        refine x_iconst hm rfl (v := nI 0) (by decide) ?_
        refine x_sipush hm rfl (v := nI 999) (by decide) ?_
        refine x_cVi hm rfl rfl (v227k h8 (by decide) b3) (fun v23 M23 r23 => ?_)
        obtain ⟨z4, b4⟩ := r23
        subst z4
        refine x_istore hm rfl rfl ?_
        refine x_aload_n hm rfl rfl ?_
        refine x_ldc_wS hm rfl ?_
        refine x_iconst hm rfl (v := nI 0) (by decide) ?_
        refine x_iconst hm rfl (v := nI 0) (by decide) ?_
        refine x_bipush hm rfl (v := nI 9) (by decide) ?_
        refine x_cVi hm rfl rfl (v227k h8 (by decide) b4) (fun v24 M24 r24 => ?_)
        obtain ⟨z5, b5⟩ := r24
        subst z5
        refine x_istore hm rfl rfl ?_
        refine x_aload_n hm rfl rfl ?_
        refine x_ldc_wS hm rfl ?_
        refine x_iconst hm rfl (v := (-1 : Int32)) (by decide) ?_
        refine x_iconst hm rfl (v := nI 0) (by decide) ?_
        refine x_aload_n hm rfl rfl ?_
        refine x_getf hm rfl (gI rfl rfl) ?_
        rw [b5.2.2.2.1]
        refine x_iconst hm rfl (v := nI 1) (by decide) ?_
        refine x_isub hm rfl ?_
        refine x_cVi hm rfl rfl (v227k h8 (by decide) b5) (fun v25 M25 r25 => ?_)
        obtain ⟨z6, b6⟩ := r25
        subst z6
        refine x_istore hm rfl rfl ?_
        refine x_aload_n hm rfl rfl ?_
        refine x_ldc_wS hm rfl ?_
        refine x_iconst hm rfl (v := (-1 : Int32)) (by decide) ?_
        refine x_iconst hm rfl (v := nI 0) (by decide) ?_
        refine x_aload_n hm rfl rfl ?_
        refine x_getf hm rfl (gI rfl rfl) ?_
        rw [b6.2.2.1]
        refine x_iconst hm rfl (v := nI 1) (by decide) ?_
        refine x_isub hm rfl ?_
        refine x_cVi hm rfl rfl (v227k h8 (by decide) b6) (fun v26 M26 r26 => ?_)
        obtain ⟨z7, b7⟩ := r26
        subst z7
        refine x_istore hm rfl rfl ?_
        refine x_aload_n hm rfl rfl ?_
        refine x_dup hm rfl rfl ?_
        refine x_getf hm rfl (gI rfl rfl) ?_
        rw [b7.2.2.1]
        refine x_iconst hm rfl (v := nI 1) (by decide) ?_
        refine x_iadd hm rfl ?_
        rw [jI_add]
        refine x_putf hm rfl (pI rfl rfl (by decide) (by first | exact mFit_int | rfl | decide) rfl) ?_
        have b8 := b7.p18
        have e17 := b8.2.1
        refine x_aload_n hm rfl rfl ?_
        refine x_bipush hm rfl (v := nI 10) (by decide) ?_
        refine x_iload_n hm rfl rfl ?_
        refine x_iload_n hm rfl rfl ?_
        refine x_iload hm rfl rfl ?_
        refine x_iload hm rfl rfl ?_
        refine x_iload hm rfl rfl ?_
        refine x_iload hm rfl rfl ?_
        refine x_callV hm rfl rfl (t229 (by assumption) (by omega)) ?_
        refine x_ret hm rfl rfl ?_
        exact ⟨_, rfl, rfl, by rw [hq]; exact b8.fin⟩
  · have hq : (pItem T c q tn pn) = ((pPer T c q (pKd T q 7) pn).1, tn, pn + 1, (pPer T c q (pKd T q 7) pn).2) := if_neg h2
    rw [hq]
    refine x_aload_n hm rfl rfl ?_
    refine x_aload_n hm rfl rfl ?_
    refine x_getf hm rfl (gI rfl rfl) ?_
    rw [h.2.2.2.1]
    refine x_bipush hm rfl (v := nI 8) (by decide) ?_
    refine x_icmp_ge hm rfl (t := 23) rfl (fun h27 => ?_) (fun h27 => ?_)
    · have hge8 : ¬ pn < 8 := fun q => by have := (jI_le (by omega) (by omega)).mp h27; omega
      refine x_iconst hm rfl (v := nI 0) (by decide) ?_
      refine x_cVv hm rfl rfl (v226k h8 h) (fun M28 r28 => ?_)
      first
        | have b1 : Rk T c (pP1 T c q pn) m tn pn M0 M28 := by unfold pP1; rw [if_pos hlt8]; exact r28
        | have b1 : Rk T c (pP1 T c q pn) m tn pn M0 M28 := by unfold pP1; rw [if_neg hge8]; exact r28
      refine x_aload_n hm rfl rfl ?_
      refine x_dup hm rfl rfl ?_
      refine x_getf hm rfl (gI rfl rfl) ?_
      rw [b1.2.2.2.1]
      refine x_iconst hm rfl (v := nI 1) (by decide) ?_
      refine x_iadd hm rfl ?_
      rw [jI_add]
      refine x_putf hm rfl (pI rfl rfl (by decide) (by first | exact mFit_int | rfl | decide) rfl) ?_
      have b2 := b1.p19
      refine x_aload_n hm rfl rfl ?_
      refine x_ldc_wS hm rfl ?_
      refine x_iconst hm rfl (v := nI 0) (by decide) ?_
      refine x_iconst hm rfl (v := nI 0) (by decide) ?_
      refine x_bipush hm rfl (v := nI 15) (by decide) ?_
      refine x_cVi hm rfl rfl (v227k h8 (by decide) b2) (fun v29 M29 r29 => ?_)
      obtain ⟨z3, b3⟩ := r29
      subst z3
      refine x_istore_n hm rfl rfl ?_
      refine x_aload_n hm rfl rfl ?_
      refine x_ldc_wS hm rfl ?_
      refine x_iconst hm rfl (v := nI 1) (by decide) ?_
      refine x_iconst hm rfl (v := nI 0) (by decide) ?_
      refine x_bipush hm rfl (v := nI 15) (by decide) ?_
      refine x_cVi hm rfl rfl (v227k h8 (by decide) b3) (fun v30 M30 r30 => ?_)
      obtain ⟨z4, b4⟩ := r30
      subst z4
      refine x_istore_n hm rfl rfl ?_
      refine x_aload_n hm rfl rfl ?_
      refine x_ldc_wS hm rfl ?_
      refine x_iconst hm rfl (v := (-1 : Int32)) (by decide) ?_
      refine x_iconst hm rfl (v := nI 0) (by decide) ?_
      refine x_bipush hm rfl (v := nI 9) (by decide) ?_
      refine x_cVi hm rfl rfl (v227k h8 (by decide) b4) (fun v31 M31 r31 => ?_)
      obtain ⟨z5, b5⟩ := r31
      subst z5
      refine x_istore hm rfl rfl ?_
      have hp3 : Pk c (pP3 T c q pn).2 := pP3_pk hpk
      change Rk T c (pAf T c (pP3 T c q pn).2 10 (-1) (nI 9)).2 m tn (pn + 1) M0 _ at b5
      show mEv X _ 223 74 [_, _, some (.int (pP2 T c q pn).1), some (.int (pP3 T c q pn).1), some (.int (pAf T c (pP3 T c q pn).2 10 (-1) (nI 9)).1), _, _, _] [] _
      by_cases el : noL T (pP3 T c q pn).2
      · have e1 : pAf T c (pP3 T c q pn).2 10 (-1) (nI 9) = (-1, (pP3 T c q pn).2) := if_pos el
        have e2 : pPer T c q (pKd T q 7) pn = (itm (pKd T q 7) (pP2 T c q pn).1 (pP3 T c q pn).1 (nI 1) (nI 1) (nI 1) (nI 1), (pP3 T c q pn).2) := if_pos el
        rw [e1] at b5 ⊢
        rw [e2]
        exact k223a hm1 h8 b5
      · have e1 : pAf T c (pP3 T c q pn).2 10 (-1) (nI 9) = (nI (pL T c (pP3 T c q pn).2 0).2.2.2.1, pL T c (pP3 T c q pn).2 1) := if_neg el
        have e2 : pPer T c q (pKd T q 7) pn = (itm (pKd T q 7) (pP2 T c q pn).1 (pP3 T c q pn).1 (nI (pL T c (pP3 T c q pn).2 0).2.2.2.1) (nI (pL T c (pP3 T c q pn).2 1).2.2.2.1) (nI (pL T c (pP3 T c q pn).2 2).2.2.2.1) (nI (pL T c (pP3 T c q pn).2 3).2.2.2.1), pL T c (pP3 T c q pn).2 4) := if_neg el
        rw [e1] at b5 ⊢
        rw [e2]
        exact k223b hm1 h8 hp3 b5
    · have hlt8 : pn < 8 := Nat.lt_of_not_le fun q => h27 (nI_le q (by omega))
      refine x_iconst hm rfl (v := nI 1) (by decide) ?_
      refine x_goto hm rfl (t := 24) rfl ?_
      refine x_cVv hm rfl rfl (v226k h8 h) (fun M32 r32 => ?_)
      first
        | have b1 : Rk T c (pP1 T c q pn) m tn pn M0 M32 := by unfold pP1; rw [if_pos hlt8]; exact r32
        | have b1 : Rk T c (pP1 T c q pn) m tn pn M0 M32 := by unfold pP1; rw [if_neg hge8]; exact r32
      refine x_aload_n hm rfl rfl ?_
      refine x_dup hm rfl rfl ?_
      refine x_getf hm rfl (gI rfl rfl) ?_
      rw [b1.2.2.2.1]
      refine x_iconst hm rfl (v := nI 1) (by decide) ?_
      refine x_iadd hm rfl ?_
      rw [jI_add]
      refine x_putf hm rfl (pI rfl rfl (by decide) (by first | exact mFit_int | rfl | decide) rfl) ?_
      have b2 := b1.p19
      refine x_aload_n hm rfl rfl ?_
      refine x_ldc_wS hm rfl ?_
      refine x_iconst hm rfl (v := nI 0) (by decide) ?_
      refine x_iconst hm rfl (v := nI 0) (by decide) ?_
      refine x_bipush hm rfl (v := nI 15) (by decide) ?_
      refine x_cVi hm rfl rfl (v227k h8 (by decide) b2) (fun v33 M33 r33 => ?_)
      obtain ⟨z3, b3⟩ := r33
      subst z3
      refine x_istore_n hm rfl rfl ?_
      refine x_aload_n hm rfl rfl ?_
      refine x_ldc_wS hm rfl ?_
      refine x_iconst hm rfl (v := nI 1) (by decide) ?_
      refine x_iconst hm rfl (v := nI 0) (by decide) ?_
      refine x_bipush hm rfl (v := nI 15) (by decide) ?_
      refine x_cVi hm rfl rfl (v227k h8 (by decide) b3) (fun v34 M34 r34 => ?_)
      obtain ⟨z4, b4⟩ := r34
      subst z4
      refine x_istore_n hm rfl rfl ?_
      refine x_aload_n hm rfl rfl ?_
      refine x_ldc_wS hm rfl ?_
      refine x_iconst hm rfl (v := (-1 : Int32)) (by decide) ?_
      refine x_iconst hm rfl (v := nI 0) (by decide) ?_
      refine x_bipush hm rfl (v := nI 9) (by decide) ?_
      refine x_cVi hm rfl rfl (v227k h8 (by decide) b4) (fun v35 M35 r35 => ?_)
      obtain ⟨z5, b5⟩ := r35
      subst z5
      refine x_istore hm rfl rfl ?_
      have hp3 : Pk c (pP3 T c q pn).2 := pP3_pk hpk
      change Rk T c (pAf T c (pP3 T c q pn).2 10 (-1) (nI 9)).2 m tn (pn + 1) M0 _ at b5
      show mEv X _ 223 74 [_, _, some (.int (pP2 T c q pn).1), some (.int (pP3 T c q pn).1), some (.int (pAf T c (pP3 T c q pn).2 10 (-1) (nI 9)).1), _, _, _] [] _
      by_cases el : noL T (pP3 T c q pn).2
      · have e1 : pAf T c (pP3 T c q pn).2 10 (-1) (nI 9) = (-1, (pP3 T c q pn).2) := if_pos el
        have e2 : pPer T c q (pKd T q 7) pn = (itm (pKd T q 7) (pP2 T c q pn).1 (pP3 T c q pn).1 (nI 1) (nI 1) (nI 1) (nI 1), (pP3 T c q pn).2) := if_pos el
        rw [e1] at b5 ⊢
        rw [e2]
        exact k223a hm1 h8 b5
      · have e1 : pAf T c (pP3 T c q pn).2 10 (-1) (nI 9) = (nI (pL T c (pP3 T c q pn).2 0).2.2.2.1, pL T c (pP3 T c q pn).2 1) := if_neg el
        have e2 : pPer T c q (pKd T q 7) pn = (itm (pKd T q 7) (pP2 T c q pn).1 (pP3 T c q pn).1 (nI (pL T c (pP3 T c q pn).2 0).2.2.2.1) (nI (pL T c (pP3 T c q pn).2 1).2.2.2.1) (nI (pL T c (pP3 T c q pn).2 2).2.2.2.1) (nI (pL T c (pP3 T c q pn).2 3).2.2.2.1), pL T c (pP3 T c q pn).2 4) := if_neg el
        rw [e1] at b5 ⊢
        rw [e2]
        exact k223b hm1 h8 hp3 b5
end RI
end
section
/-! ===== texts: the reference ===== -/
section OV
variable {r : Nat → Int32} {n : Nat} {a b c d e f g h v : Int32}
theorem put1_x {i : Nat} {q : Nat → Int32} (h1 : q i = v) (h2 : ∀ j, ¬ j = i → r j = q j) : put1 r i v = q := by
  funext j
  by_cases h : j = i
  · subst h; rw [put1_s, h1]
  · rw [put1_o h]; exact h2 j h
theorem joinR_u2 : put1 (joinR r n a b c d e f g) (62 + 7 * n + 2) v = joinR r n a b v d e f g := put1_x joinR_at.2.2.1 fun j h => by unfold joinR put1; simp only [if_neg h]
theorem joinR_u3 : put1 (joinR r n a b c d e f g) (62 + 7 * n + (3 + 0)) v = joinR r n a b c v e f g := put1_x joinR_at.2.2.2.1 fun j h => by unfold joinR put1; simp only [if_neg h]
theorem joinR_u4 : put1 (joinR r n a b c d e f g) (62 + 7 * n + (3 + 1)) v = joinR r n a b c d v f g := put1_x joinR_at.2.2.2.2.1 fun j h => by unfold joinR put1; simp only [if_neg h]
theorem joinR_u5 : put1 (joinR r n a b c d e f g) (62 + 7 * n + (3 + 2)) v = joinR r n a b c d e v g := put1_x joinR_at.2.2.2.2.2.1 fun j h => by unfold joinR put1; simp only [if_neg h]
theorem joinR_u6 : put1 (joinR r n a b c d e f g) (62 + 7 * n + (3 + 3)) v = joinR r n a b c d e f v := put1_x joinR_at.2.2.2.2.2.2.1 fun j h => by unfold joinR put1; simp only [if_neg h]
theorem addR_u2 : put1 (addR r n a b c d e f) (14 + 6 * n + 2) v = addR r n a b v d e f := put1_x addR_at.2.2.1 fun j h => by unfold addR put1; simp only [if_neg h]
theorem addR_u3 : put1 (addR r n a b c d e f) (14 + 6 * n + 3) v = addR r n a b c v e f := put1_x addR_at.2.2.2.1 fun j h => by unfold addR put1; simp only [if_neg h]
theorem addR_u4 : put1 (addR r n a b c d e f) (14 + 6 * n + 4) v = addR r n a b c d v f := put1_x addR_at.2.2.2.2.1 fun j h => by unfold addR put1; simp only [if_neg h]
theorem addR_u5 : put1 (addR r n a b c d e f) (14 + 6 * n + 5) v = addR r n a b c d e v := put1_x addR_at.2.2.2.2.2.1 fun j h => by unfold addR put1; simp only [if_neg h]
end OV
abbrev S3 := Nat × Nat × (Nat → Int32)
def apR (S : S3) (it : Nat → Int32) : S3 :=
  if it 0 = nI 10 then (S.1 + 1, S.2.1, addR S.2.2 S.1 (it 1) (it 2) (it 3) (it 4) (it 5) (it 6)) else (S.1, S.2.1 + 1, joinR S.2.2 S.2.1 (it 0) (it 1) (it 2) (it 3) (it 4) (it 5) (it 6))
def cS (I : Nat → Nat → Int32) (S : S3) (k : Nat) : S3 := fo (fun k S => apR S (I k)) k S
def upI (I : Nat → Nat → Int32) (m : Nat) (it : Nat → Int32) : Nat → Nat → Int32 := fun k => if k = m then it else I k
abbrev goC (T : Nat → Nat) (q : PS) : Prop := q.2.2.2.2 = false ∧ q.2.2.1 = 3 ∧ T q.1 = 59
/-- the items read, behind one that left it so -/
noncomputable def pI2 (T : Nat → Nat) (c : Nat) : Nat → PS → Nat → Nat → Nat → (Nat → Nat → Int32) → Nat × (Nat → Nat → Int32) × PS
  | 0, q, _, _, m, I => (m, I, q)
  | f + 1, q, tn, pn, m, I => if goC T q then pI2 T c f (pItem T c (pMu T c q (nI 1)) tn pn).2.2.2 (pItem T c (pMu T c q (nI 1)) tn pn).2.1 (pItem T c (pMu T c q (nI 1)) tn pn).2.2.1 (m + 1) (upI I m (pItem T c (pMu T c q (nI 1)) tn pn).1) else (m, I, q)
noncomputable def it0 (T : Nat → Nat) (c nt np : Nat) : (Nat → Int32) × Nat × Nat × PS := pItem T c (pNx T c 0) nt np
noncomputable def pTx (T : Nat → Nat) (c nt np : Nat) : Nat × (Nat → Nat → Int32) × PS := pI2 T c 16 (it0 T c nt np).2.2.2 (it0 T c nt np).2.1 (it0 T c nt np).2.2.1 1 (upI (fun _ _ => 0) 0 (it0 T c nt np).1)
/-- what a text answers, and the town behind it -/
def fTx (nt np : Nat) (r : Nat → Int32) (R : Nat × (Nat → Nat → Int32) × PS) : Sq4 :=
  if R.2.2.2.2.2.2 = true ∨ ¬ R.2.2.2.2.1 = 0 then (-1 - nI R.2.2.1, nt, np, r) else (nI R.1, cS R.2.1 (nt, np, r) R.1)
section VI
variable {T : Nat → Nat} {c nt np : Nat} {r : Nat → Int32} {I : Nat → Nat → Int32} {m tn pn : Nat} {q : PS}
theorem pI2_e {f : Nat} (h : ¬ goC T q) : pI2 T c f q tn pn m I = (m, I, q) := by
  cases f with
  | zero => rfl
  | succ f => exact if_neg h
theorem pI2_g {f : Nat} (h : goC T q) : pI2 T c (f + 1) q tn pn m I = pI2 T c f (pItem T c (pMu T c q (nI 1)) tn pn).2.2.2 (pItem T c (pMu T c q (nI 1)) tn pn).2.1 (pItem T c (pMu T c q (nI 1)) tn pn).2.2.1 (m + 1) (upI I m (pItem T c (pMu T c q (nI 1)) tn pn).1) := if_pos h
theorem cS_u {it : Nat → Int32} {S : S3} : ∀ k, k ≤ m → cS (upI I m it) S k = cS I S k := fun k hk => fo_c k S fun j x hj => by
  show apR x (upI I m it j) = apR x (I j)
  rw [show upI I m it j = I j from if_neg (by omega)]
theorem upI_s {it : Nat → Int32} : upI I m it m = it := if_pos rfl
theorem upI_o {it : Nat → Int32} {k : Nat} (h : k < m) : upI I m it k = I k := if_neg (by omega)
/-- so far all is sound -/
def Vi (nt np : Nat) (r : Nat → Int32) (I : Nat → Nat → Int32) (m tn pn : Nat) (q : PS) : Prop := q.2.2.2.2 = false → (cS I (nt, np, r) m).1 = tn ∧ (cS I (nt, np, r) m).2.1 = pn ∧ Gd tn pn (cS I (nt, np, r) m).2.2 ∧ tn + pn = nt + np + m ∧ ∀ k, k < m → OkI (cS I (nt, np, r) k).1 (cS I (nt, np, r) k).2.1 (I k)
theorem apR_gd {S : S3} {it : Nat → Int32} (h : Gd S.1 S.2.1 S.2.2) (g : OkI S.1 S.2.1 it) : Gd (apR S it).1 (apR S it).2.1 (apR S it).2.2 := by
  rcases g with ⟨k, hk, e, p8, g1, g2, g3, g4, g5, g6⟩ | ⟨e, t8, g1, g2, g3, g4, g5, g6⟩
  · have hn : ¬ it 0 = nI 10 := fun z => by have := jI_inj (by omega) (by decide) (e.symm.trans z); omega
    rw [show apR S it = (S.1, S.2.1 + 1, joinR S.2.2 S.2.1 (it 0) (it 1) (it 2) (it 3) (it 4) (it 5) (it 6)) from if_neg hn]
    exact h.join p8 ⟨k, by omega, e⟩ g1 g2 g3 g4 g5 g6
  · rw [show apR S it = (S.1 + 1, S.2.1, addR S.2.2 S.1 (it 1) (it 2) (it 3) (it 4) (it 5) (it 6)) from if_pos e]
    exact h.add t8 g1 g2 g3 g4 g5 g6
theorem pItem_n : (pItem T c q tn pn).2.1 + (pItem T c q tn pn).2.2.1 = tn + pn + 1 := by
  unfold pItem
  split <;> (dsimp only; omega)
theorem pItem_ap (h : Pk c q) (ht : tn ≤ 8) (hp : pn ≤ 8) (g : (pItem T c q tn pn).2.2.2.2.2.2.2 = false) (S : S3) (h1 : S.1 = tn) (h2 : S.2.1 = pn) : (apR S (pItem T c q tn pn).1).1 = (pItem T c q tn pn).2.1 ∧ (apR S (pItem T c q tn pn).1).2.1 = (pItem T c q tn pn).2.2.1 := by
  by_cases e : pKd T q 7 < 0
  · rw [show pItem T c q tn pn = ((pThg T c q tn pn).1, tn + 1, pn, (pThg T c q tn pn).2) from if_pos e]
    rw [show apR S (pThg T c q tn pn).1 = _ from if_pos rfl]
    exact ⟨by rw [← h1], h2⟩
  · obtain ⟨k, hk, ek, -⟩ := pKd_nn e
    rw [show pItem T c q tn pn = ((pPer T c q (pKd T q 7) pn).1, tn, pn + 1, (pPer T c q (pKd T q 7) pn).2) from if_neg e]
    have e0 : (pPer T c q (pKd T q 7) pn).1 0 = pKd T q 7 := by
      unfold pPer
      split <;> rfl
    have hn : ¬ (pPer T c q (pKd T q 7) pn).1 0 = nI 10 := fun z => by have := jI_inj (by omega) (by decide) (ek.symm.trans (e0.symm.trans z)); omega
    rw [show apR S (pPer T c q (pKd T q 7) pn).1 = _ from if_neg hn]
    exact ⟨h1, by rw [← h2]⟩
theorem Vi.step {q1 : PS} (h : Vi nt np r I m tn pn q) (hw : q.2.2.2.2 = false) (hp : Pk c q1) : Vi nt np r (upI I m (pItem T c q1 tn pn).1) (m + 1) (pItem T c q1 tn pn).2.1 (pItem T c q1 tn pn).2.2.1 (pItem T c q1 tn pn).2.2.2 := by
  intro g
  obtain ⟨h1, h2, h3, h4, h5⟩ := h hw
  have ok := pItem_ok hp h3.2.2.1.1 h3.2.2.1.2.1 g
  obtain ⟨a1, a2⟩ := pItem_ap hp h3.2.2.1.1 h3.2.2.1.2.1 g (cS I (nt, np, r) m) h1 h2
  have e : cS (upI I m (pItem T c q1 tn pn).1) (nt, np, r) (m + 1) = apR (cS I (nt, np, r) m) (pItem T c q1 tn pn).1 := by
    show apR (cS (upI I m (pItem T c q1 tn pn).1) (nt, np, r) m) (upI I m (pItem T c q1 tn pn).1 m) = _
    rw [upI_s, cS_u m (Nat.le_refl _)]
  rw [e]
  refine ⟨a1, a2, ?_, by have := pItem_n (T := T) (c := c) (q := q1) (tn := tn) (pn := pn); omega, fun k hk => ?_⟩
  · rw [← a1, ← a2]
    exact apR_gd (by rw [h1, h2]; exact h3) (by rw [h1, h2]; exact ok)
  · rw [cS_u k (by omega)]
    by_cases hkm : k = m
    · subst hkm
      rw [upI_s, h1, h2]; exact ok
    · rw [upI_o (by omega)]
      exact h5 k (by omega)
theorem Vi.le (h : Vi nt np r I m tn pn q) (hw : q.2.2.2.2 = false) : m ≤ 16 ∧ tn ≤ 8 ∧ pn ≤ 8 := by
  obtain ⟨h1, h2, h3, h4, h5⟩ := h hw
  have := h3.2.2.1.1
  have := h3.2.2.1.2.1
  omega
theorem Vi.zero (h : Gd nt np r) : Vi nt np r I 0 nt np q := fun _ => ⟨rfl, rfl, h, rfl, fun _ hk => absurd hk (Nat.not_lt_zero _)⟩
theorem pMu_g (hw : q.2.2.2.2 = false) : pMu T c q (nI 1) = pNx T c q.2.1 := if_neg fun z => z.elim (fun z => absurd (hw.symm.trans z) (by decide)) (fun z => absurd z (by decide))
/-- all in all -/
def Ve (nt np : Nat) (r : Nat → Int32) (R : Nat × (Nat → Nat → Int32) × PS) : Prop := R.2.2.2.2.2.2 = false → Gd (cS R.2.1 (nt, np, r) R.1).1 (cS R.2.1 (nt, np, r) R.1).2.1 (cS R.2.1 (nt, np, r) R.1).2.2 ∧ R.1 ≤ 16 ∧ ∀ k, k < R.1 → OkI (cS R.2.1 (nt, np, r) k).1 (cS R.2.1 (nt, np, r) k).2.1 (R.2.1 k)
theorem Vi.ve (h : Vi nt np r I m tn pn q) : Ve nt np r (m, I, q) := fun g => by
  obtain ⟨h1, h2, h3, h4, h5⟩ := h g
  exact ⟨by rw [h1, h2]; exact h3, (h.le g).1, h5⟩
theorem pI2_ve : ∀ (f m tn pn : Nat) (q : PS) (I : Nat → Nat → Int32), Pk c q → Vi nt np r I m tn pn q → Ve nt np r (pI2 T c f q tn pn m I) := by
  intro f
  induction f with
  | zero => intro m tn pn q I _ h; exact h.ve
  | succ f ih =>
    intro m tn pn q I hp h
    by_cases g : goC T q
    · rw [pI2_g g]
      have hp1 : Pk c (pMu T c q (nI 1)) := (pMu_pk hp).1
      exact ih _ _ _ _ _ (pItem_pk hp1) (h.step g.1 hp1)
    · rw [pI2_e g]
      exact h.ve
theorem pTx_ve (hc : c ≤ 120) (h : Gd nt np r) : Ve nt np r (pTx T c nt np) := by
  have hp : Pk c (pNx T c 0) := (pNx_pk hc (Nat.zero_le _)).1
  exact pI2_ve _ _ _ _ _ _ (pItem_pk hp) ((Vi.zero (q := pNx T c 0) h).step pNx_w hp)
theorem Gd.text (hc : c ≤ 120) (h : Gd nt np r) : Gd (fTx nt np r (pTx T c nt np)).2.1 (fTx nt np r (pTx T c nt np)).2.2.1 (fTx nt np r (pTx T c nt np)).2.2.2 := by
  have hv := pTx_ve (T := T) hc h
  unfold fTx
  split
  · exact h
  · rename_i g
    have hw : (pTx T c nt np).2.2.2.2.2.2 = false := by
      cases e : (pTx T c nt np).2.2.2.2.2.2 with
      | false => rfl
      | true => exact absurd (Or.inl e) g
    exact (hv hw).1
end VI
section RX
variable {X : mSc} {Q : Option Value → mHp → Prop} {M : mM} {T : Nat → Nat} {c : Nat}
/-- items in their cells -/
def Ic (I : Nat → Nat → Int32) (m : Nat) (M : mM) : Prop := ∀ k, k < m → ∀ j, j < 7 → M 75 (7 * k + j) = I k j
def Sg (T : Nat → Nat) (c : Nat) (q : PS) (m tn pn : Nat) (I : Nat → Nat → Int32) (M0 M : mM) : Prop := RT T c q M ∧ M 66 17 = nI m ∧ M 66 18 = nI tn ∧ M 66 19 = nI pn ∧ Lt M0 M ∧ Ic I m M
/-- a text's end -/
def Fx (q : Sq4) (M0 : mM) (v : Int32) (M' : mM) : Prop := v = q.1 ∧ M' 67 = q.2.2.2 ∧ (∀ a, a ≠ 66 → a ≠ 67 → a ≠ 75 → M' a = M0 a) ∧ (∀ x, x < 9 → M' 66 x = M0 66 x) ∧ M' 66 9 = nI 0
theorem lkt67 {n k : Nat} {a b d : Int32} : lkt (joinT M n a b d) n k 4 67 = joinR (M 67) n a b d (M 75 (7 * k + 3)) (M 75 (7 * k + 4)) (M 75 (7 * k + 5)) (M 75 (7 * k + 6)) := by
  have e75 : ∀ i, lkt (joinT M n a b d) n k i 75 = M 75 := fun i => (lkt_c (by decide) i).trans (joinT_o (by decide))
  show mput (mput (mput (mput (joinT M n a b d) 67 _ (lkt (joinT M n a b d) n k 0 75 _)) 67 _ (lkt (joinT M n a b d) n k 1 75 _)) 67 _ (lkt (joinT M n a b d) n k 2 75 _)) 67 _ (lkt (joinT M n a b d) n k 3 75 _) 67 = _
  rw [e75, e75, e75, e75, mput67, mput67, mput67, mput67, joinT_67, joinR_u3, joinR_u4, joinR_u5, joinR_u6]
theorem cS_1 {I : Nat → Nat → Int32} {S : S3} (h1 : S.2.2 1 = nI S.1) (h2 : S.2.2 2 = nI S.2.1) : ∀ k, (cS I S k).2.2 1 = nI (cS I S k).1 ∧ (cS I S k).2.2 2 = nI (cS I S k).2.1 := by
  intro k
  induction k with
  | zero => exact ⟨h1, h2⟩
  | succ k ih =>
    show (apR (cS I S k) (I k)).2.2 1 = nI (apR (cS I S k) (I k)).1 ∧ (apR (cS I S k) (I k)).2.2 2 = nI (apR (cS I S k) (I k)).2.1
    unfold apR
    split
    · dsimp only
      refine ⟨?_, ?_⟩
      · exact addR_at.2.2.2.2.2.2
      · rw [addR_o (by decide) (by omega)]; exact ih.2
    · dsimp only
      refine ⟨?_, ?_⟩
      · rw [joinR_o (by decide) (by omega)]; exact ih.1
      · exact joinR_at.2.2.2.2.2.2.2
theorem k220f {mm nt np : Nat} {I : Nat → Nat → Int32} (hmm : mm ≤ 17) (hnt : M 67 1 = nI nt) (hnp : M 67 2 = nI np) (hok : ∀ k, k < mm → OkI (cS I (nt, np, M 67) k).1 (cS I (nt, np, M 67) k).2.1 (I k)) : ∀ (z k : Nat) (M1 : mM), mm - k < z → k ≤ mm → Ic I mm M1 → M1 66 17 = nI mm → M1 67 = (cS I (nt, np, M 67) k).2.2 → (∀ a, a ≠ 66 → a ≠ 67 → a ≠ 75 → M1 a = M a) → (∀ x, x < 9 → M1 66 x = M 66 x) → M1 66 9 = nI 0 → mEv X (QI (Fx (nI mm, cS I (nt, np, M 67) mm) M)) 220 123 [some (.ref 66), some (.int (nI k)), some (.int (nI k))] [] (con M1) := by
  have hm : mMet 220 = some _ := rfl
  intro z
  induction z with
  | zero =>
    intro k M1 hkn hkb hic h17 h67 hfr h66 h669
    omega
  | succ z ih =>
    intro k M1 hkn hkb hic h17 h67 hfr h66 h669
    obtain ⟨c1, c2⟩ := cS_1 (I := I) (S := (nt, np, M 67)) hnt hnp k
    refine x_iload_n hm rfl rfl ?_
    refine x_aload_n hm rfl rfl ?_
    refine x_getf hm rfl (gI rfl rfl) ?_
    rw [h17]
    refine x_icmp_ge hm rfl (t := 156) rfl (fun h1 => ?_) (fun h1 => ?_)
    · obtain rfl : k = mm := Nat.le_antisymm hkb ((jI_le (by omega) (by omega)).mp h1)
      refine x_iload_n hm rfl rfl ?_
      refine x_iret hm rfl rfl (by first | rfl | exact bI_nar | decide) ?_
      exact ⟨_, _, rfl, rfl, rfl, h67, hfr, h66, h669⟩
    · have hk : k < mm := Nat.lt_of_not_le fun h => h1 (nI_le h (by omega))
      have hi := hic k hk
      have e0 : M1 75 (7 * k) = I k 0 := hi 0 (by decide)
      refine x_iload_n hm rfl rfl ?_
      refine x_aload_n hm rfl rfl ?_
      refine x_bipush hm rfl (v := nI 7) (by decide) ?_
      refine x_iload_n hm rfl rfl ?_
      refine x_imul hm rfl ?_
      rw [jI_mul]
      rcases hok k hk with ⟨kk, hk7, hq, p8, -⟩ | ⟨hq, t8, -⟩
      · refine x_callV hm rfl rfl (u230b (n := (cS I (nt, np, M 67) k).2.1) (by omega) hk7 (e0.trans hq) (by rw [h67]; exact c2) p8) ?_
        refine x_if_ge hm rfl (t := 147) rfl (fun h9 => ?_) (fun h9 => absurd (ge0 (by omega)) h9)
        refine x_iconst hm rfl (v := nI 1) (by decide) ?_
        refine x_iadd hm rfl ?_
        rw [jI_add]
        refine x_istore_n hm rfl rfl ?_
        refine x_iinc hm rfl rfl (v := nI 1) (by decide) rfl ?_
        rw [jI_add]
        refine x_goto hm rfl (t := 123) rfl ?_
        have hn : ¬ I k 0 = nI 10 := fun w => by have := jI_inj (by omega) (by decide) (hq.symm.trans w); omega
        have ea : cS I (nt, np, M 67) (k + 1) = _ := (show apR (cS I (nt, np, M 67) k) (I k) = _ from if_neg hn)
        have o : ∀ a, a ≠ 67 → lkt (joinT M1 (cS I (nt, np, M 67) k).2.1 (M1 75 (7 * k)) (M1 75 (7 * k + 1)) (M1 75 (7 * k + 2))) (cS I (nt, np, M 67) k).2.1 k 4 a = M1 a := fun a ha => (lkt_c ha 4).trans (joinT_o ha)
        refine ih (k + 1) _ (by omega) (by omega) (fun u hu j hj => (congrFun (o 75 (by decide)) _).trans (hic u hu j hj)) ((congrFun (o 66 (by decide)) 17).trans h17) ?_ (fun a g1 g2 g3 => (o a g2).trans (hfr a g1 g2 g3)) (fun x hx => (congrFun (o 66 (by decide)) x).trans (h66 x hx)) ((congrFun (o 66 (by decide)) 9).trans h669)
        rw [lkt67, ea, h67, e0, hi 1 (by decide), hi 2 (by decide), hi 3 (by decide), hi 4 (by decide), hi 5 (by decide), hi 6 (by decide)]
      · refine x_callV hm rfl rfl (u230a (n := (cS I (nt, np, M 67) k).1) (by omega) (e0.trans hq) (by rw [h67]; exact c1) t8) ?_
        refine x_if_ge hm rfl (t := 147) rfl (fun h9 => ?_) (fun h9 => absurd (ge0 (by omega)) h9)
        refine x_iconst hm rfl (v := nI 1) (by decide) ?_
        refine x_iadd hm rfl ?_
        rw [jI_add]
        refine x_istore_n hm rfl rfl ?_
        refine x_iinc hm rfl rfl (v := nI 1) (by decide) rfl ?_
        rw [jI_add]
        refine x_goto hm rfl (t := 123) rfl ?_
        have ea : cS I (nt, np, M 67) (k + 1) = _ := (show apR (cS I (nt, np, M 67) k) (I k) = _ from if_pos hq)
        have o : ∀ a, a ≠ 67 → addT M1 (cS I (nt, np, M 67) k).1 (M1 75 (7 * k + 1)) (M1 75 (7 * k + 2)) (M1 75 (7 * k + 3)) (M1 75 (7 * k + 4)) (M1 75 (7 * k + 5)) (M1 75 (7 * k + 6)) a = M1 a := fun a ha => addT_o ha
        refine ih (k + 1) _ (by omega) (by omega) (fun u hu j hj => (congrFun (o 75 (by decide)) _).trans (hic u hu j hj)) ((congrFun (o 66 (by decide)) 17).trans h17) ?_ (fun a g1 g2 g3 => (o a g2).trans (hfr a g1 g2 g3)) (fun x hx => (congrFun (o 66 (by decide)) x).trans (h66 x hx)) ((congrFun (o 66 (by decide)) 9).trans h669)
        rw [addT_67, ea, h67, hi 1 (by decide), hi 2 (by decide), hi 3 (by decide), hi 4 (by decide), hi 5 (by decide), hi 6 (by decide)]
theorem k220e {nt np : Nat} (hnt : M 67 1 = nI nt) (hnp : M 67 2 = nI np) (h8 : ∀ k, k < c → T k < 256) {q : PS} {m tn pn : Nat} {I : Nat → Nat → Int32} {x1 x2 : Option Value} {M1 : mM} (hm17 : m ≤ 17) (hV : Ve nt np (M 67) (m, I, q)) (hS : Sg T c q m tn pn I M M1) : mEv X (QI (Fx (fTx nt np (M 67) (m, I, q)) M)) 220 84 [some (.ref 66), x1, x2] [] (con M1) := by
  have hm : mMet 220 = some _ := rfl
  obtain ⟨hR, h17, h18, h19, hL, hic⟩ := hS
  refine x_aload_n hm rfl rfl ?_
  refine x_aload_n hm rfl rfl ?_
  refine x_getf hm rfl (gI rfl rfl) ?_
  rw [hR.2.2.1]
  refine x_if_ne hm rfl (t := 96) rfl (fun h1 => ?_) (fun h1 => ?_)
  · have hs0 : ¬ q.2.2.1 = 0 := fun e => h1 (by rw [e]; rfl)
    refine x_iconst hm rfl (v := nI 0) (by decide) ?_
    obtain ⟨M3, c3, k1, k2⟩ := k226 (X := X) hR h8
    refine x_callV hm rfl rfl c3 ?_
    have fa : ∀ a, a ≠ 66 → a ≠ 75 → mput M3 66 9 (nI 0) a = M a := fun a g1 g3 => (mpo g1).trans (funext fun x => ((k2 a x (Or.inl g1)).trans (hL a x (Or.inl g1) g3)))
    have fb : ∀ x, x < 9 → mput M3 66 9 (nI 0) 66 x = M 66 x := fun x hx => (mpf (by omega)).trans ((k2 66 x (by omega)).trans (hL 66 x (by omega) (by decide)))
    refine x_aload_n hm rfl rfl ?_
    refine x_iconst hm rfl (v := nI 0) (by decide) ?_
    refine x_putf hm rfl (pI rfl rfl (by decide) (by first | exact mFit_int | rfl | decide) rfl) ?_
    refine x_aload_n hm rfl rfl ?_
    refine x_getf hm rfl (gI rfl rfl) ?_
    refine x_if_eq hm rfl (t := 119) rfl (fun h9 => ?_) (fun h9 => ?_)
    · rw [mpf (by decide)] at h9
      have hf := k1.ff h9
      obtain ⟨f1, f2⟩ := pMu_ok hf
      first
        | exact absurd rfl f2
        | (have hq : fTx nt np (M 67) (m, I, q) = (nI m, cS I (nt, np, M 67) m) := if_neg (fun z => z.elim (fun z => absurd (f1.symm.trans z) (by decide)) (fun z => z hs0))
           rw [hq]
           obtain ⟨v1, v2, v3⟩ := hV f1
           refine x_iconst hm rfl (v := nI 0) (by decide) ?_
           refine x_istore_n hm rfl rfl ?_
           refine x_iconst hm rfl (v := nI 0) (by decide) ?_
           refine x_istore_n hm rfl rfl ?_
           exact k220f (mm := m) (I := I) hm17 hnt hnp v3 _ 0 _ (Nat.lt_succ_self _) (Nat.zero_le _) (fun u hu j hj => (congrFun (mpo (by decide)) _).trans ((k2 75 _ (by omega)).trans (hic u hu j hj))) ((mpf (by decide)).trans ((k2 66 17 (by omega)).trans h17)) (fa 67 (by decide) (by decide)) (fun a g1 g2 g3 => fa a g1 g3) fb mp0)
    · rw [mpf (by decide)] at h9
      have hf := k1.fw h9
      have hq : fTx nt np (M 67) (m, I, q) = (-1 - nI q.1, nt, np, M 67) := by
        refine if_pos ?_
        by_cases w : q.2.2.2.2 = true
        · exact Or.inl w
        · refine Or.inr fun z => ?_
          first
            | exact hs0 z
            | (rw [show pMu T c q (nI 1) = pNx T c q.2.1 from if_neg (fun z => z.elim w (fun z => absurd z (by decide))), pNx_w] at hf
               exact absurd hf (by decide))
      have hb : M3 66 10 = nI q.1 := by
        have hb1 := k1.1
        first
          | rw [show pMu T c q (nI 0) = (q.1, q.2.1, q.2.2.1, q.2.2.2.1, true) from if_pos (Or.inr rfl)] at hb1; exact hb1
          | (by_cases w : q.2.2.2.2 = true
             · rw [pMu_w w] at hb1; exact hb1
             · rw [show pMu T c q (nI 1) = pNx T c q.2.1 from if_neg (fun z => z.elim w (fun z => absurd z (by decide))), pNx_w] at hf
               exact absurd hf (by decide))
          | exact hb1
      refine x_iconst hm rfl (v := -1) (by decide) ?_
      refine x_aload_n hm rfl rfl ?_
      refine x_getf hm rfl (gI rfl rfl) ?_
      rw [mpf (by decide), hb]
      refine x_isub hm rfl ?_
      refine x_iret hm rfl rfl (by first | rfl | exact bI_nar | decide) ?_
      exact ⟨_, _, rfl, rfl, by rw [hq], by rw [hq]; exact fa 67 (by decide) (by decide), fun a g1 _ g3 => fa a g1 g3, fb, mp0⟩
  · have hs0 : q.2.2.1 = 0 := jI_inj (b := 0) (by have := hR.2.2.2.2.2.2.2.2.2.2.2.1; omega) (by decide) h1
    refine x_iconst hm rfl (v := nI 1) (by decide) ?_
    refine x_goto hm rfl (t := 97) rfl ?_
    obtain ⟨M3, c3, k1, k2⟩ := k226 (X := X) hR h8
    refine x_callV hm rfl rfl c3 ?_
    have fa : ∀ a, a ≠ 66 → a ≠ 75 → mput M3 66 9 (nI 0) a = M a := fun a g1 g3 => (mpo g1).trans (funext fun x => ((k2 a x (Or.inl g1)).trans (hL a x (Or.inl g1) g3)))
    have fb : ∀ x, x < 9 → mput M3 66 9 (nI 0) 66 x = M 66 x := fun x hx => (mpf (by omega)).trans ((k2 66 x (by omega)).trans (hL 66 x (by omega) (by decide)))
    refine x_aload_n hm rfl rfl ?_
    refine x_iconst hm rfl (v := nI 0) (by decide) ?_
    refine x_putf hm rfl (pI rfl rfl (by decide) (by first | exact mFit_int | rfl | decide) rfl) ?_
    refine x_aload_n hm rfl rfl ?_
    refine x_getf hm rfl (gI rfl rfl) ?_
    refine x_if_eq hm rfl (t := 119) rfl (fun h9 => ?_) (fun h9 => ?_)
    · rw [mpf (by decide)] at h9
      have hf := k1.ff h9
      obtain ⟨f1, f2⟩ := pMu_ok hf
      first
        | exact absurd rfl f2
        | (have hq : fTx nt np (M 67) (m, I, q) = (nI m, cS I (nt, np, M 67) m) := if_neg (fun z => z.elim (fun z => absurd (f1.symm.trans z) (by decide)) (fun z => z hs0))
           rw [hq]
           obtain ⟨v1, v2, v3⟩ := hV f1
           refine x_iconst hm rfl (v := nI 0) (by decide) ?_
           refine x_istore_n hm rfl rfl ?_
           refine x_iconst hm rfl (v := nI 0) (by decide) ?_
           refine x_istore_n hm rfl rfl ?_
           exact k220f (mm := m) (I := I) hm17 hnt hnp v3 _ 0 _ (Nat.lt_succ_self _) (Nat.zero_le _) (fun u hu j hj => (congrFun (mpo (by decide)) _).trans ((k2 75 _ (by omega)).trans (hic u hu j hj))) ((mpf (by decide)).trans ((k2 66 17 (by omega)).trans h17)) (fa 67 (by decide) (by decide)) (fun a g1 g2 g3 => fa a g1 g3) fb mp0)
    · rw [mpf (by decide)] at h9
      have hf := k1.fw h9
      have hq : fTx nt np (M 67) (m, I, q) = (-1 - nI q.1, nt, np, M 67) := by
        refine if_pos ?_
        by_cases w : q.2.2.2.2 = true
        · exact Or.inl w
        · refine Or.inr fun z => ?_
          first
            | exact hs0 z
            | (rw [show pMu T c q (nI 1) = pNx T c q.2.1 from if_neg (fun z => z.elim w (fun z => absurd z (by decide))), pNx_w] at hf
               exact absurd hf (by decide))
      have hb : M3 66 10 = nI q.1 := by
        have hb1 := k1.1
        first
          | rw [show pMu T c q (nI 0) = (q.1, q.2.1, q.2.2.1, q.2.2.2.1, true) from if_pos (Or.inr rfl)] at hb1; exact hb1
          | (by_cases w : q.2.2.2.2 = true
             · rw [pMu_w w] at hb1; exact hb1
             · rw [show pMu T c q (nI 1) = pNx T c q.2.1 from if_neg (fun z => z.elim w (fun z => absurd z (by decide))), pNx_w] at hf
               exact absurd hf (by decide))
          | exact hb1
      refine x_iconst hm rfl (v := -1) (by decide) ?_
      refine x_aload_n hm rfl rfl ?_
      refine x_getf hm rfl (gI rfl rfl) ?_
      rw [mpf (by decide), hb]
      refine x_isub hm rfl ?_
      refine x_iret hm rfl rfl (by first | rfl | exact bI_nar | decide) ?_
      exact ⟨_, _, rfl, rfl, by rw [hq], by rw [hq]; exact fa 67 (by decide) (by decide), fun a g1 _ g3 => fa a g1 g3, fb, mp0⟩
theorem k220l {nt np : Nat} (hnt : M 67 1 = nI nt) (hnp : M 67 2 = nI np) (h8 : ∀ k, k < c → T k < 256) : ∀ (z m : Nat) (q : PS) (tn pn : Nat) (I : Nat → Nat → Int32) (x1 x2 : Option Value) (M1 : mM), 17 - m < z → m ≤ 17 → 1 ≤ m → Vi nt np (M 67) I m tn pn q → Sg T c q m tn pn I M M1 → mEv X (QI (Fx (fTx nt np (M 67) (pI2 T c (17 - m) q tn pn m I)) M)) 220 43 [some (.ref 66), x1, x2] [] (con M1) := by
  have hm : mMet 220 = some _ := rfl
  intro z
  induction z with
  | zero =>
    intro m q tn pn I x1 x2 M1 hz hm17 hm1 hV hS
    omega
  | succ z ih =>
    intro m q tn pn I x1 x2 M1 hz hm17 hm1 hV hS
    obtain ⟨hR, h17, h18, h19, hL, hic⟩ := id hS
    obtain ⟨b1, b2, b3, b4, b5, b6⟩ := id hR.2.2.2.2.2.2.2
    refine x_aload_n hm rfl rfl ?_
    refine x_getf hm rfl (gI rfl rfl) ?_
    refine x_if_ne hm rfl (t := 84) rfl (fun h1 => ?_) (fun h1 => ?_)
    · have hng : ¬ goC T q := fun z => absurd (z.1.symm.trans (hR.fw h1)) (by decide)
      rw [pI2_e hng]
      exact k220e hnt hnp h8 hm17 hV.ve hS
    · have hw := hR.ff h1
      refine x_aload_n hm rfl rfl ?_
      refine x_getf hm rfl (gI rfl rfl) ?_
      rw [hR.2.2.1]
      refine x_iconst hm rfl (v := nI 3) (by decide) ?_
      refine x_icmp_ne hm rfl (t := 84) rfl (fun h2 => ?_) (fun h2 => ?_)
      · have hng : ¬ goC T q := fun z => h2 (by rw [z.2.1])
        rw [pI2_e hng]
        exact k220e hnt hnp h8 hm17 hV.ve hS
      · have hs3 : q.2.2.1 = 3 := jI_inj (by omega) (by decide) h2
        have hbc : q.1 < c := Nat.lt_of_lt_of_le (b4 (by rw [hs3]; decide)) b3
        have hx8 := h8 _ hbc
        refine x_aload_n hm rfl rfl ?_
        refine x_getf hm rfl (gR rfl rfl) ?_
        refine x_aload_n hm rfl rfl ?_
        refine x_getf hm rfl (gI rfl rfl) ?_
        rw [hR.1]
        refine x_iald hm rfl (lI rfl (by omega) (by decide)) ?_
        rw [hR.2.2.2.2.2.2.1 _ hbc]
        refine x_bipush hm rfl (v := nI 59) (by decide) ?_
        refine x_icmp_ne hm rfl (t := 84) rfl (fun h3 => ?_) (fun h3 => ?_)
        · have hng : ¬ goC T q := fun z => h3 (by rw [z.2.2])
          rw [pI2_e hng]
          exact k220e hnt hnp h8 hm17 hV.ve hS
        · have hgo : goC T q := ⟨hw, hs3, jI_inj (by omega) (by decide) h3⟩
          obtain ⟨l1, l2, l3⟩ := hV.le hw
          obtain ⟨f, hf⟩ : ∃ f, 17 - m = f + 1 := ⟨16 - m, by omega⟩
          rw [hf, pI2_g hgo]
          refine x_aload_n hm rfl rfl ?_
          refine x_iconst hm rfl (v := nI 1) (by decide) ?_
          obtain ⟨M2, c2, r2⟩ := v226k (X := X) (x := nI 1) (M0 := M1) h8 ⟨hR, h17, h18, h19, Lw.rf⟩
          refine x_callV hm rfl rfl c2 ?_
          refine x_aload_n hm rfl rfl ?_
          obtain ⟨M3, c3, r3⟩ := k223 (X := X) h8 (by omega) l2 l3 r2
          refine x_callV hm rfl rfl c3 ?_
          refine x_goto hm rfl (t := 43) rfl ?_
          rw [show f = 17 - (m + 1) by omega]
          refine ih (m + 1) _ _ _ _ _ _ _ (by omega) (by omega) (by omega) (hV.step hw (pMu_pk ⟨b1, b2, b3, b4, b5, b6⟩).1) ⟨r3.1, r3.2.1, r3.2.2.1, r3.2.2.2.1, hL.trans r3.2.2.2.2.2.lt, fun u hu j hj => ?_⟩
          by_cases e : u = m
          · subst e
            rw [upI_s]
            exact r3.2.2.2.2.1 j hj
          · rw [upI_o (by omega)]
            exact (r3.2.2.2.2.2 75 _ (by omega) (by omega)).trans (hic u (by omega) j hj)
theorem k220 {nt np : Nat} (hnt : M 67 1 = nI nt) (hnp : M 67 2 = nI np) (h8 : ∀ k, k < c → T k < 256) (hc1 : c ≤ 120) (hc9 : M 66 9 = nI c) (hT : ∀ k, k < c → M 73 k = nI (T k)) (hG : Gd nt np (M 67)) : ∃ v M', mT X 220 [.ref 66] (con M) (some (.int v)) (con M') ∧ Fx (fTx nt np (M 67) (pTx T c nt np)) M v M' := by
  refine ti_of (row := _) rfl (Nat.le_of_ble_eq_true rfl) ?_
  have hm : mMet 220 = some _ := rfl
  refine x_aload_n hm rfl rfl ?_
  refine x_iconst hm rfl (v := nI 0) (by decide) ?_
  refine x_putf hm rfl (pI rfl rfl (by decide) (by first | exact mFit_int | rfl | decide) rfl) ?_
  refine x_aload_n hm rfl rfl ?_
  refine x_iconst hm rfl (v := nI 0) (by decide) ?_
  refine x_putf hm rfl (pI rfl rfl (by decide) (by first | exact mFit_int | rfl | decide) rfl) ?_
  refine x_aload_n hm rfl rfl ?_
  refine x_iconst hm rfl (v := nI 0) (by decide) ?_
  refine x_putf hm rfl (pI rfl rfl (by decide) (by first | exact mFit_int | rfl | decide) rfl) ?_
  refine x_aload_n hm rfl rfl ?_
  refine x_aload_n hm rfl rfl ?_
  refine x_getf hm rfl (gR rfl rfl) ?_
  refine x_iconst hm rfl (v := nI 1) (by decide) ?_
  refine x_iald hm rfl (lI rfl (by omega) (by decide)) ?_
  refine x_putf hm rfl (pI rfl rfl (by decide) (by first | exact mFit_int | rfl | decide) rfl) ?_
  refine x_aload_n hm rfl rfl ?_
  refine x_aload_n hm rfl rfl ?_
  refine x_getf hm rfl (gR rfl rfl) ?_
  refine x_iconst hm rfl (v := nI 2) (by decide) ?_
  refine x_iald hm rfl (lI rfl (by omega) (by decide)) ?_
  refine x_putf hm rfl (pI rfl rfl (by decide) (by first | exact mFit_int | rfl | decide) rfl) ?_
  generalize hM0 : mput (mput (mput (mput (mput M 66 11 (nI 0)) 66 14 (nI 0)) 66 17 (nI 0)) 66 18 _) 66 19 _ = M0
  have hL0 : Lt M M0 := by
    rw [← hM0]
    exact ((((Lt.put (by decide)).trans (Lt.put (by decide))).trans (Lt.put (by decide))).trans (Lt.put (by decide))).trans (Lt.put (by decide))
  have q17 : M0 66 17 = nI 0 := by rw [← hM0, mpf (by decide), mpf (by decide)]; exact mp0
  have q18 : M0 66 18 = nI nt := by rw [← hM0, mpf (by decide), mp0]; exact hnt
  have q19 : M0 66 19 = nI np := by rw [← hM0, mp0]; exact hnp
  have q11 : M0 66 11 = nI 0 := by rw [← hM0, mpf (by decide), mpf (by decide), mpf (by decide), mpf (by decide)]; exact mp0
  have q14 : M0 66 14 = nI 0 := by rw [← hM0, mpf (by decide), mpf (by decide), mpf (by decide)]; exact mp0
  have q9 : M0 66 9 = nI c := by rw [hL0 66 9 (by omega) (by omega)]; exact hc9
  have q73 : ∀ k, k < c → M0 73 k = nI (T k) := fun k hk => (hL0 73 k (by omega) (by omega)).trans (hT k hk)
  obtain ⟨M2, c2, g1, g2⟩ := k221 (X := X) q11 q9 hc1 q73 h8 q14 (Nat.zero_le _)
  refine x_aload_n hm rfl rfl ?_
  refine x_callV hm rfl rfl c2 ?_
  refine x_aload_n hm rfl rfl ?_
  obtain ⟨M3, c3, r3⟩ := k223 (X := X) (m := 0) (M0 := M2) h8 (by decide) hG.2.2.1.1 hG.2.2.1.2.1 ⟨g1, (g2 66 17 (by omega)).trans q17, (g2 66 18 (by omega)).trans q18, (g2 66 19 (by omega)).trans q19, Lw.rf⟩
  refine x_callV hm rfl rfl c3 ?_
  exact k220l hnt hnp h8 _ 1 _ _ _ _ _ _ _ (Nat.lt_succ_self _) (by decide) (by decide) ((Vi.zero (q := pNx T c 0) (I := fun _ _ => 0) hG).step pNx_w g1.2.2.2.2.2.2.2) ⟨r3.1, r3.2.1, r3.2.2.1, r3.2.2.2.1, (hL0.trans g2.ly.lt).trans r3.2.2.2.2.2.lt, fun u hu j hj => by
    obtain rfl : u = 0 := by omega
    rw [upI_s]
    exact r3.2.2.2.2.1 j hj⟩
end RX
end
section
/-! ===== texts: the class token by token ===== -/
def bt (n : Nat) : Int32 := (nI n).toInt8.toInt32
theorem bt_all : ∀ n, n < 256 → (n < 128 → bt n = nI n) ∧ (128 ≤ n → bt n < 0) := by decide +kernel
theorem bt_in {n lo hi : Nat} (h : n < 256) (hh : hi < 128) (hl : lo ≤ 1000) : (nI lo ≤ bt n ∧ bt n ≤ nI hi) ↔ (lo ≤ n ∧ n ≤ hi) := by
  rcases Nat.lt_or_ge n 128 with g | g
  · rw [(bt_all n h).1 g, jI_le (by omega) (by omega), jI_le (by omega) (by omega)]
  · have e := (bt_all n h).2 g
    refine ⟨fun z => absurd z.1 ?_, fun z => by omega⟩
    rw [Int32.le_iff_toInt_le, jI_int (by omega)]
    rw [Int32.lt_iff_toInt_lt] at e
    have e0 : (0 : Int32).toInt = 0 := by decide +kernel
    omega
theorem bt_eq {n x : Nat} (h : n < 256) (hx : x < 128) : bt n = nI x ↔ n = x := by
  rcases Nat.lt_or_ge n 128 with g | g
  · rw [(bt_all n h).1 g]
    exact ⟨fun e => jI_inj (by omega) (by omega) e, fun e => by rw [e]⟩
  · have e := (bt_all n h).2 g
    refine ⟨fun z => ?_, fun z => by omega⟩
    rw [z, Int32.lt_iff_toInt_lt, jI_int (by omega)] at e
    have e0 : (0 : Int32).toInt = 0 := by decide +kernel
    omega
/-- the class's word for a token's sort -/
def tkc (T : Nat → Nat) (b s : Nat) : Int32 := if s = 3 then (if T b = 59 then nI 3 else nI 4) else nI s
theorem tkc_o {T : Nat → Nat} {b s : Nat} (h : ¬ s = 3) : tkc T b s = nI s := if_neg h
theorem tkc_e {T : Nat → Nat} {b s k : Nat} (hs : s ≤ 3) (hk : k ≤ 2) : tkc T b s = nI k ↔ s = k := by
  by_cases h : s = 3
  · subst h
    refine ⟨fun g => ?_, fun g => by omega⟩
    have e : tkc T b 3 = (if T b = 59 then nI 3 else nI 4) := if_pos rfl
    rw [e] at g
    split at g
    · have := jI_inj (by decide) (by omega) g; omega
    · have := jI_inj (by decide) (by omega) g; omega
  · rw [tkc_o h]
    exact ⟨fun g => jI_inj (by omega) (by omega) g, fun g => by rw [g]⟩
theorem tkc_3 {T : Nat → Nat} {b s : Nat} (hs : s ≤ 3) : tkc T b s = nI 3 ↔ (s = 3 ∧ T b = 59) := by
  by_cases h : s = 3
  · subst h
    have e : tkc T b 3 = (if T b = 59 then nI 3 else nI 4) := if_pos rfl
    rw [e]
    by_cases g : T b = 59
    · rw [if_pos g]; exact ⟨fun _ => ⟨rfl, g⟩, fun _ => rfl⟩
    · rw [if_neg g]; exact ⟨fun z => absurd z (by decide), fun z => absurd z.2 g⟩
  · rw [tkc_o h]
    exact ⟨fun g => absurd (jI_inj (by omega) (by decide) g) h, fun g => absurd g.1 h⟩
/-- the class stands so -/
def CT (T : Nat → Nat) (c : Nat) (q : PS) (M : mM) : Prop := M 52 3 = nI q.1 ∧ M 52 4 = nI q.2.1 ∧ M 52 2 = tkc T q.1 q.2.2.1 ∧ (q.2.2.1 = 2 → M 52 5 = nI q.2.2.2.1) ∧ M 52 6 = (if q.2.2.2.2 = true then nI q.1 else -1) ∧ M 52 1 = nI c ∧ (∀ k, k < c → M 53 k = bt (T k)) ∧ Pk c q
section CV
variable {X : mSc} {Q : Option Value → mHp → Prop} {M : mM} {T : Nat → Nat} {c : Nat}
theorem CT.nx {N : mM} {e b s x v : Nat} (hL : Lc M N) (hc9 : M 52 1 = nI c) (hc1 : c ≤ 120) (hT : ∀ k, k < c → M 53 k = bt (T k)) (h6 : N 52 6 = -1) (hec : e ≤ c) (hq : pNx T c e = (b, x, s, v, false)) (h10 : N 52 3 = nI b) (h11 : N 52 4 = nI x) (h12 : N 52 2 = tkc T b s) (h13 : s = 2 → N 52 5 = nI v) : CT T c (pNx T c e) N := by
  have hp := (pNx_pk (T := T) hc1 hec).1
  rw [hq] at hp ⊢
  exact ⟨h10, h11, h12, h13, h6, (hL 52 1 (by omega)).trans hc9, fun k hk => (hL 53 k (by omega)).trans (hT k hk), hp⟩
theorem pV_s2 {b j e : Nat} (he : e = b + j) (h8 : T e < 256) (hd : 48 ≤ T e) : (if nI (pV T b j) * nI 10 + nI (T e) - nI 48 < nI 1000 then nI (pV T b j) * nI 10 + nI (T e) - nI 48 else nI 1000) = nI (pV T b (j + 1)) := by
  rw [Int32.mul_comm (nI (pV T b j)) (nI 10)]
  exact pV_s he h8 hd
theorem k93 {v : Int32} : mT X 93 [.int v] (con M) (some (.int (bI (nI 97 ≤ v ∧ v ≤ nI 122)))) (con M) := by
  refine mT.of (row := _) rfl (Nat.le_of_ble_eq_true rfl) ?_
  have hm : mMet 93 = some _ := rfl
  refine x_iload_n hm rfl rfl ?_
  refine x_bipush hm rfl (v := nI 97) (by decide) ?_
  refine x_icmp_lt hm rfl (t := 16) rfl (fun h1 => ?_) (fun h1 => ?_)
  · refine x_iconst hm rfl (v := nI 0) (by decide) ?_
    refine x_iret hm rfl rfl (by first | rfl | exact bI_nar | decide) ?_
    first
      | exact qt (congrArg Value.int (bI_t ⟨Int32.not_lt.mp h1, Int32.not_lt.mp h2⟩))
      | exact qt (congrArg Value.int (bI_f fun q => absurd h2 (Int32.not_lt.mpr q.2)))
      | exact qt (congrArg Value.int (bI_f fun q => absurd h1 (Int32.not_lt.mpr q.1)))
  · refine x_iload_n hm rfl rfl ?_
    refine x_bipush hm rfl (v := nI 122) (by decide) ?_
    refine x_icmp_gt hm rfl (t := 16) rfl (fun h2 => ?_) (fun h2 => ?_)
    · refine x_iconst hm rfl (v := nI 0) (by decide) ?_
      refine x_iret hm rfl rfl (by first | rfl | exact bI_nar | decide) ?_
      first
        | exact qt (congrArg Value.int (bI_t ⟨Int32.not_lt.mp h1, Int32.not_lt.mp h2⟩))
        | exact qt (congrArg Value.int (bI_f fun q => absurd h2 (Int32.not_lt.mpr q.2)))
        | exact qt (congrArg Value.int (bI_f fun q => absurd h1 (Int32.not_lt.mpr q.1)))
    · refine x_iconst hm rfl (v := nI 1) (by decide) ?_
      refine x_goto hm rfl (t := 17) rfl ?_
      refine x_iret hm rfl rfl (by first | rfl | exact bI_nar | decide) ?_
      first
        | exact qt (congrArg Value.int (bI_t ⟨Int32.not_lt.mp h1, Int32.not_lt.mp h2⟩))
        | exact qt (congrArg Value.int (bI_f fun q => absurd h2 (Int32.not_lt.mpr q.2)))
        | exact qt (congrArg Value.int (bI_f fun q => absurd h1 (Int32.not_lt.mpr q.1)))
theorem k94 {v : Int32} : mT X 94 [.int v] (con M) (some (.int (bI (nI 48 ≤ v ∧ v ≤ nI 57)))) (con M) := by
  refine mT.of (row := _) rfl (Nat.le_of_ble_eq_true rfl) ?_
  have hm : mMet 94 = some _ := rfl
  refine x_iload_n hm rfl rfl ?_
  refine x_bipush hm rfl (v := nI 48) (by decide) ?_
  refine x_icmp_lt hm rfl (t := 16) rfl (fun h1 => ?_) (fun h1 => ?_)
  · refine x_iconst hm rfl (v := nI 0) (by decide) ?_
    refine x_iret hm rfl rfl (by first | rfl | exact bI_nar | decide) ?_
    first
      | exact qt (congrArg Value.int (bI_t ⟨Int32.not_lt.mp h1, Int32.not_lt.mp h2⟩))
      | exact qt (congrArg Value.int (bI_f fun q => absurd h2 (Int32.not_lt.mpr q.2)))
      | exact qt (congrArg Value.int (bI_f fun q => absurd h1 (Int32.not_lt.mpr q.1)))
  · refine x_iload_n hm rfl rfl ?_
    refine x_bipush hm rfl (v := nI 57) (by decide) ?_
    refine x_icmp_gt hm rfl (t := 16) rfl (fun h2 => ?_) (fun h2 => ?_)
    · refine x_iconst hm rfl (v := nI 0) (by decide) ?_
      refine x_iret hm rfl rfl (by first | rfl | exact bI_nar | decide) ?_
      first
        | exact qt (congrArg Value.int (bI_t ⟨Int32.not_lt.mp h1, Int32.not_lt.mp h2⟩))
        | exact qt (congrArg Value.int (bI_f fun q => absurd h2 (Int32.not_lt.mpr q.2)))
        | exact qt (congrArg Value.int (bI_f fun q => absurd h1 (Int32.not_lt.mpr q.1)))
    · refine x_iconst hm rfl (v := nI 1) (by decide) ?_
      refine x_goto hm rfl (t := 17) rfl ?_
      refine x_iret hm rfl rfl (by first | rfl | exact bI_nar | decide) ?_
      first
        | exact qt (congrArg Value.int (bI_t ⟨Int32.not_lt.mp h1, Int32.not_lt.mp h2⟩))
        | exact qt (congrArg Value.int (bI_f fun q => absurd h2 (Int32.not_lt.mpr q.2)))
        | exact qt (congrArg Value.int (bI_f fun q => absurd h1 (Int32.not_lt.mpr q.1)))
theorem k92w {e0 : Nat} (hc9 : M 52 1 = nI c) (hc1 : c ≤ 120) (hT : ∀ k, k < c → M 53 k = bt (T k)) (hB : ∀ k, k < c → T k < 256) (hec0 : e0 ≤ c) {b : Nat} (hsk : w1 (sp8 T c) e0 = b) (hbc : b < c) (hlb : lt8 T c b = true) : ∀ (n e : Nat) (M1 : mM), c - e < n → b ≤ e → e ≤ c → w1 (lt8 T c) b = w1 (lt8 T c) e → M1 52 3 = nI b → M1 52 4 = nI e → M1 52 2 = nI 1 → M1 52 6 = -1 → Lc M M1 → mEv X (QV (fun M' => CT T c (pNx T c e0) M' ∧ Lc M M')) 92 93 [some (.ref 52)] [] (con M1) := by
  have hm : mMet 92 = some _ := rfl
  intro n
  induction n with
  | zero =>
    intro e M1 hen hbe hec hw g3 g4 g2 g6 hL
    omega
  | succ n ih =>
    intro e M1 hen hbe hec hw g3 g4 g2 g6 hL
    have hC9 : M1 52 1 = nI c := (hL 52 1 (by omega)).trans hc9
    have hT1 : ∀ k, k < c → M1 53 k = bt (T k) := fun k hk => (hL 53 k (by omega)).trans (hT k hk)
    refine x_aload_n hm rfl rfl ?_
    refine x_getf hm rfl (gI rfl rfl) ?_
    rw [g4]
    refine x_aload_n hm rfl rfl ?_
    refine x_getf hm rfl (gI rfl rfl) ?_
    rw [hC9]
    refine x_icmp_ge hm rfl (t := 259) rfl (fun h1 => ?_) (fun h1 => ?_)
    · have hce : c ≤ e := (jI_le (by omega) (by omega)).mp h1
      have hz : ¬ lt8 T c e = true := fun q => by have := (of_decide_eq_true q).1; omega
      refine x_ret hm rfl rfl ?_
      exact ⟨_, rfl, rfl, CT.nx hL hc9 hc1 hT g6 hec0 (pNx_1 hsk hbc hlb (hw.trans (w1_z hz))) g3 g4 g2 (fun q => absurd q (by decide)), hL⟩
    · have hlt : e < c := Nat.lt_of_not_le fun h => h1 (nI_le h (by omega))
      refine x_aload_n hm rfl rfl ?_
      refine x_getf hm rfl (gR rfl rfl) ?_
      refine x_aload_n hm rfl rfl ?_
      refine x_getf hm rfl (gI rfl rfl) ?_
      rw [g4]
      refine x_bald hm rfl (lB rfl (by omega) (by decide)) ?_
      rw [hT1 _ hlt]
      refine x_callS hm rfl rfl (k93) ?_
      refine x_if_eq hm rfl (t := 259) rfl (fun h2 => ?_) (fun h2 => ?_)
      · have hz : ¬ lt8 T c e = true := fun q => bI_eq0.mp h2 ((bt_in (hB _ hlt) (by decide) (by decide)).mpr (of_decide_eq_true q).2)
        refine x_ret hm rfl rfl ?_
        exact ⟨_, rfl, rfl, CT.nx hL hc9 hc1 hT g6 hec0 (pNx_1 hsk hbc hlb (hw.trans (w1_z hz))) g3 g4 g2 (fun q => absurd q (by decide)), hL⟩
      · have hq := (bt_in (hB _ hlt) (by decide) (by decide)).mp (bI_ne0 h2)
        have hs : lt8 T c e = true := decide_eq_true ⟨hlt, hq⟩
        refine x_aload_n hm rfl rfl ?_
        refine x_dup hm rfl rfl ?_
        refine x_getf hm rfl (gI rfl rfl) ?_
        rw [g4]
        refine x_iconst hm rfl (v := nI 1) (by decide) ?_
        refine x_iadd hm rfl ?_
        rw [jI_add]
        refine x_putf hm rfl (pI rfl rfl (by decide) (by first | exact mFit_int | rfl | decide) rfl) ?_
        refine x_goto hm rfl (t := 93) rfl ?_
        exact ih (e + 1) _ (by omega) (by omega) (by omega) (hw.trans (w1_s hc1 lt8_n hs)) (by rw [mpf (by decide)]; exact g3) mp0 (by rw [mpf (by decide)]; exact g2) (by rw [mpf (by decide)]; exact g6) (hL.trans (Lc.put (by decide) (by decide)))
theorem k92n {e0 : Nat} (hc9 : M 52 1 = nI c) (hc1 : c ≤ 120) (hT : ∀ k, k < c → M 53 k = bt (T k)) (hB : ∀ k, k < c → T k < 256) (hec0 : e0 ≤ c) {b : Nat} (hsk : w1 (sp8 T c) e0 = b) (hbc : b < c) (hnl : ¬ lt8 T c b = true) (hdb : dg8 T c b = true) : ∀ (n e : Nat) (M1 : mM), c - e < n → b ≤ e → e ≤ c → w1 (dg8 T c) b = w1 (dg8 T c) e → M1 52 3 = nI b → M1 52 4 = nI e → M1 52 2 = nI 2 → M1 52 6 = -1 → M1 52 5 = nI (pV T b (e - b)) → Lc M M1 → mEv X (QV (fun M' => CT T c (pNx T c e0) M' ∧ Lc M M')) 92 157 [some (.ref 52)] [] (con M1) := by
  have hm : mMet 92 = some _ := rfl
  intro n
  induction n with
  | zero =>
    intro e M1 hen hbe hec hw g3 g4 g2 g6 g5 hL
    omega
  | succ n ih =>
    intro e M1 hen hbe hec hw g3 g4 g2 g6 g5 hL
    have hC9 : M1 52 1 = nI c := (hL 52 1 (by omega)).trans hc9
    have hT1 : ∀ k, k < c → M1 53 k = bt (T k) := fun k hk => (hL 53 k (by omega)).trans (hT k hk)
    refine x_aload_n hm rfl rfl ?_
    refine x_getf hm rfl (gI rfl rfl) ?_
    rw [g4]
    refine x_aload_n hm rfl rfl ?_
    refine x_getf hm rfl (gI rfl rfl) ?_
    rw [hC9]
    refine x_icmp_ge hm rfl (t := 259) rfl (fun h1 => ?_) (fun h1 => ?_)
    · have hce : c ≤ e := (jI_le (by omega) (by omega)).mp h1
      have hz : ¬ dg8 T c e = true := fun q => by have := (of_decide_eq_true q).1; omega
      refine x_ret hm rfl rfl ?_
      exact ⟨_, rfl, rfl, CT.nx hL hc9 hc1 hT g6 hec0 (pNx_2 hsk hbc hnl hdb (hw.trans (w1_z hz))) g3 g4 g2 (fun _ => g5), hL⟩
    · have hlt : e < c := Nat.lt_of_not_le fun h => h1 (nI_le h (by omega))
      refine x_aload_n hm rfl rfl ?_
      refine x_getf hm rfl (gR rfl rfl) ?_
      refine x_aload_n hm rfl rfl ?_
      refine x_getf hm rfl (gI rfl rfl) ?_
      rw [g4]
      refine x_bald hm rfl (lB rfl (by omega) (by decide)) ?_
      rw [hT1 _ hlt]
      refine x_callS hm rfl rfl (k94) ?_
      refine x_if_eq hm rfl (t := 259) rfl (fun h2 => ?_) (fun h2 => ?_)
      · have hz : ¬ dg8 T c e = true := fun q => bI_eq0.mp h2 ((bt_in (hB _ hlt) (by decide) (by decide)).mpr (of_decide_eq_true q).2)
        refine x_ret hm rfl rfl ?_
        exact ⟨_, rfl, rfl, CT.nx hL hc9 hc1 hT g6 hec0 (pNx_2 hsk hbc hnl hdb (hw.trans (w1_z hz))) g3 g4 g2 (fun _ => g5), hL⟩
      · have hq := (bt_in (hB _ hlt) (by decide) (by decide)).mp (bI_ne0 h2)
        have hs : dg8 T c e = true := decide_eq_true ⟨hlt, hq⟩
        have hbt : bt (T e) = nI (T e) := (bt_all _ (hB _ hlt)).1 (by omega)
        refine x_aload_n hm rfl rfl ?_
        refine x_sipush hm rfl (v := nI 1000) (by decide) ?_
        refine x_aload_n hm rfl rfl ?_
        refine x_getf hm rfl (gI rfl rfl) ?_
        rw [g5]
        refine x_bipush hm rfl (v := nI 10) (by decide) ?_
        refine x_imul hm rfl ?_
        refine x_aload_n hm rfl rfl ?_
        refine x_getf hm rfl (gR rfl rfl) ?_
        refine x_aload_n hm rfl rfl ?_
        refine x_getf hm rfl (gI rfl rfl) ?_
        rw [g4]
        refine x_bald hm rfl (lB rfl (by omega) (by decide)) ?_
        rw [hT1 _ hlt, hbt]
        refine x_iadd hm rfl ?_
        refine x_bipush hm rfl (v := nI 48) (by decide) ?_
        refine x_isub hm rfl ?_
        refine x_lib hm rfl rfl ?_
        dsimp only
        rw [pV_s2 (j := e - b) (by omega) (hB e hlt) hq.1]
        refine x_putf hm rfl (pI rfl rfl (by decide) (by first | exact mFit_int | rfl | decide) rfl) ?_
        refine x_aload_n hm rfl rfl ?_
        refine x_dup hm rfl rfl ?_
        refine x_getf hm rfl (gI rfl rfl) ?_
        rw [mpf (by decide), g4]
        refine x_iconst hm rfl (v := nI 1) (by decide) ?_
        refine x_iadd hm rfl ?_
        rw [jI_add]
        refine x_putf hm rfl (pI rfl rfl (by decide) (by first | exact mFit_int | rfl | decide) rfl) ?_
        refine x_goto hm rfl (t := 157) rfl ?_
        exact ih (e + 1) _ (by omega) (by omega) (by omega) (hw.trans (w1_s hc1 dg8_n hs)) (by rw [mpf (by decide), mpf (by decide)]; exact g3) mp0 (by rw [mpf (by decide), mpf (by decide)]; exact g2) (by rw [mpf (by decide), mpf (by decide)]; exact g6) (by rw [mpf (by decide), mp0, show e + 1 - b = e - b + 1 by omega]) ((hL.trans (Lc.put (by decide) (by decide))).trans (Lc.put (by decide) (by decide)))
theorem k92s {e0 : Nat} (hc9 : M 52 1 = nI c) (hc1 : c ≤ 120) (hT : ∀ k, k < c → M 53 k = bt (T k)) (hB : ∀ k, k < c → T k < 256) (hec0 : e0 ≤ c) : ∀ (n b : Nat) (M1 : mM), c - b < n → e0 ≤ b → b ≤ c → w1 (sp8 T c) e0 = w1 (sp8 T c) b → M1 52 3 = nI b → M1 52 6 = -1 → Lc M M1 → mEv X (QV (fun M' => CT T c (pNx T c e0) M' ∧ Lc M M')) 92 8 [some (.ref 52)] [] (con M1) := by
  have hm : mMet 92 = some _ := rfl
  intro n
  induction n with
  | zero =>
    intro b M1 hbn he0 hbc hsk g3 g6 hL
    omega
  | succ n ih =>
    intro b M1 hbn he0 hbc hsk g3 g6 hL
    have hC9 : M1 52 1 = nI c := (hL 52 1 (by omega)).trans hc9
    have hT1 : ∀ k, k < c → M1 53 k = bt (T k) := fun k hk => (hL 53 k (by omega)).trans (hT k hk)
    refine x_aload_n hm rfl rfl ?_
    refine x_getf hm rfl (gI rfl rfl) ?_
    rw [g3]
    refine x_aload_n hm rfl rfl ?_
    refine x_getf hm rfl (gI rfl rfl) ?_
    rw [hC9]
    refine x_icmp_ge hm rfl (t := 46) rfl (fun h1 => ?_) (fun h1 => ?_)
    · have hcb : c ≤ b := (jI_le (by omega) (by omega)).mp h1
      have hsk2 := hsk.trans (w1_z fun q => by have := (of_decide_eq_true q).1; omega)
      refine x_aload_n hm rfl rfl ?_
      refine x_aload_n hm rfl rfl ?_
      refine x_getf hm rfl (gI rfl rfl) ?_
      rw [g3]
      refine x_putf hm rfl (pI rfl rfl (by decide) (by first | exact mFit_int | rfl | decide) rfl) ?_
      refine x_aload_n hm rfl rfl ?_
      refine x_getf hm rfl (gI rfl rfl) ?_
      rw [mpf (by decide), g3]
      refine x_aload_n hm rfl rfl ?_
      refine x_getf hm rfl (gI rfl rfl) ?_
      rw [mpf (by decide), hC9]
      refine x_icmp_lt hm rfl (t := 73) rfl (fun h2 => ?_) (fun h2 => ?_)
      · have hlt : b < c := (jI_lt (by omega) (by omega)).mp h2
        refine x_aload_n hm rfl rfl ?_
        refine x_getf hm rfl (gR rfl rfl) ?_
        refine x_aload_n hm rfl rfl ?_
        refine x_getf hm rfl (gI rfl rfl) ?_
        rw [mp0]
        refine x_bald hm rfl (lB rfl (by omega) (by decide)) ?_
        rw [mpo (by decide), hT1 _ hlt]
        refine x_callS hm rfl rfl (k93) ?_
        refine x_if_eq hm rfl (t := 132) rfl (fun h3 => ?_) (fun h3 => ?_)
        · have hnl : ¬ lt8 T c b = true := fun q => bI_eq0.mp h3 ((bt_in (hB _ hlt) (by decide) (by decide)).mpr (of_decide_eq_true q).2)
          refine x_aload_n hm rfl rfl ?_
          refine x_getf hm rfl (gR rfl rfl) ?_
          refine x_aload_n hm rfl rfl ?_
          refine x_getf hm rfl (gI rfl rfl) ?_
          rw [mp0]
          refine x_bald hm rfl (lB rfl (by omega) (by decide)) ?_
          rw [mpo (by decide), hT1 _ hlt]
          refine x_callS hm rfl rfl (k94) ?_
          refine x_if_eq hm rfl (t := 226) rfl (fun h4 => ?_) (fun h4 => ?_)
          · have hnd : ¬ dg8 T c b = true := fun q => bI_eq0.mp h4 ((bt_in (hB _ hlt) (by decide) (by decide)).mpr (of_decide_eq_true q).2)
            refine x_aload_n hm rfl rfl ?_
            refine x_aload_n hm rfl rfl ?_
            refine x_getf hm rfl (gR rfl rfl) ?_
            refine x_aload_n hm rfl rfl ?_
            refine x_getf hm rfl (gI rfl rfl) ?_
            rw [mpf (by decide), g3]
            refine x_bald hm rfl (lB rfl (by omega) (by decide)) ?_
            rw [mpo (by decide), hT1 _ hlt]
            refine x_bipush hm rfl (v := nI 59) (by decide) ?_
            refine x_icmp_ne hm rfl (t := 245) rfl (fun h5 => ?_) (fun h5 => ?_)
            · have htk : nI 4 = tkc T b 3 := (if_neg (fun q => h5 (by rw [q]; rfl))).symm
              refine x_iconst hm rfl (v := nI 4) (by decide) ?_
              refine x_putf hm rfl (pI rfl rfl (by decide) (by first | exact mFit_int | rfl | decide) rfl) ?_
              refine x_aload_n hm rfl rfl ?_
              refine x_dup hm rfl rfl ?_
              refine x_getf hm rfl (gI rfl rfl) ?_
              rw [mpf (by decide), mp0]
              refine x_iconst hm rfl (v := nI 1) (by decide) ?_
              refine x_iadd hm rfl ?_
              rw [jI_add]
              refine x_putf hm rfl (pI rfl rfl (by decide) (by first | exact mFit_int | rfl | decide) rfl) ?_
              refine x_ret hm rfl rfl ?_
              first
                | exact ⟨_, rfl, rfl, CT.nx ((hL.trans (Lc.put (M := M1) (x := 4) (v := nI b) (by decide) (by decide))).trans (Lc.put (by decide) (by decide))) hc9 hc1 hT (by rw [mpf (by decide), mpf (by decide)]; exact g6) hec0 (pNx_0 hsk2 hge) (by rw [mpf (by decide), mpf (by decide)]; exact g3) (by rw [mpf (by decide)]; exact mp0) mp0 (fun q => absurd q (by decide)), (hL.trans (Lc.put (M := M1) (x := 4) (v := nI b) (by decide) (by decide))).trans (Lc.put (by decide) (by decide))⟩
                | exact ⟨_, rfl, rfl, CT.nx (((hL.trans (Lc.put (M := M1) (x := 4) (v := nI b) (by decide) (by decide))).trans (Lc.put (by decide) (by decide))).trans (Lc.put (by decide) (by decide))) hc9 hc1 hT (by rw [mpf (by decide), mpf (by decide), mpf (by decide)]; exact g6) hec0 (pNx_3 hsk2 hlt hnl hnd) (by rw [mpf (by decide), mpf (by decide), mpf (by decide)]; exact g3) mp0 (by rw [mpf (by decide), mp0]; exact htk) (fun q => absurd q (by decide)), ((hL.trans (Lc.put (M := M1) (x := 4) (v := nI b) (by decide) (by decide))).trans (Lc.put (by decide) (by decide))).trans (Lc.put (by decide) (by decide))⟩
            · have htk : nI 3 = tkc T b 3 := (if_pos ((bt_eq (hB _ hlt) (by decide)).mp h5)).symm
              refine x_iconst hm rfl (v := nI 3) (by decide) ?_
              refine x_goto hm rfl (t := 246) rfl ?_
              refine x_putf hm rfl (pI rfl rfl (by decide) (by first | exact mFit_int | rfl | decide) rfl) ?_
              refine x_aload_n hm rfl rfl ?_
              refine x_dup hm rfl rfl ?_
              refine x_getf hm rfl (gI rfl rfl) ?_
              rw [mpf (by decide), mp0]
              refine x_iconst hm rfl (v := nI 1) (by decide) ?_
              refine x_iadd hm rfl ?_
              rw [jI_add]
              refine x_putf hm rfl (pI rfl rfl (by decide) (by first | exact mFit_int | rfl | decide) rfl) ?_
              refine x_ret hm rfl rfl ?_
              first
                | exact ⟨_, rfl, rfl, CT.nx ((hL.trans (Lc.put (M := M1) (x := 4) (v := nI b) (by decide) (by decide))).trans (Lc.put (by decide) (by decide))) hc9 hc1 hT (by rw [mpf (by decide), mpf (by decide)]; exact g6) hec0 (pNx_0 hsk2 hge) (by rw [mpf (by decide), mpf (by decide)]; exact g3) (by rw [mpf (by decide)]; exact mp0) mp0 (fun q => absurd q (by decide)), (hL.trans (Lc.put (M := M1) (x := 4) (v := nI b) (by decide) (by decide))).trans (Lc.put (by decide) (by decide))⟩
                | exact ⟨_, rfl, rfl, CT.nx (((hL.trans (Lc.put (M := M1) (x := 4) (v := nI b) (by decide) (by decide))).trans (Lc.put (by decide) (by decide))).trans (Lc.put (by decide) (by decide))) hc9 hc1 hT (by rw [mpf (by decide), mpf (by decide), mpf (by decide)]; exact g6) hec0 (pNx_3 hsk2 hlt hnl hnd) (by rw [mpf (by decide), mpf (by decide), mpf (by decide)]; exact g3) mp0 (by rw [mpf (by decide), mp0]; exact htk) (fun q => absurd q (by decide)), ((hL.trans (Lc.put (M := M1) (x := 4) (v := nI b) (by decide) (by decide))).trans (Lc.put (by decide) (by decide))).trans (Lc.put (by decide) (by decide))⟩
          · have hdb : dg8 T c b = true := decide_eq_true ⟨hlt, (bt_in (hB _ hlt) (by decide) (by decide)).mp (bI_ne0 h4)⟩
            refine x_aload_n hm rfl rfl ?_
            refine x_iconst hm rfl (v := nI 2) (by decide) ?_
            refine x_putf hm rfl (pI rfl rfl (by decide) (by first | exact mFit_int | rfl | decide) rfl) ?_
            refine x_aload_n hm rfl rfl ?_
            refine x_iconst hm rfl (v := nI 0) (by decide) ?_
            refine x_putf hm rfl (pI rfl rfl (by decide) (by first | exact mFit_int | rfl | decide) rfl) ?_
            exact k92n hc9 hc1 hT hB hec0 hsk2 hlt hnl hdb _ b _ (Nat.lt_succ_self _) (Nat.le_refl _) hbc rfl (by rw [mpf (by decide), mpf (by decide), mpf (by decide)]; exact g3) (by rw [mpf (by decide), mpf (by decide)]; exact mp0) (by rw [mpf (by decide)]; exact mp0) (by rw [mpf (by decide), mpf (by decide), mpf (by decide)]; exact g6) (by rw [mp0, Nat.sub_self]; rfl) (((hL.trans (Lc.put (M := M1) (x := 4) (v := nI b) (by decide) (by decide))).trans (Lc.put (by decide) (by decide))).trans (Lc.put (by decide) (by decide)))
        · have hlb : lt8 T c b = true := decide_eq_true ⟨hlt, (bt_in (hB _ hlt) (by decide) (by decide)).mp (bI_ne0 h3)⟩
          refine x_aload_n hm rfl rfl ?_
          refine x_iconst hm rfl (v := nI 1) (by decide) ?_
          refine x_putf hm rfl (pI rfl rfl (by decide) (by first | exact mFit_int | rfl | decide) rfl) ?_
          exact k92w hc9 hc1 hT hB hec0 hsk2 hlt hlb _ b _ (Nat.lt_succ_self _) (Nat.le_refl _) hbc rfl (by rw [mpf (by decide), mpf (by decide)]; exact g3) (by rw [mpf (by decide)]; exact mp0) mp0 (by rw [mpf (by decide), mpf (by decide)]; exact g6) ((hL.trans (Lc.put (M := M1) (x := 4) (v := nI b) (by decide) (by decide))).trans (Lc.put (by decide) (by decide)))
      · have hge : ¬ b < c := fun q => h2 ((jI_lt (by omega) (by omega)).mpr q)
        refine x_aload_n hm rfl rfl ?_
        refine x_iconst hm rfl (v := nI 0) (by decide) ?_
        refine x_putf hm rfl (pI rfl rfl (by decide) (by first | exact mFit_int | rfl | decide) rfl) ?_
        refine x_goto hm rfl (t := 259) rfl ?_
        refine x_ret hm rfl rfl ?_
        first
          | exact ⟨_, rfl, rfl, CT.nx ((hL.trans (Lc.put (M := M1) (x := 4) (v := nI b) (by decide) (by decide))).trans (Lc.put (by decide) (by decide))) hc9 hc1 hT (by rw [mpf (by decide), mpf (by decide)]; exact g6) hec0 (pNx_0 hsk2 hge) (by rw [mpf (by decide), mpf (by decide)]; exact g3) (by rw [mpf (by decide)]; exact mp0) mp0 (fun q => absurd q (by decide)), (hL.trans (Lc.put (M := M1) (x := 4) (v := nI b) (by decide) (by decide))).trans (Lc.put (by decide) (by decide))⟩
          | exact ⟨_, rfl, rfl, CT.nx (((hL.trans (Lc.put (M := M1) (x := 4) (v := nI b) (by decide) (by decide))).trans (Lc.put (by decide) (by decide))).trans (Lc.put (by decide) (by decide))) hc9 hc1 hT (by rw [mpf (by decide), mpf (by decide), mpf (by decide)]; exact g6) hec0 (pNx_3 hsk2 hlt hnl hnd) (by rw [mpf (by decide), mpf (by decide), mpf (by decide)]; exact g3) mp0 (by rw [mpf (by decide), mp0]; exact htk) (fun q => absurd q (by decide)), ((hL.trans (Lc.put (M := M1) (x := 4) (v := nI b) (by decide) (by decide))).trans (Lc.put (by decide) (by decide))).trans (Lc.put (by decide) (by decide))⟩
    · have hlt : b < c := Nat.lt_of_not_le fun h => h1 (nI_le h (by omega))
      refine x_aload_n hm rfl rfl ?_
      refine x_getf hm rfl (gR rfl rfl) ?_
      refine x_aload_n hm rfl rfl ?_
      refine x_getf hm rfl (gI rfl rfl) ?_
      rw [g3]
      refine x_bald hm rfl (lB rfl (by omega) (by decide)) ?_
      rw [hT1 _ hlt]
      refine x_bipush hm rfl (v := nI 32) (by decide) ?_
      refine x_icmp_ne hm rfl (t := 46) rfl (fun h6 => ?_) (fun h6 => ?_)
      · have hsk2 := hsk.trans (w1_z fun q => h6 ((bt_eq (hB _ hlt) (by decide)).mpr (of_decide_eq_true q).2))
        refine x_aload_n hm rfl rfl ?_
        refine x_aload_n hm rfl rfl ?_
        refine x_getf hm rfl (gI rfl rfl) ?_
        rw [g3]
        refine x_putf hm rfl (pI rfl rfl (by decide) (by first | exact mFit_int | rfl | decide) rfl) ?_
        refine x_aload_n hm rfl rfl ?_
        refine x_getf hm rfl (gI rfl rfl) ?_
        rw [mpf (by decide), g3]
        refine x_aload_n hm rfl rfl ?_
        refine x_getf hm rfl (gI rfl rfl) ?_
        rw [mpf (by decide), hC9]
        refine x_icmp_lt hm rfl (t := 73) rfl (fun h7 => ?_) (fun h7 => ?_)
        · have hlt : b < c := (jI_lt (by omega) (by omega)).mp h7
          refine x_aload_n hm rfl rfl ?_
          refine x_getf hm rfl (gR rfl rfl) ?_
          refine x_aload_n hm rfl rfl ?_
          refine x_getf hm rfl (gI rfl rfl) ?_
          rw [mp0]
          refine x_bald hm rfl (lB rfl (by omega) (by decide)) ?_
          rw [mpo (by decide), hT1 _ hlt]
          refine x_callS hm rfl rfl (k93) ?_
          refine x_if_eq hm rfl (t := 132) rfl (fun h8 => ?_) (fun h8 => ?_)
          · have hnl : ¬ lt8 T c b = true := fun q => bI_eq0.mp h8 ((bt_in (hB _ hlt) (by decide) (by decide)).mpr (of_decide_eq_true q).2)
            refine x_aload_n hm rfl rfl ?_
            refine x_getf hm rfl (gR rfl rfl) ?_
            refine x_aload_n hm rfl rfl ?_
            refine x_getf hm rfl (gI rfl rfl) ?_
            rw [mp0]
            refine x_bald hm rfl (lB rfl (by omega) (by decide)) ?_
            rw [mpo (by decide), hT1 _ hlt]
            refine x_callS hm rfl rfl (k94) ?_
            refine x_if_eq hm rfl (t := 226) rfl (fun h9 => ?_) (fun h9 => ?_)
            · have hnd : ¬ dg8 T c b = true := fun q => bI_eq0.mp h9 ((bt_in (hB _ hlt) (by decide) (by decide)).mpr (of_decide_eq_true q).2)
              refine x_aload_n hm rfl rfl ?_
              refine x_aload_n hm rfl rfl ?_
              refine x_getf hm rfl (gR rfl rfl) ?_
              refine x_aload_n hm rfl rfl ?_
              refine x_getf hm rfl (gI rfl rfl) ?_
              rw [mpf (by decide), g3]
              refine x_bald hm rfl (lB rfl (by omega) (by decide)) ?_
              rw [mpo (by decide), hT1 _ hlt]
              refine x_bipush hm rfl (v := nI 59) (by decide) ?_
              refine x_icmp_ne hm rfl (t := 245) rfl (fun h10 => ?_) (fun h10 => ?_)
              · have htk : nI 4 = tkc T b 3 := (if_neg (fun q => h10 (by rw [q]; rfl))).symm
                refine x_iconst hm rfl (v := nI 4) (by decide) ?_
                refine x_putf hm rfl (pI rfl rfl (by decide) (by first | exact mFit_int | rfl | decide) rfl) ?_
                refine x_aload_n hm rfl rfl ?_
                refine x_dup hm rfl rfl ?_
                refine x_getf hm rfl (gI rfl rfl) ?_
                rw [mpf (by decide), mp0]
                refine x_iconst hm rfl (v := nI 1) (by decide) ?_
                refine x_iadd hm rfl ?_
                rw [jI_add]
                refine x_putf hm rfl (pI rfl rfl (by decide) (by first | exact mFit_int | rfl | decide) rfl) ?_
                refine x_ret hm rfl rfl ?_
                first
                  | exact ⟨_, rfl, rfl, CT.nx ((hL.trans (Lc.put (M := M1) (x := 4) (v := nI b) (by decide) (by decide))).trans (Lc.put (by decide) (by decide))) hc9 hc1 hT (by rw [mpf (by decide), mpf (by decide)]; exact g6) hec0 (pNx_0 hsk2 hge) (by rw [mpf (by decide), mpf (by decide)]; exact g3) (by rw [mpf (by decide)]; exact mp0) mp0 (fun q => absurd q (by decide)), (hL.trans (Lc.put (M := M1) (x := 4) (v := nI b) (by decide) (by decide))).trans (Lc.put (by decide) (by decide))⟩
                  | exact ⟨_, rfl, rfl, CT.nx (((hL.trans (Lc.put (M := M1) (x := 4) (v := nI b) (by decide) (by decide))).trans (Lc.put (by decide) (by decide))).trans (Lc.put (by decide) (by decide))) hc9 hc1 hT (by rw [mpf (by decide), mpf (by decide), mpf (by decide)]; exact g6) hec0 (pNx_3 hsk2 hlt hnl hnd) (by rw [mpf (by decide), mpf (by decide), mpf (by decide)]; exact g3) mp0 (by rw [mpf (by decide), mp0]; exact htk) (fun q => absurd q (by decide)), ((hL.trans (Lc.put (M := M1) (x := 4) (v := nI b) (by decide) (by decide))).trans (Lc.put (by decide) (by decide))).trans (Lc.put (by decide) (by decide))⟩
              · have htk : nI 3 = tkc T b 3 := (if_pos ((bt_eq (hB _ hlt) (by decide)).mp h10)).symm
                refine x_iconst hm rfl (v := nI 3) (by decide) ?_
                refine x_goto hm rfl (t := 246) rfl ?_
                refine x_putf hm rfl (pI rfl rfl (by decide) (by first | exact mFit_int | rfl | decide) rfl) ?_
                refine x_aload_n hm rfl rfl ?_
                refine x_dup hm rfl rfl ?_
                refine x_getf hm rfl (gI rfl rfl) ?_
                rw [mpf (by decide), mp0]
                refine x_iconst hm rfl (v := nI 1) (by decide) ?_
                refine x_iadd hm rfl ?_
                rw [jI_add]
                refine x_putf hm rfl (pI rfl rfl (by decide) (by first | exact mFit_int | rfl | decide) rfl) ?_
                refine x_ret hm rfl rfl ?_
                first
                  | exact ⟨_, rfl, rfl, CT.nx ((hL.trans (Lc.put (M := M1) (x := 4) (v := nI b) (by decide) (by decide))).trans (Lc.put (by decide) (by decide))) hc9 hc1 hT (by rw [mpf (by decide), mpf (by decide)]; exact g6) hec0 (pNx_0 hsk2 hge) (by rw [mpf (by decide), mpf (by decide)]; exact g3) (by rw [mpf (by decide)]; exact mp0) mp0 (fun q => absurd q (by decide)), (hL.trans (Lc.put (M := M1) (x := 4) (v := nI b) (by decide) (by decide))).trans (Lc.put (by decide) (by decide))⟩
                  | exact ⟨_, rfl, rfl, CT.nx (((hL.trans (Lc.put (M := M1) (x := 4) (v := nI b) (by decide) (by decide))).trans (Lc.put (by decide) (by decide))).trans (Lc.put (by decide) (by decide))) hc9 hc1 hT (by rw [mpf (by decide), mpf (by decide), mpf (by decide)]; exact g6) hec0 (pNx_3 hsk2 hlt hnl hnd) (by rw [mpf (by decide), mpf (by decide), mpf (by decide)]; exact g3) mp0 (by rw [mpf (by decide), mp0]; exact htk) (fun q => absurd q (by decide)), ((hL.trans (Lc.put (M := M1) (x := 4) (v := nI b) (by decide) (by decide))).trans (Lc.put (by decide) (by decide))).trans (Lc.put (by decide) (by decide))⟩
            · have hdb : dg8 T c b = true := decide_eq_true ⟨hlt, (bt_in (hB _ hlt) (by decide) (by decide)).mp (bI_ne0 h9)⟩
              refine x_aload_n hm rfl rfl ?_
              refine x_iconst hm rfl (v := nI 2) (by decide) ?_
              refine x_putf hm rfl (pI rfl rfl (by decide) (by first | exact mFit_int | rfl | decide) rfl) ?_
              refine x_aload_n hm rfl rfl ?_
              refine x_iconst hm rfl (v := nI 0) (by decide) ?_
              refine x_putf hm rfl (pI rfl rfl (by decide) (by first | exact mFit_int | rfl | decide) rfl) ?_
              exact k92n hc9 hc1 hT hB hec0 hsk2 hlt hnl hdb _ b _ (Nat.lt_succ_self _) (Nat.le_refl _) hbc rfl (by rw [mpf (by decide), mpf (by decide), mpf (by decide)]; exact g3) (by rw [mpf (by decide), mpf (by decide)]; exact mp0) (by rw [mpf (by decide)]; exact mp0) (by rw [mpf (by decide), mpf (by decide), mpf (by decide)]; exact g6) (by rw [mp0, Nat.sub_self]; rfl) (((hL.trans (Lc.put (M := M1) (x := 4) (v := nI b) (by decide) (by decide))).trans (Lc.put (by decide) (by decide))).trans (Lc.put (by decide) (by decide)))
          · have hlb : lt8 T c b = true := decide_eq_true ⟨hlt, (bt_in (hB _ hlt) (by decide) (by decide)).mp (bI_ne0 h8)⟩
            refine x_aload_n hm rfl rfl ?_
            refine x_iconst hm rfl (v := nI 1) (by decide) ?_
            refine x_putf hm rfl (pI rfl rfl (by decide) (by first | exact mFit_int | rfl | decide) rfl) ?_
            exact k92w hc9 hc1 hT hB hec0 hsk2 hlt hlb _ b _ (Nat.lt_succ_self _) (Nat.le_refl _) hbc rfl (by rw [mpf (by decide), mpf (by decide)]; exact g3) (by rw [mpf (by decide)]; exact mp0) mp0 (by rw [mpf (by decide), mpf (by decide)]; exact g6) ((hL.trans (Lc.put (M := M1) (x := 4) (v := nI b) (by decide) (by decide))).trans (Lc.put (by decide) (by decide)))
        · have hge : ¬ b < c := fun q => h7 ((jI_lt (by omega) (by omega)).mpr q)
          refine x_aload_n hm rfl rfl ?_
          refine x_iconst hm rfl (v := nI 0) (by decide) ?_
          refine x_putf hm rfl (pI rfl rfl (by decide) (by first | exact mFit_int | rfl | decide) rfl) ?_
          refine x_goto hm rfl (t := 259) rfl ?_
          refine x_ret hm rfl rfl ?_
          first
            | exact ⟨_, rfl, rfl, CT.nx ((hL.trans (Lc.put (M := M1) (x := 4) (v := nI b) (by decide) (by decide))).trans (Lc.put (by decide) (by decide))) hc9 hc1 hT (by rw [mpf (by decide), mpf (by decide)]; exact g6) hec0 (pNx_0 hsk2 hge) (by rw [mpf (by decide), mpf (by decide)]; exact g3) (by rw [mpf (by decide)]; exact mp0) mp0 (fun q => absurd q (by decide)), (hL.trans (Lc.put (M := M1) (x := 4) (v := nI b) (by decide) (by decide))).trans (Lc.put (by decide) (by decide))⟩
            | exact ⟨_, rfl, rfl, CT.nx (((hL.trans (Lc.put (M := M1) (x := 4) (v := nI b) (by decide) (by decide))).trans (Lc.put (by decide) (by decide))).trans (Lc.put (by decide) (by decide))) hc9 hc1 hT (by rw [mpf (by decide), mpf (by decide), mpf (by decide)]; exact g6) hec0 (pNx_3 hsk2 hlt hnl hnd) (by rw [mpf (by decide), mpf (by decide), mpf (by decide)]; exact g3) mp0 (by rw [mpf (by decide), mp0]; exact htk) (fun q => absurd q (by decide)), ((hL.trans (Lc.put (M := M1) (x := 4) (v := nI b) (by decide) (by decide))).trans (Lc.put (by decide) (by decide))).trans (Lc.put (by decide) (by decide))⟩
      · have hs : sp8 T c b = true := decide_eq_true ⟨hlt, (bt_eq (hB _ hlt) (by decide)).mp h6⟩
        refine x_aload_n hm rfl rfl ?_
        refine x_dup hm rfl rfl ?_
        refine x_getf hm rfl (gI rfl rfl) ?_
        rw [g3]
        refine x_iconst hm rfl (v := nI 1) (by decide) ?_
        refine x_iadd hm rfl ?_
        rw [jI_add]
        refine x_putf hm rfl (pI rfl rfl (by decide) (by first | exact mFit_int | rfl | decide) rfl) ?_
        refine x_goto hm rfl (t := 8) rfl ?_
        exact ih (b + 1) _ (by omega) (by omega) (by omega) (hsk.trans (w1_s hc1 sp8_n hs)) mp0 (by rw [mpf (by decide)]; exact g6) (hL.trans (Lc.put (by decide) (by decide)))
theorem k92 {e0 : Nat} (he : M 52 4 = nI e0) (hc9 : M 52 1 = nI c) (hc1 : c ≤ 120) (hT : ∀ k, k < c → M 53 k = bt (T k)) (hB : ∀ k, k < c → T k < 256) (hec0 : e0 ≤ c) (h6 : M 52 6 = -1) : ∃ M', mT X 92 [.ref 52] (con M) none (con M') ∧ CT T c (pNx T c e0) M' ∧ Lc M M' := by
  refine tv_of (row := _) rfl (Nat.le_of_ble_eq_true rfl) ?_
  have hm : mMet 92 = some _ := rfl
  refine x_aload_n hm rfl rfl ?_
  refine x_aload_n hm rfl rfl ?_
  refine x_getf hm rfl (gI rfl rfl) ?_
  rw [he]
  refine x_putf hm rfl (pI rfl rfl (by decide) (by first | exact mFit_int | rfl | decide) rfl) ?_
  exact k92s hc9 hc1 hT hB hec0 _ e0 _ (Nat.lt_succ_self _) (Nat.le_refl _) hec0 rfl mp0 (by rw [mpf (by decide)]; exact h6) (Lc.put (by decide) (by decide))
theorem CT.f6 {q : PS} {v : Int32} (h : CT T c q M) (hv : v = nI q.1) : CT T c (q.1, q.2.1, q.2.2.1, q.2.2.2.1, true) (mput M 52 6 v) := by
  obtain ⟨h1, h2, h3, h4, h5, h6, h7, hB⟩ := h
  exact ⟨(mpf (by decide)).trans h1, (mpf (by decide)).trans h2, (mpf (by decide)).trans h3, fun z => (mpf (by decide)).trans (h4 z), mp0.trans hv, (mpf (by decide)).trans h6, fun k hk => (congrFun (mpo (by decide)) k).trans (h7 k hk), hB⟩
theorem CT.fw {q : PS} (h : CT T c q M) (g : ¬ M 52 6 = -1) : q.2.2.2.2 = true := by
  have e := h.2.2.2.2.1
  cases hq : q.2.2.2.2 with
  | true => rfl
  | false => rw [hq] at e; exact absurd e g
theorem CT.ff {q : PS} (h : CT T c q M) (g : M 52 6 = -1) : q.2.2.2.2 = false := by
  have e := h.2.2.2.2.1
  obtain ⟨b1, b2, b3, -⟩ := h.2.2.2.2.2.2.2
  cases hq : q.2.2.2.2 with
  | false => rfl
  | true => rw [hq, g] at e; exact absurd e.symm (nI_nm1 (by omega))
/-- advance, where nothing is wrong -/
theorem k92a {q : PS} (h : CT T c q M) (hB : ∀ k, k < c → T k < 256) (g : q.2.2.2.2 = false) : ∃ M', mT X 92 [.ref 52] (con M) none (con M') ∧ CT T c (pMu T c q (nI 1)) M' ∧ Lc M M' := by
  rw [pMu_g g]
  obtain ⟨h1, h2, h3, h4, h5, h6, h7, b1, b2, b3, b4, b5, b6⟩ := h
  exact k92 h2 h6 b1 h7 hB b3 (by rw [h5, g]; rfl)
theorem k112 {q : PS} (h : CT T c q M) : ∃ M', mT X 112 [.ref 52] (con M) none (con M') ∧ CT T c (pMu T c q (nI 0)) M' ∧ Lc M M' := by
  refine tv_of (row := _) rfl (Nat.le_of_ble_eq_true rfl) ?_
  have hm : mMet 112 = some _ := rfl
  refine x_aload_n hm rfl rfl ?_
  refine x_getf hm rfl (gI rfl rfl) ?_
  refine x_iconst hm rfl (v := (-1 : Int32)) (by decide) ?_
  refine x_icmp_ne hm rfl (t := 16) rfl (fun h1 => ?_) (fun h1 => ?_)
  · have hq : pMu T c q (nI 0) = q := pMu_w (h.fw h1)
    refine x_ret hm rfl rfl ?_
    first
      | exact ⟨_, rfl, rfl, by rw [hq]; exact h.f6 rfl, Lc.put (by decide) (by decide)⟩
      | exact ⟨_, rfl, rfl, by rw [hq]; exact h, Lc.rf⟩
  · have hq : pMu T c q (nI 0) = (q.1, q.2.1, q.2.2.1, q.2.2.2.1, true) := if_pos (Or.inr rfl)
    refine x_aload_n hm rfl rfl ?_
    refine x_aload_n hm rfl rfl ?_
    refine x_getf hm rfl (gI rfl rfl) ?_
    rw [h.1]
    refine x_putf hm rfl (pI rfl rfl (by decide) (by first | exact mFit_int | rfl | decide) rfl) ?_
    refine x_ret hm rfl rfl ?_
    first
      | exact ⟨_, rfl, rfl, by rw [hq]; exact h.f6 rfl, Lc.put (by decide) (by decide)⟩
      | exact ⟨_, rfl, rfl, by rw [hq]; exact h, Lc.rf⟩
theorem k111f {q : PS} {hi : Int32} {x2 : Option Value} {M1 : mM} (hk : CT T c (pMu T c q (nI 0)) M1) (hL : Lc M M1) (hq : pNu T c q hi = pMu T c q (nI 0)) : mEv X (QI (fun v M' => CT T c (pNu T c q hi) M' ∧ Lc M M' ∧ ((pNu T c q hi).2.2.2.2 = false → v = nI q.2.2.2.1))) 111 20 [some (.ref 52), some (.int hi), x2] [] (con M1) := by
  have hm : mMet 111 = some _ := rfl
  have hw : (pMu T c q (nI 0)).2.2.2.2 = true := by
    rw [show pMu T c q (nI 0) = (q.1, q.2.1, q.2.2.1, q.2.2.2.1, true) from if_pos (Or.inr rfl)]
  refine x_aload_n hm rfl rfl ?_
  refine x_getf hm rfl (gI rfl rfl) ?_
  refine x_iconst hm rfl (v := (-1 : Int32)) (by decide) ?_
  refine x_icmp_eq hm rfl (t := 30) rfl (fun h1 => ?_) (fun h1 => ?_)
  · exact absurd (hw.symm.trans (hk.ff h1)) (by decide) --stop
  · refine x_iconst hm rfl (v := nI 0) (by decide) ?_
    refine x_iret hm rfl rfl (by first | rfl | exact bI_nar | decide) ?_
    exact ⟨_, _, rfl, rfl, by rw [hq]; exact hk, hL, fun z => absurd ((hw.symm.trans ((congrArg (fun a : PS => a.2.2.2.2) hq).symm.trans z)) : true = false) (by decide)⟩
theorem k111g {q : PS} {hi : Int32} {x2 : Option Value} (h : CT T c q M) (hB : ∀ k, k < c → T k < 256) (h2 : q.2.2.1 = 2) (hle : nI q.2.2.2.1 ≤ hi) : mEv X (QI (fun v M' => CT T c (pNu T c q hi) M' ∧ Lc M M' ∧ ((pNu T c q hi).2.2.2.2 = false → v = nI q.2.2.2.1))) 111 20 [some (.ref 52), some (.int hi), x2] [] (con M) := by
  have hm : mMet 111 = some _ := rfl
  have hq : pNu T c q hi = pMu T c q (nI 1) := congrArg (pMu T c q) (if_pos ⟨h2, hle⟩)
  refine x_aload_n hm rfl rfl ?_
  refine x_getf hm rfl (gI rfl rfl) ?_
  refine x_iconst hm rfl (v := (-1 : Int32)) (by decide) ?_
  refine x_icmp_eq hm rfl (t := 30) rfl (fun h1 => ?_) (fun h1 => ?_)
  · have hf := h.ff h1
    refine x_aload_n hm rfl rfl ?_
    refine x_getf hm rfl (gI rfl rfl) ?_
    rw [h.2.2.2.1 h2]
    refine x_istore_n hm rfl rfl ?_
    refine x_aload_n hm rfl rfl ?_
    refine x_cVv hm rfl rfl (k92a h hB hf) (fun M2 r2 => ?_)
    refine x_iload_n hm rfl rfl ?_
    refine x_iret hm rfl rfl (by first | rfl | exact bI_nar | decide) ?_
    first
      | exact ⟨_, _, rfl, rfl, by rw [hq]; exact r2.1, r2.2, fun _ => rfl⟩
      | exact ⟨_, _, rfl, rfl, by rw [pNu_w hw]; exact h, Lc.rf, fun z => absurd ((hw.symm.trans ((congrArg (fun a : PS => a.2.2.2.2) (pNu_w (T := T) (c := c) (hi := hi) hw)).symm.trans z)) : true = false) (by decide)⟩
  · have hw := h.fw h1
    refine x_iconst hm rfl (v := nI 0) (by decide) ?_
    refine x_iret hm rfl rfl (by first | rfl | exact bI_nar | decide) ?_
    first
      | exact ⟨_, _, rfl, rfl, by rw [pNu_w hw]; exact h, Lc.rf, fun z => absurd ((hw.symm.trans ((congrArg (fun a : PS => a.2.2.2.2) (pNu_w (T := T) (c := c) (hi := hi) hw)).symm.trans z)) : true = false) (by decide)⟩
      | exact ⟨_, _, rfl, rfl, by rw [hq]; exact r0.1, r0.2, fun _ => rfl⟩
theorem k111 {q : PS} {hi : Int32} (h : CT T c q M) (hB : ∀ k, k < c → T k < 256) : ∃ v M', mT X 111 [.ref 52, .int hi] (con M) (some (.int v)) (con M') ∧ CT T c (pNu T c q hi) M' ∧ Lc M M' ∧ ((pNu T c q hi).2.2.2.2 = false → v = nI q.2.2.2.1) := by
  refine ti_of (row := _) rfl (Nat.le_of_ble_eq_true rfl) ?_
  have hm : mMet 111 = some _ := rfl
  have hs3 := h.2.2.2.2.2.2.2.2.2.2.2.1
  refine x_aload_n hm rfl rfl ?_
  refine x_getf hm rfl (gI rfl rfl) ?_
  refine x_iconst hm rfl (v := nI 2) (by decide) ?_
  refine x_icmp_ne hm rfl (t := 16) rfl (fun h1 => ?_) (fun h1 => ?_)
  · have hq : pNu T c q hi = pMu T c q (nI 0) := congrArg (pMu T c q) (if_neg fun z => h1 (h.2.2.1.trans ((tkc_e hs3 (by decide)).mpr z.1)))
    refine x_aload_n hm rfl rfl ?_
    refine x_cVv hm rfl rfl (k112 h) (fun M2 r2 => ?_)
    first
      | exact k111g h hB h2 hle
      | exact k111f r1.1 r1.2 hq
      | exact k111f r2.1 r2.2 hq
      | exact k111f r3.1 r3.2 hq
      | exact k111f r4.1 r4.2 hq
      | exact k111f r5.1 r5.2 hq
      | exact k111f r6.1 r6.2 hq
      | exact k111f r7.1 r7.2 hq
      | exact k111f r8.1 r8.2 hq
  · have h2 := (tkc_e hs3 (by decide)).mp (h.2.2.1.symm.trans h1)
    refine x_aload_n hm rfl rfl ?_
    refine x_getf hm rfl (gI rfl rfl) ?_
    rw [h.2.2.2.1 h2]
    refine x_iload_n hm rfl rfl ?_
    refine x_icmp_le hm rfl (t := 20) rfl (fun h3 => ?_) (fun h3 => ?_)
    · have hle := h3
      first
        | exact k111g h hB h2 hle
        | exact k111f r1.1 r1.2 hq
        | exact k111f r2.1 r2.2 hq
        | exact k111f r3.1 r3.2 hq
        | exact k111f r4.1 r4.2 hq
        | exact k111f r5.1 r5.2 hq
        | exact k111f r6.1 r6.2 hq
        | exact k111f r7.1 r7.2 hq
        | exact k111f r8.1 r8.2 hq
    · have hq : pNu T c q hi = pMu T c q (nI 0) := congrArg (pMu T c q) (if_neg fun z => h3 z.2)
      refine x_aload_n hm rfl rfl ?_
      refine x_cVv hm rfl rfl (k112 h) (fun M4 r4 => ?_)
      first
        | exact k111g h hB h2 hle
        | exact k111f r1.1 r1.2 hq
        | exact k111f r2.1 r2.2 hq
        | exact k111f r3.1 r3.2 hq
        | exact k111f r4.1 r4.2 hq
        | exact k111f r5.1 r5.2 hq
        | exact k111f r6.1 r6.2 hq
        | exact k111f r7.1 r7.2 hq
        | exact k111f r8.1 r8.2 hq
theorem ch_lt2 {t k : Nat} (ht : t < 15) : (mTx.getD t []).getD k 0 < 128 := by
  have e : ∀ t, t < 15 → (mTx.getD t []).all (fun x => decide (x < 128)) = true := by decide +kernel
  have h := List.all_eq_true.mp (e t ht)
  rw [List.getD_eq_getElem?_getD]
  cases hg : (mTx.getD t [])[k]? with
  | none => exact (by decide : (0 : Nat) < 128)
  | some x => exact of_decide_eq_true (h x (List.mem_of_getElem? hg))
theorem k97l {q : PS} {t : Nat} (h : CT T c q M) (hB : ∀ k, k < c → T k < 256) (ht : t < 15) (hs1 : q.2.2.1 = 1) (hlen : q.2.1 - q.1 = (mTx.getD t []).length) : ∀ (n k : Nat), (mTx.getD t []).length - k < n → k ≤ (mTx.getD t []).length → (∀ j, j < k → T (q.1 + j) = (mTx.getD t []).getD j 0) → mEv X (QE M (fun v => v = bI (pWd T q t))) 97 28 [some (.ref 52), some (.ref (1000000 + t)), some (.int (nI k))] [] (con M) := by
  have hm : mMet 97 = some _ := rfl
  intro n
  induction n with
  | zero =>
    intro k hkn hkb hch
    omega
  | succ n ih =>
    intro k hkn hkb hch
    have hle := mTx_le t
    obtain ⟨a1, a2, a3, a4, a5, a6, a7, b1, b2, b3, b4, b5, b6⟩ := id h
    refine x_iload_n hm rfl rfl ?_
    refine x_aload_n hm rfl rfl ?_
    refine x_libV hm rfl (len_call ht rfl) ?_
    dsimp only
    refine x_icmp_ge hm rfl (t := 63) rfl (fun h1 => ?_) (fun h1 => ?_)
    · have hkl : (mTx.getD t []).length ≤ k := (jI_le (by omega) (by omega)).mp h1
      have hv : nI 1 = bI (pWd T q t) := bI_t ⟨hs1, hlen, fun j hj => hch j (by omega)⟩
      refine x_iconst hm rfl (v := nI 1) (by decide) ?_
      refine x_iret hm rfl rfl (by first | rfl | exact bI_nar | decide) ?_
      exact ⟨_, rfl, rfl, hv⟩
    · have hk : k < (mTx.getD t []).length := Nat.lt_of_not_le fun h => h1 (nI_le h (by omega))
      have hkc : q.1 + k < c := by omega
      have hx1 := ch_lt2 (k := k) ht
      have hx2 := hB _ hkc
      refine x_aload_n hm rfl rfl ?_
      refine x_getf hm rfl (gR rfl rfl) ?_
      refine x_aload_n hm rfl rfl ?_
      refine x_getf hm rfl (gI rfl rfl) ?_
      rw [a1]
      refine x_iload_n hm rfl rfl ?_
      refine x_iadd hm rfl ?_
      rw [jI_add]
      refine x_bald hm rfl (lB rfl (by omega) (by decide)) ?_
      rw [a7 _ hkc]
      refine x_aload_n hm rfl rfl ?_
      refine x_iload_n hm rfl rfl ?_
      refine x_libV hm rfl (chr_call ht rfl hk) ?_
      dsimp only
      refine x_icmp_eq hm rfl (t := 57) rfl (fun h2 => ?_) (fun h2 => ?_)
      · have hyes := (bt_eq hx2 hx1).mp h2
        refine x_iinc hm rfl rfl (v := nI 1) (by decide) rfl ?_
        rw [jI_add]
        refine x_goto hm rfl (t := 28) rfl ?_
        exact ih _ (by omega) (by omega) (wd_c hch hyes)
      · have hv : nI 0 = bI (pWd T q t) := bI_f fun z => h2 ((bt_eq hx2 hx1).mpr (z.2.2 k hk))
        refine x_iconst hm rfl (v := nI 0) (by decide) ?_
        refine x_iret hm rfl rfl (by first | rfl | exact bI_nar | decide) ?_
        exact ⟨_, rfl, rfl, hv⟩
theorem k97 {q : PS} {t : Nat} (h : CT T c q M) (hB : ∀ k, k < c → T k < 256) (ht : t < 15) : ∃ v, mT X 97 [.ref 52, .ref (1000000 + t)] (con M) (some (.int v)) (con M) ∧ v = bI (pWd T q t) := by
  refine te_of (row := _) rfl (Nat.le_of_ble_eq_true rfl) ?_
  have hm : mMet 97 = some _ := rfl
  have hle := mTx_le t
  obtain ⟨a1, a2, a3, a4, a5, a6, a7, b1, b2, b3, b4, b5, b6⟩ := id h
  refine x_aload_n hm rfl rfl ?_
  refine x_getf hm rfl (gI rfl rfl) ?_
  refine x_iconst hm rfl (v := nI 1) (by decide) ?_
  refine x_icmp_ne hm rfl (t := 24) rfl (fun h1 => ?_) (fun h1 => ?_)
  · have hv : nI 0 = bI (pWd T q t) := bI_f fun z => h1 (a3.trans ((tkc_e b5 (by decide)).mpr z.1))
    refine x_iconst hm rfl (v := nI 0) (by decide) ?_
    refine x_iret hm rfl rfl (by first | rfl | exact bI_nar | decide) ?_
    exact ⟨_, rfl, rfl, hv⟩
  · have hs1 := (tkc_e b5 (by decide)).mp (a3.symm.trans h1)
    refine x_aload_n hm rfl rfl ?_
    refine x_getf hm rfl (gI rfl rfl) ?_
    rw [a2]
    refine x_aload_n hm rfl rfl ?_
    refine x_getf hm rfl (gI rfl rfl) ?_
    rw [a1]
    refine x_isub hm rfl ?_
    rw [subI b2]
    refine x_aload_n hm rfl rfl ?_
    refine x_libV hm rfl (len_call ht rfl) ?_
    dsimp only
    refine x_icmp_eq hm rfl (t := 26) rfl (fun h2 => ?_) (fun h2 => ?_)
    · have hlen := jI_inj (by omega) (by omega) h2
      refine x_iconst hm rfl (v := nI 0) (by decide) ?_
      refine x_istore_n hm rfl rfl ?_
      exact k97l h hB ht hs1 hlen _ 0 (Nat.lt_succ_self _) (Nat.zero_le _) (fun j hj => absurd hj (Nat.not_lt_zero j))
    · have hv : nI 0 = bI (pWd T q t) := bI_f fun z => h2 (by rw [z.2.1])
      refine x_iconst hm rfl (v := nI 0) (by decide) ?_
      refine x_iret hm rfl rfl (by first | rfl | exact bI_nar | decide) ?_
      exact ⟨_, rfl, rfl, hv⟩
theorem gd_e {A B : List Nat} {i : Nat} (h1 : i < A.length) (h2 : i < B.length) (e : A.getD i 0 = B.getD i 0) : A[i] = B[i] := by
  rw [List.getD_eq_getElem?_getD, List.getD_eq_getElem?_getD, List.getElem?_eq_getElem h1, List.getElem?_eq_getElem h2] at e
  exact e
theorem wd_u {q : PS} {t u : Nat} (h : pWd T q t) (g : pWd T q u) : mTx.getD t [] = mTx.getD u [] := by
  refine List.ext_getElem (h.2.1.symm.trans g.2.1) fun i h1 h2 => ?_
  have e := (h.2.2 i h1).symm.trans (g.2.2 i h2)
  exact gd_e h1 h2 e
theorem kt_u : ∀ j, j < 7 → ∀ k, k < 7 → mTx.getD (kt j) [] = mTx.getD (kt k) [] → j = k := by decide +kernel
theorem kt_t : ∀ j, j < 7 → ¬ mTx.getD (kt j) [] = mTx.getD 0 [] := by decide +kernel
theorem pKd_no {q : PS} : ∀ k, (∀ j, j < k → ¬ pWd T q (kt j)) → pKd T q k = -1 := by
  intro k
  induction k with
  | zero => intro _; rfl
  | succ k ih =>
    intro h
    rw [show pKd T q (k + 1) = pKd T q k from if_neg (h k (Nat.lt_succ_self _))]
    exact ih fun j hj => h j (by omega)
theorem pKd_yes {q : PS} {j : Nat} (h : pWd T q (kt j)) : ∀ k, j < k → k ≤ 7 → pKd T q k = nI j := by
  intro k
  induction k with
  | zero => intro h _; omega
  | succ k ih =>
    intro hj hk
    by_cases g : pWd T q (kt k)
    · rw [show pKd T q (k + 1) = nI k from if_pos g, kt_u j (by omega) k (by omega) (wd_u h g)]
    · rw [show pKd T q (k + 1) = pKd T q k from if_neg g]
      refine ih (Nat.lt_of_le_of_ne (by omega) fun e => g (by rw [← e]; exact h)) (by omega)
theorem k95l {q : PS} (h : CT T c q M) (hB : ∀ k, k < c → T k < 256) : ∀ (n k : Nat), 7 - k < n → k ≤ 7 → (∀ j, j < k → ¬ pWd T q (kt j)) → mEv X (QE M (fun v => v = pKd T q 7)) 95 2 [some (.ref 52), some (.int (nI k))] [] (con M) := by
  have hm : mMet 95 = some _ := rfl
  intro n
  induction n with
  | zero =>
    intro k hkn hkb hno
    omega
  | succ n ih =>
    intro k hkn hkb hno
    refine x_iload_n hm rfl rfl ?_
    refine x_bipush hm rfl (v := nI 7) (by decide) ?_
    refine x_icmp_ge hm rfl (t := 27) rfl (fun h1 => ?_) (fun h1 => ?_)
    · obtain rfl : k = 7 := Nat.le_antisymm hkb ((jI_le (by decide) (by omega)).mp h1)
      have hv : -1 = pKd T q 7 := (pKd_no 7 hno).symm
      refine x_iconst hm rfl (v := (-1 : Int32)) (by decide) ?_
      refine x_iret hm rfl rfl (by first | rfl | exact bI_nar | decide) ?_
      exact ⟨_, rfl, rfl, hv⟩
    · have hk : k < 7 := Nat.lt_of_not_le fun h => h1 (nI_le h (by omega))
      refine x_aload_n hm rfl rfl ?_
      refine x_iload_n hm rfl rfl ?_
      refine x_callS hm rfl rfl (t96 hk) ?_
      refine x_cVe hm rfl rfl (k97 h hB (kt_lt hk)) (fun v2 r2 => ?_)
      subst r2
      refine x_if_eq hm rfl (t := 21) rfl (fun h3 => ?_) (fun h3 => ?_)
      · have hn := bI_eq0.mp h3
        refine x_iinc hm rfl rfl (v := nI 1) (by decide) rfl ?_
        rw [jI_add]
        refine x_goto hm rfl (t := 2) rfl ?_
        refine ih _ (by omega) (by omega) fun j hj => ?_
        by_cases e : j = k
        · subst e; exact hn
        · exact hno j (by omega)
      · have hv : nI k = pKd T q 7 := (pKd_yes (bI_ne0 h3) 7 hk (Nat.le_refl _)).symm
        refine x_iload_n hm rfl rfl ?_
        refine x_iret hm rfl rfl (by first | rfl | exact bI_nar | decide) ?_
        exact ⟨_, rfl, rfl, hv⟩
theorem k95 {q : PS} (h : CT T c q M) (hB : ∀ k, k < c → T k < 256) : ∃ v, mT X 95 [.ref 52] (con M) (some (.int v)) (con M) ∧ v = pKd T q 7 := by
  refine te_of (row := _) rfl (Nat.le_of_ble_eq_true rfl) ?_
  have hm : mMet 95 = some _ := rfl
  refine x_iconst hm rfl (v := nI 0) (by decide) ?_
  refine x_istore_n hm rfl rfl ?_
  exact k95l h hB _ 0 (Nat.lt_succ_self _) (Nat.zero_le _) (fun j hj => absurd hj (Nat.not_lt_zero j))
theorem k110 {q : PS} {t : Nat} {w hi : Int32} (h : CT T c q M) (hB : ∀ k, k < c → T k < 256) (ht : t < 15) : ∃ v M', mT X 110 [.ref 52, .ref (1000000 + t), .int hi, .int w] (con M) (some (.int v)) (con M') ∧ CT T c (pAf T c q t w hi).2 M' ∧ Lc M M' ∧ ((pAf T c q t w hi).2.2.2.2.2 = false → v = (pAf T c q t w hi).1) := by
  refine ti_of (row := _) rfl (Nat.le_of_ble_eq_true rfl) ?_
  have hm : mMet 110 = some _ := rfl
  refine x_aload_n hm rfl rfl ?_
  refine x_getf hm rfl (gI rfl rfl) ?_
  refine x_iconst hm rfl (v := (-1 : Int32)) (by decide) ?_
  refine x_icmp_ne hm rfl (t := 16) rfl (fun h1 => ?_) (fun h1 => ?_)
  · have hq : pAf T c q t w hi = (w, q) := if_pos (Or.inl (h.fw h1))
    refine x_iload_n hm rfl rfl ?_
    refine x_iret hm rfl rfl (by first | rfl | exact bI_nar | decide) ?_
    first
      | exact ⟨_, _, rfl, rfl, by rw [hq]; exact h, Lc.rf, fun _ => by rw [hq]⟩
      | exact ⟨_, _, rfl, rfl, by rw [hq]; exact r0.1, r0.2.trans r0.2.1, by rw [hq]; exact r0.2.2⟩
  · have hf := h.ff h1
    refine x_aload_n hm rfl rfl ?_
    refine x_aload_n hm rfl rfl ?_
    refine x_cVe hm rfl rfl (k97 h hB ht) (fun v2 r2 => ?_)
    subst r2
    refine x_if_ne hm rfl (t := 18) rfl (fun h3 => ?_) (fun h3 => ?_)
    · have hq : pAf T c q t w hi = (nI (pMu T c q (nI 1)).2.2.2.1, pNu T c (pMu T c q (nI 1)) hi) := if_neg (fun g => g.elim (fun g => absurd (hf.symm.trans g) (by decide)) (fun g => g (bI_ne0 h3)))
      refine x_aload_n hm rfl rfl ?_
      refine x_cVv hm rfl rfl (k92a h hB hf) (fun M4 r4 => ?_)
      refine x_aload_n hm rfl rfl ?_
      refine x_iload_n hm rfl rfl ?_
      refine x_cVi hm rfl rfl (k111 r4.1 hB) (fun v5 M5 r5 => ?_)
      refine x_iret hm rfl rfl (by first | rfl | exact bI_nar | decide) ?_
      first
        | exact ⟨_, _, rfl, rfl, by rw [hq]; exact r5.1, r4.2.trans r5.2.1, by rw [hq]; exact r5.2.2⟩
        | exact ⟨_, _, rfl, rfl, by rw [hq]; exact h, Lc.rf, fun _ => by rw [hq]⟩
    · have hq : pAf T c q t w hi = (w, q) := if_pos (Or.inr (bI_eq0.mp (by first | exact h3 | exact Classical.byContradiction h3)))
      refine x_iload_n hm rfl rfl ?_
      refine x_iret hm rfl rfl (by first | rfl | exact bI_nar | decide) ?_
      first
        | exact ⟨_, _, rfl, rfl, by rw [hq]; exact h, Lc.rf, fun _ => by rw [hq]⟩
        | exact ⟨_, _, rfl, rfl, by rw [hq]; exact r2.1, r0.2.trans r2.2.1, by rw [hq]; exact r2.2.2⟩
end CV
end
section
/-! ===== texts: the class ===== -/
section CY
variable {X : mSc} {Q : Option Value → mHp → Prop} {M : mM} {T : Nat → Nat} {c : Nat}
/-- the class's reader and town -/
def CK (T : Nat → Nat) (c : Nat) (q : PS) (tn pn : Nat) (r : Nat → Int32) (M0 M : mM) : Prop := CT T c q M ∧ Rel 1 tn pn M r ∧ M 1 7 = M0 1 7 ∧ ∀ a, (a < 1 ∨ 17 < a) → a ≠ 52 → M a = M0 a
theorem CK.lc {q q' : PS} {tn pn : Nat} {r : Nat → Int32} {M0 M1 : mM} (h : CK T c q tn pn r M0 M) (g : CT T c q' M1) (hL : Lc M M1) : CK T c q' tn pn r M0 M1 := by
  have e : ∀ a, a ≠ 52 → M1 a = M a := fun a ha => funext fun x => hL a x (Or.inl ha)
  exact ⟨g, h.2.1.fr fun a _ _ => e a (by omega), by rw [e 1 (by decide)]; exact h.2.2.1, fun a ha h2 => (e a h2).trans (h.2.2.2 a ha h2)⟩
theorem CT.of {q : PS} {M1 : mM} (h : CT T c q M) (e : M1 52 = M 52) (e2 : M1 53 = M 53) : CT T c q M1 := by
  unfold CT at h ⊢
  rw [e, e2]
  exact h
theorem CK.add {q : PS} {tn pn : Nat} {r : Nat → Int32} {M0 : mM} {s p : Int32} (h : CK T c q tn pn r M0 M) (h8 : tn < 8) : CK T c q (tn + 1) pn (addR r tn s p (nI 100) (nI 0) (-1) (-1)) M0 (addC M tn s p) :=
  ⟨h.1.of (addC_fr.2 52 (by decide)) (addC_fr.2 53 (by decide)), addC_rel h.2.1 h8, addC_fr.1.trans h.2.2.1, fun a ha h2 => (addC_fr.2 a ha).trans (h.2.2.2 a ha h2)⟩
theorem CK.join {q : PS} {tn pn : Nat} {r : Nat → Int32} {M0 : mM} {k p : Int32} (h : CK T c q tn pn r M0 M) (ht : tn ≤ 8) (h8 : pn < 8) : CK T c q tn (pn + 1) (joinR r pn k p (nI 1) (nI 1) (nI 1) (nI 1) (nI 1)) M0 (joinC M pn k p) :=
  ⟨h.1.of (joinC_fr.2 52 (by decide)) (joinC_fr.2 53 (by decide)), joinC_rel h.2.1 ht h8, joinC_fr.1.trans h.2.2.1, fun a ha h2 => (joinC_fr.2 a ha).trans (h.2.2.2 a ha h2)⟩
theorem CK.pi {q : PS} {tn pn f t : Nat} {r : Nat → Int32} {v : Int32} {M0 : mM} (h : CK T c q tn pn r M0 M) (h8 : tn ≤ 8) (hf : f < 6) (ht : t < tn) : CK T c q tn pn (put1 r (14 + 6 * t + f) v) M0 (mput M (1 + 2 + f) t v) :=
  ⟨h.1.of (mpo (by omega)) (mpo (by omega)), h.2.1.pi h8 hf ht, (mpn (by omega)).trans h.2.2.1, fun a ha h2 => (mpo (by omega)).trans (h.2.2.2 a ha h2)⟩
theorem CK.pf {q : PS} {tn pn f p : Nat} {r : Nat → Int32} {v : Int32} {M0 : mM} (h : CK T c q tn pn r M0 M) (h8 : tn ≤ 8) (hf : f < 7) (hp : p < pn) : CK T c q tn pn (put1 r (62 + 7 * p + f) v) M0 (mput M (1 + 9 + f) p v) :=
  ⟨h.1.of (mpo (by omega)) (mpo (by omega)), h.2.1.pf h8 hf hp, (mpn (by omega)).trans h.2.2.1, fun a ha h2 => (mpo (by omega)).trans (h.2.2.2 a ha h2)⟩
section W
variable {q : PS} {tn pn : Nat} {r : Nat → Int32} {M0 : mM}
theorem q92 (hB : ∀ k, k < c → T k < 256) (h : CK T c q tn pn r M0 M) (g : q.2.2.2.2 = false) : ∃ M', mT X 92 [.ref 52] (con M) none (con M') ∧ CK T c (pMu T c q (nI 1)) tn pn r M0 M' := by
  obtain ⟨M1, h1, h2, h3⟩ := k92a (X := X) h.1 hB g
  exact ⟨M1, h1, h.lc h2 h3⟩
theorem q112 (h : CK T c q tn pn r M0 M) : ∃ M', mT X 112 [.ref 52] (con M) none (con M') ∧ CK T c (pMu T c q (nI 0)) tn pn r M0 M' := by
  obtain ⟨M1, h1, h2, h3⟩ := k112 (X := X) h.1
  exact ⟨M1, h1, h.lc h2 h3⟩
theorem q111 {hi : Int32} (hB : ∀ k, k < c → T k < 256) (h : CK T c q tn pn r M0 M) : ∃ v M', mT X 111 [.ref 52, .int hi] (con M) (some (.int v)) (con M') ∧ CK T c (pNu T c q hi) tn pn r M0 M' ∧ ((pNu T c q hi).2.2.2.2 = false → v = nI q.2.2.2.1) := by
  obtain ⟨v, M1, h1, h2, h3, h4⟩ := k111 (X := X) (hi := hi) h.1 hB
  exact ⟨v, M1, h1, h.lc h2 h3, h4⟩
theorem q110 {t : Nat} {w hi : Int32} (hB : ∀ k, k < c → T k < 256) (ht : t < 15) (h : CK T c q tn pn r M0 M) : ∃ v M', mT X 110 [.ref 52, .ref (1000000 + t), .int hi, .int w] (con M) (some (.int v)) (con M') ∧ CK T c (pAf T c q t w hi).2 tn pn r M0 M' ∧ ((pAf T c q t w hi).2.2.2.2.2 = false → v = (pAf T c q t w hi).1) := by
  obtain ⟨v, M1, h1, h2, h3, h4⟩ := k110 (X := X) (w := w) (hi := hi) h.1 hB ht
  exact ⟨v, M1, h1, h.lc h2 h3, h4⟩
end W
theorem pAf_f {q : PS} {t : Nat} {w hi : Int32} (g : (pAf T c q t w hi).2.2.2.2.2 = false) : q.2.2.2.2 = false := by
  cases h : q.2.2.2.2 with
  | false => rfl
  | true => rw [pAf_w h] at g; exact h.symm.trans g
theorem pNu_f {q : PS} {hi : Int32} (g : (pNu T c q hi).2.2.2.2 = false) : q.2.2.2.2 = false := (pMu_ok g).1
theorem pL_f {q : PS} {i : Nat} (g : (pL T c q (i + 1)).2.2.2.2 = false) : (pL T c q i).2.2.2.2 = false := pNu_f g
theorem pMu0_w {q : PS} : (pMu T c q (nI 0)).2.2.2.2 = true := by
  rw [show pMu T c q (nI 0) = (q.1, q.2.1, q.2.2.1, q.2.2.2.1, true) from if_pos (Or.inr rfl)]
theorem pThg_w {q : PS} {tn pn : Nat} (h : ¬ (pWd T q 0 ∧ tn < 8)) : (pThg T c q tn pn).2 = pMu T c q (nI 0) := by
  have e1 : pT1 T c q tn = pMu T c q (nI 0) := congrArg (pMu T c q) (if_neg h)
  have e2 : pT2 T c q tn = pMu T c q (nI 0) := by
    unfold pT2
    rw [e1]
    exact pNu_w pMu0_w
  show (pT7 T c q tn pn).2 = _
  have e3 : (pT3 T c q tn).2 = pMu T c q (nI 0) := by unfold pT3; rw [e2, pAf_w pMu0_w]
  have e4 : (pT4 T c q tn).2 = pMu T c q (nI 0) := by unfold pT4; rw [e3, pAf_w pMu0_w]
  have e5 : (pT5 T c q tn).2 = pMu T c q (nI 0) := by unfold pT5; rw [e4, pAf_w pMu0_w]
  have e6 : (pT6 T c q tn pn).2 = pMu T c q (nI 0) := by unfold pT6; rw [e5, pAf_w pMu0_w]
  unfold pT7
  rw [e6, pAf_w pMu0_w]
theorem pPer_w {q : PS} {k : Int32} {pn : Nat} (h : ¬ pn < 8) : (pPer T c q k pn).2 = pMu T c q (nI 0) := by
  have e1 : pP1 T c q pn = pMu T c q (nI 0) := congrArg (pMu T c q) (if_neg h)
  have e2 : (pP2 T c q pn).2 = pMu T c q (nI 0) := by unfold pP2; rw [e1, pAf_w pMu0_w]
  have e3 : (pP3 T c q pn).2 = pMu T c q (nI 0) := by unfold pP3; rw [e2, pAf_w pMu0_w]
  unfold pPer
  rw [if_pos (Or.inl (by rw [e3]; exact pMu0_w))]
  exact e3
theorem k113 {q : PS} {tn pn : Nat} {r : Nat → Int32} {M0 : mM} (hB : ∀ k, k < c → T k < 256) (h : CK T c q tn pn r M0 M) (hf : q.2.2.2.2 = false) (hw : pWd T q 0) (ht8 : tn < 8) (hp8 : pn ≤ 8) : ∃ M', mT X 113 [.ref 52, .ref 1] (con M) none (con M') ∧ ∃ v2 v3 v4 v5 v6 v7, CK T c (pThg T c q tn pn).2 (tn + 1) pn (addR r tn v2 v3 v4 v5 v6 v7) M0 M' ∧ ((pThg T c q tn pn).2.2.2.2.2 = false → itm (nI 10) v2 v3 v4 v5 v6 v7 = (pThg T c q tn pn).1) := by
  refine tv_of (row := _) rfl (Nat.le_of_ble_eq_true rfl) ?_
  have hm : mMet 113 = some _ := rfl
  refine x_aload_n hm rfl rfl ?_
  refine x_cVv hm rfl rfl (q92 hB h hf) (fun M1 r1 => ?_)
  have b1 : CK T c (pT1 T c q tn) tn pn r M0 M1 := by unfold pT1; rw [if_pos ⟨hw, ht8⟩]; exact r1
  refine x_aload_n hm rfl rfl ?_
  refine x_iconst hm rfl (v := nI 3) (by decide) ?_
  refine x_cVi hm rfl rfl (q111 hB b1) (fun v2 M2 r2 => ?_)
  obtain ⟨b2, y2⟩ := r2
  refine x_istore_n hm rfl rfl ?_
  refine x_aload_n hm rfl rfl ?_
  refine x_ldcS hm rfl ?_
  refine x_bipush hm rfl (v := nI 15) (by decide) ?_
  refine x_iconst hm rfl (v := nI 0) (by decide) ?_
  refine x_cVi hm rfl rfl (q110 hB (by decide) b2) (fun v3 M3 r3 => ?_)
  obtain ⟨b3, y3⟩ := r3
  refine x_istore_n hm rfl rfl ?_
  refine x_aload_n hm rfl rfl ?_
  refine x_ldcS hm rfl ?_
  refine x_sipush hm rfl (v := nI 999) (by decide) ?_
  refine x_bipush hm rfl (v := nI 100) (by decide) ?_
  refine x_cVi hm rfl rfl (q110 hB (by decide) b3) (fun v4 M4 r4 => ?_)
  obtain ⟨b4, y4⟩ := r4
  refine x_istore hm rfl rfl ?_
  refine x_aload_n hm rfl rfl ?_
  refine x_ldcS hm rfl ?_
  refine x_bipush hm rfl (v := nI 9) (by decide) ?_
  refine x_iconst hm rfl (v := nI 0) (by decide) ?_
  refine x_cVi hm rfl rfl (q110 hB (by decide) b4) (fun v5 M5 r5 => ?_)
  obtain ⟨b5, y5⟩ := r5
  refine x_istore hm rfl rfl ?_
  refine x_aload_n hm rfl rfl ?_
  refine x_ldcS hm rfl ?_
  refine x_aload_n hm rfl rfl ?_
  refine x_getf hm rfl (gI rfl rfl) ?_
  rw [b5.2.1.2.1]
  refine x_iconst hm rfl (v := nI 1) (by decide) ?_
  refine x_isub hm rfl ?_
  refine x_iconst hm rfl (v := (-1 : Int32)) (by decide) ?_
  refine x_cVi hm rfl rfl (q110 hB (by decide) b5) (fun v6 M6 r6 => ?_)
  obtain ⟨b6, y6⟩ := r6
  refine x_istore hm rfl rfl ?_
  refine x_aload_n hm rfl rfl ?_
  refine x_ldcS hm rfl ?_
  refine x_aload_n hm rfl rfl ?_
  refine x_getf hm rfl (gI rfl rfl) ?_
  rw [b6.2.1.1]
  refine x_iconst hm rfl (v := nI 1) (by decide) ?_
  refine x_isub hm rfl ?_
  refine x_iconst hm rfl (v := (-1 : Int32)) (by decide) ?_
  refine x_cVi hm rfl rfl (q110 hB (by decide) b6) (fun v7 M7 r7 => ?_)
  obtain ⟨b7, y7⟩ := r7
  refine x_istore hm rfl rfl ?_
  refine x_aload_n hm rfl rfl ?_
  refine x_iload_n hm rfl rfl ?_
  refine x_iload_n hm rfl rfl ?_
  refine x_callV hm rfl rfl (u8 b7.2.1.1 ht8) ?_
  refine x_istore hm rfl rfl ?_
  refine x_aload_n hm rfl rfl ?_
  refine x_getf hm rfl (gR rfl rfl) ?_
  refine x_iconst hm rfl (v := nI 2) (by decide) ?_
  refine x_aald hm rfl (lQ _ (by decide) rfl rfl (by omega) (by decide)) ?_
  refine x_iload hm rfl rfl ?_
  refine x_iload hm rfl rfl ?_
  refine x_iast hm rfl (sI rfl (by omega) (by decide)) ?_
  refine x_aload_n hm rfl rfl ?_
  refine x_getf hm rfl (gR rfl rfl) ?_
  refine x_iconst hm rfl (v := nI 3) (by decide) ?_
  refine x_aald hm rfl (lQ _ (by decide) rfl rfl (by omega) (by decide)) ?_
  refine x_iload hm rfl rfl ?_
  refine x_iload hm rfl rfl ?_
  refine x_iast hm rfl (sI rfl (by omega) (by decide)) ?_
  refine x_aload_n hm rfl rfl ?_
  refine x_getf hm rfl (gR rfl rfl) ?_
  refine x_iconst hm rfl (v := nI 4) (by decide) ?_
  refine x_aald hm rfl (lQ _ (by decide) rfl rfl (by omega) (by decide)) ?_
  refine x_iload hm rfl rfl ?_
  refine x_iload hm rfl rfl ?_
  refine x_iast hm rfl (sI rfl (by omega) (by decide)) ?_
  refine x_aload_n hm rfl rfl ?_
  refine x_getf hm rfl (gR rfl rfl) ?_
  refine x_iconst hm rfl (v := nI 5) (by decide) ?_
  refine x_aald hm rfl (lQ _ (by decide) rfl rfl (by omega) (by decide)) ?_
  refine x_iload hm rfl rfl ?_
  refine x_iload hm rfl rfl ?_
  refine x_iast hm rfl (sI rfl (by omega) (by decide)) ?_
  refine x_ret hm rfl rfl ?_
  have b8 := ((((b7.add (s := v2) (p := v3) ht8).pi (f := 2) (v := v4) ht8 (by decide) (Nat.lt_succ_self _)).pi (f := 3) (v := v5) ht8 (by decide) (Nat.lt_succ_self _)).pi (f := 4) (v := v6) ht8 (by decide) (Nat.lt_succ_self _)).pi (f := 5) (v := v7) ht8 (by decide) (Nat.lt_succ_self _)
  rw [addR_u2, addR_u3, addR_u4, addR_u5] at b8
  refine ⟨_, rfl, rfl, _, _, _, _, _, _, b8, fun g7 => ?_⟩
  have g6 := pAf_f g7
  have g5 := pAf_f g6
  have g4 := pAf_f g5
  have g3 := pAf_f g4
  have g2 := pAf_f g3
  rw [y2 g2, y3 g3, y4 g4, y5 g5, y6 g6, y7 g7]
  rfl
theorem joinR_ui {r : Nat → Int32} {n i : Nat} {a b d v : Int32} {l : Nat → Int32} (hi : i < 4) : put1 (joinR r n a b d (l 0) (l 1) (l 2) (l 3)) (62 + 7 * n + (3 + i)) v = joinR r n a b d (put1 l i v 0) (put1 l i v 1) (put1 l i v 2) (put1 l i v 3) := by
  rcases (by omega : i = 0 ∨ i = 1 ∨ i = 2 ∨ i = 3) with rfl | rfl | rfl | rfl
  · exact joinR_u3
  · exact joinR_u4
  · exact joinR_u5
  · exact joinR_u6
theorem k109l {q : PS} {tn pn : Nat} {r : Nat → Int32} {M0 : mM} {k v3 v4 : Int32} (hB : ∀ k, k < c → T k < 256) (ht8 : tn ≤ 8) (hp8 : pn < 8) : ∀ (z i : Nat) (l : Nat → Int32) (M : mM), 4 - i < z → i ≤ 4 → CK T c (pL T c q i) tn (pn + 1) (joinR r pn k v3 v4 (l 0) (l 1) (l 2) (l 3)) M0 M → ((pL T c q i).2.2.2.2 = false → ∀ j, j < i → l j = nI (pL T c q j).2.2.2.1) → mEv X (QV (fun M' => ∃ l : Nat → Int32, CK T c (pL T c q 4) tn (pn + 1) (joinR r pn k v3 v4 (l 0) (l 1) (l 2) (l 3)) M0 M' ∧ ((pL T c q 4).2.2.2.2 = false → ∀ j, j < 4 → l j = nI (pL T c q j).2.2.2.1))) 109 68 [some (.ref 52), some (.ref 1), some (.int k), some (.int v3), some (.int v4), some (.int (nI pn)), some (.int (nI i))] [] (con M) := by
  have hm : mMet 109 = some _ := rfl
  intro z
  induction z with
  | zero =>
    intro i l M hiz hi4 h hl
    omega
  | succ z ih =>
    intro i l M hiz hi4 h hl
    refine x_iload hm rfl rfl ?_
    refine x_iconst hm rfl (v := nI 4) (by decide) ?_
    refine x_icmp_ge hm rfl (t := 98) rfl (fun h1 => ?_) (fun h1 => ?_)
    · obtain rfl : i = 4 := Nat.le_antisymm hi4 ((jI_le (by decide) (by omega)).mp h1)
      refine x_ret hm rfl rfl ?_
      exact ⟨_, rfl, rfl, l, h, hl⟩
    · have hi : i < 4 := Nat.lt_of_not_le fun h => h1 (nI_le h (by omega))
      refine x_aload_n hm rfl rfl ?_
      refine x_getf hm rfl (gR rfl rfl) ?_
      refine x_iconst hm rfl (v := nI 3) (by decide) ?_
      refine x_iload hm rfl rfl ?_
      refine x_iadd hm rfl ?_
      rw [jI_add]
      refine x_aald hm rfl (lQ 3 (Or.inr (Or.inl rfl)) (tF (b := 1) (by decide)) (tFk (by omega)) (by omega) (by decide)) ?_
      refine x_iload hm rfl rfl ?_
      refine x_aload_n hm rfl rfl ?_
      refine x_bipush hm rfl (v := nI 9) (by decide) ?_
      refine x_cVi hm rfl rfl (q111 hB h) (fun v2 M2 r2 => ?_)
      refine x_iast hm rfl (sI (tRowF (b := 1) (by decide) (by omega)) (by omega) (by decide)) ?_
      refine x_iinc hm rfl rfl (v := nI 1) (by decide) rfl ?_
      rw [jI_add]
      refine x_goto hm rfl (t := 68) rfl ?_
      have b1 := r2.1.pf (f := 3 + i) (p := pn) (v := v2) ht8 (by omega) (Nat.lt_succ_self _)
      rw [joinR_ui hi] at b1
      refine ih (i + 1) _ _ (by omega) (by omega) b1 fun g j hj => ?_
      by_cases e : j = i
      · subst e
        rw [put1_s]
        exact r2.2 g
      · rw [put1_o e]
        exact hl (pL_f g) j (by omega)
theorem k109 {q : PS} {tn pn : Nat} {r : Nat → Int32} {M0 : mM} (hB : ∀ k, k < c → T k < 256) (h : CK T c q tn pn r M0 M) (hf : q.2.2.2.2 = false) {k : Int32} (ht8 : tn ≤ 8) (hp8 : pn < 8) : ∃ M', mT X 109 [.ref 52, .ref 1, .int k] (con M) none (con M') ∧ ∃ v3 v4 l0 l1 l2 l3, CK T c (pPer T c q k pn).2 tn (pn + 1) (joinR r pn k v3 v4 l0 l1 l2 l3) M0 M' ∧ ((pPer T c q k pn).2.2.2.2.2 = false → itm k v3 v4 l0 l1 l2 l3 = (pPer T c q k pn).1) := by
  refine tv_of (row := _) rfl (Nat.le_of_ble_eq_true rfl) ?_
  have hm : mMet 109 = some _ := rfl
  refine x_aload_n hm rfl rfl ?_
  refine x_cVv hm rfl rfl (q92 hB h hf) (fun M1 r1 => ?_)
  have b1 : CK T c (pP1 T c q pn) tn pn r M0 M1 := by unfold pP1; rw [if_pos hp8]; exact r1
  refine x_aload_n hm rfl rfl ?_
  refine x_ldcS hm rfl ?_
  refine x_bipush hm rfl (v := nI 15) (by decide) ?_
  refine x_iconst hm rfl (v := nI 0) (by decide) ?_
  refine x_cVi hm rfl rfl (q110 hB (by decide) b1) (fun v2 M2 r2 => ?_)
  obtain ⟨b2, y2⟩ := r2
  change CK T c (pP2 T c q pn).2 _ _ _ _ _ at b2
  refine x_istore_n hm rfl rfl ?_
  refine x_aload_n hm rfl rfl ?_
  refine x_ldcS hm rfl ?_
  refine x_bipush hm rfl (v := nI 15) (by decide) ?_
  refine x_iconst hm rfl (v := nI 1) (by decide) ?_
  refine x_cVi hm rfl rfl (q110 hB (by decide) b2) (fun v3 M3 r3 => ?_)
  obtain ⟨b3, y3⟩ := r3
  change CK T c (pP3 T c q pn).2 _ _ _ _ _ at b3
  refine x_istore hm rfl rfl ?_
  refine x_aload_n hm rfl rfl ?_
  refine x_iload_n hm rfl rfl ?_
  refine x_iload_n hm rfl rfl ?_
  refine x_callV hm rfl rfl (u23 b3.2.1.2.1 hp8) ?_
  refine x_istore hm rfl rfl ?_
  refine x_aload_n hm rfl rfl ?_
  refine x_getf hm rfl (gR rfl rfl) ?_
  refine x_iconst hm rfl (v := nI 2) (by decide) ?_
  refine x_aald hm rfl (lQ _ (by decide) rfl rfl (by omega) (by decide)) ?_
  refine x_iload hm rfl rfl ?_
  refine x_iload hm rfl rfl ?_
  refine x_iast hm rfl (sI rfl (by omega) (by decide)) ?_
  have b4 := (b3.join (k := k) (p := v2) ht8 hp8).pf (f := 2) (p := pn) (v := v3) ht8 (by decide) (Nat.lt_succ_self _)
  rw [joinR_u2] at b4
  refine x_aload_n hm rfl rfl ?_
  refine x_getf hm rfl (gI rfl rfl) ?_
  refine x_iconst hm rfl (v := (-1 : Int32)) (by decide) ?_
  refine x_icmp_ne hm rfl (t := 98) rfl (fun h4 => ?_) (fun h4 => ?_)
  · have hno : noL T (pP3 T c q pn).2 := Or.inl (b4.1.fw h4)
    refine x_ret hm rfl rfl ?_
    have eq : pPer T c q k pn = (itm k (pP2 T c q pn).1 (pP3 T c q pn).1 (nI 1) (nI 1) (nI 1) (nI 1), (pP3 T c q pn).2) := if_pos hno
    rw [eq]
    exact ⟨_, rfl, rfl, _, _, _, _, _, _, b4, fun g => by rw [y2 (pAf_f g), y3 g]; rfl⟩
  · have hf3 := b4.1.ff h4
    refine x_aload_n hm rfl rfl ?_
    refine x_ldcS hm rfl ?_
    refine x_cVe hm rfl rfl (k97 b4.1 hB (by decide)) (fun v5 r5 => ?_)
    subst r5
    refine x_if_eq hm rfl (t := 98) rfl (fun h6 => ?_) (fun h6 => ?_)
    · have hno : noL T (pP3 T c q pn).2 := Or.inr (bI_eq0.mp h6)
      refine x_ret hm rfl rfl ?_
      have eq : pPer T c q k pn = (itm k (pP2 T c q pn).1 (pP3 T c q pn).1 (nI 1) (nI 1) (nI 1) (nI 1), (pP3 T c q pn).2) := if_pos hno
      rw [eq]
      exact ⟨_, rfl, rfl, _, _, _, _, _, _, b4, fun g => by rw [y2 (pAf_f g), y3 g]; rfl⟩
    · have hye : ¬ noL T (pP3 T c q pn).2 := fun z => z.elim (fun z => absurd (hf3.symm.trans z) (by decide)) (fun z => z (bI_ne0 h6))
      refine x_aload_n hm rfl rfl ?_
      refine x_cVv hm rfl rfl (q92 hB b4 hf3) (fun M7 r7 => ?_)
      refine x_iconst hm rfl (v := nI 0) (by decide) ?_
      refine x_istore hm rfl rfl ?_
      have eq : pPer T c q k pn = (itm k (pP2 T c q pn).1 (pP3 T c q pn).1 (nI (pL T c (pP3 T c q pn).2 0).2.2.2.1) (nI (pL T c (pP3 T c q pn).2 1).2.2.2.1) (nI (pL T c (pP3 T c q pn).2 2).2.2.2.1) (nI (pL T c (pP3 T c q pn).2 3).2.2.2.1), pL T c (pP3 T c q pn).2 4) := if_neg hye
      rw [eq]
      refine ev_mono (k109l (q := (pP3 T c q pn).2) (l := fun _ => nI 1) hB ht8 hp8 _ 0 _ (Nat.lt_succ_self _) (Nat.zero_le _) r7 (fun _ j hj => absurd hj (Nat.not_lt_zero j))) ?_
      rintro r0 D ⟨M9, e1, e2, l, e3, e4⟩
      refine ⟨M9, e1, e2, _, _, _, _, _, _, e3, fun g => ?_⟩
      have g3 : (pP3 T c q pn).2.2.2.2.2 = false := (pMu_ok (pL_f (pL_f (pL_f (pL_f g))))).1
      rw [y2 (pAf_f g3), y3 g3, e4 g 0 (by decide), e4 g 1 (by decide), e4 g 2 (by decide), e4 g 3 (by decide)]
      rfl
end CY
end
section
/-! ===== texts: both sides ===== -/
section CZ
variable {X : mSc} {Q : Option Value → mHp → Prop} {M : mM} {T : Nat → Nat} {c : Nat}
/-- rows alike, as far as the first things and people go -/
def Ag (nt np : Nat) (r0 r : Nat → Int32) : Prop := r 0 = r0 0 ∧ r 3 = r0 3 ∧ (∀ s, s < 10 → r (4 + s) = r0 (4 + s)) ∧ (∀ f t, f < 6 → t < nt → r (14 + 6 * t + f) = r0 (14 + 6 * t + f)) ∧ (∀ f p, f < 7 → p < np → r (62 + 7 * p + f) = r0 (62 + 7 * p + f))
theorem Ag.rf {nt np : Nat} {r : Nat → Int32} : Ag nt np r r := ⟨rfl, rfl, fun _ _ => rfl, fun _ _ _ _ => rfl, fun _ _ _ _ => rfl⟩
theorem Ag.add {nt np tn : Nat} {r0 r : Nat → Int32} {a b d e f g : Int32} (h : Ag nt np r0 r) (h1 : nt ≤ tn) (h8 : tn < 8) : Ag nt np r0 (addR r tn a b d e f g) := by
  obtain ⟨g1, g2, g3, g4, g5⟩ := h
  refine ⟨?_, ?_, fun s hs => ?_, fun f t hf ht => ?_, fun f p hf hp => ?_⟩
  · rw [addR_o (by decide) (by omega)]; exact g1
  · rw [addR_o (by decide) (by omega)]; exact g2
  · rw [addR_o (by omega) (by omega)]; exact g3 s hs
  · rw [addR_o (by omega) (by omega)]; exact g4 f t hf ht
  · rw [addR_o (by omega) (by omega)]; exact g5 f p hf hp
theorem Ag.join {nt np pn : Nat} {r0 r : Nat → Int32} {a b d e f g i : Int32} (h : Ag nt np r0 r) (h1 : np ≤ pn) (h8 : nt ≤ 8) : Ag nt np r0 (joinR r pn a b d e f g i) := by
  obtain ⟨g1, g2, g3, g4, g5⟩ := h
  refine ⟨?_, ?_, fun s hs => ?_, fun f t hf ht => ?_, fun f p hf hp => ?_⟩
  · rw [joinR_o (by decide) (by omega)]; exact g1
  · rw [joinR_o (by decide) (by omega)]; exact g2
  · rw [joinR_o (by omega) (by omega)]; exact g3 s hs
  · rw [joinR_o (by omega) (by omega)]; exact g4 f t hf ht
  · rw [joinR_o (by omega) (by omega)]; exact g5 f p hf hp
theorem Rel.low {nt np tn pn : Nat} {r0 r : Nat → Int32} (h : Rel 1 tn pn M r) (g : Ag nt np r0 r) (h1 : nt ≤ tn) (h2 : np ≤ pn) : Rel 1 nt np (mput (mput M 1 3 (nI nt)) 1 4 (nI np)) r0 := by
  obtain ⟨a1, a2, a3, a4, a5, a6, a7⟩ := h
  obtain ⟨g1, g2, g3, g4, g5⟩ := g
  have e : ∀ a x, (a ≠ 1 ∨ (x ≠ 3 ∧ x ≠ 4)) → mput (mput M 1 3 (nI nt)) 1 4 (nI np) a x = M a x := fun a x hx => by rw [mpn (by omega), mpn (by omega)]
  exact ⟨(mpf (by decide)).trans mp0, mp0, (e 1 5 (by omega)).trans (a3.trans g1), (e 1 6 (by omega)).trans (a4.trans g2), fun s hs => (e _ _ (by omega)).trans ((a5 s hs).trans (g3 s hs)), fun f t hf ht => (e _ _ (by omega)).trans ((a6 f t hf (by omega)).trans (g4 f t hf ht)), fun f p hf hp => (e _ _ (by omega)).trans ((a7 f p hf (by omega)).trans (g5 f p hf hp))⟩
/-- the class's reader and town, where something may be wrong -/
def CW (T : Nat → Nat) (c nt np : Nat) (r0 : Nat → Int32) (q : PS) (S : S3) (M0 M : mM) : Prop := ∃ tn pn r, CK T c q tn pn r M0 M ∧ tn ≤ 8 ∧ pn ≤ 8 ∧ nt ≤ tn ∧ np ≤ pn ∧ Ag nt np r0 r ∧ (q.2.2.2.2 = false → tn = S.1 ∧ pn = S.2.1 ∧ r = S.2.2)
section CW
variable {nt np m tn pn : Nat} {r0 : Nat → Int32} {I : Nat → Nat → Int32} {q : PS} {M0 : mM}
theorem cS_n {it : Nat → Int32} {S : S3} : cS (upI I m it) S (m + 1) = apR (cS I S m) it := by
  show apR (cS (upI I m it) S m) (upI I m it m) = _
  rw [upI_s, cS_u m (Nat.le_refl _)]
theorem cw_fail (ht : tn ≤ 8) (hp : pn ≤ 8) (h1 : nt ≤ tn) (h2 : np ≤ pn) {r : Nat → Int32} {S : S3} (hA : Ag nt np r0 r) (h : CK T c (pMu T c q (nI 0)) tn pn r M0 M) {q' : PS} (e : q' = pMu T c q (nI 0)) : CW T c nt np r0 q' S M0 M := by
  subst e
  exact ⟨tn, pn, r, h, ht, hp, h1, h2, hA, fun g => absurd (pMu0_w.symm.trans g) (by decide)⟩
theorem cw_thing (hneg : pKd T q 7 < 0) (ht8 : tn < 8) (hp : pn ≤ 8) (h1 : nt ≤ tn) (h2 : np ≤ pn) (e1 : (cS I (nt, np, r0) m).1 = tn) (e2 : (cS I (nt, np, r0) m).2.1 = pn) {v2 v3 v4 v5 v6 v7 : Int32} (hA : Ag nt np r0 (cS I (nt, np, r0) m).2.2) (h : CK T c (pThg T c q tn pn).2 (tn + 1) pn (addR (cS I (nt, np, r0) m).2.2 tn v2 v3 v4 v5 v6 v7) M0 M) (hv : (pThg T c q tn pn).2.2.2.2.2 = false → itm (nI 10) v2 v3 v4 v5 v6 v7 = (pThg T c q tn pn).1) : CW T c nt np r0 (pItem T c q tn pn).2.2.2 (cS (upI I m (pItem T c q tn pn).1) (nt, np, r0) (m + 1)) M0 M := by
  have eq : pItem T c q tn pn = ((pThg T c q tn pn).1, tn + 1, pn, (pThg T c q tn pn).2) := if_pos hneg
  rw [eq, cS_n]
  refine ⟨tn + 1, pn, _, h, ht8, hp, by omega, h2, hA.add h1 ht8, fun g => ?_⟩
  dsimp only
  rw [← hv g, show apR (cS I (nt, np, r0) m) (itm (nI 10) v2 v3 v4 v5 v6 v7) = _ from if_pos rfl]
  exact ⟨by rw [e1], e2.symm, by rw [e1]; rfl⟩
theorem cw_person {k : Nat} (hk : k < 7) (hkd : pKd T q 7 = nI k) (ht : tn ≤ 8) (hp8 : pn < 8) (hn8 : nt ≤ 8) (h1 : nt ≤ tn) (h2 : np ≤ pn) (e1 : (cS I (nt, np, r0) m).1 = tn) (e2 : (cS I (nt, np, r0) m).2.1 = pn) {v3 v4 l0 l1 l2 l3 : Int32} (hA : Ag nt np r0 (cS I (nt, np, r0) m).2.2) (h : CK T c (pPer T c q (nI k) pn).2 tn (pn + 1) (joinR (cS I (nt, np, r0) m).2.2 pn (nI k) v3 v4 l0 l1 l2 l3) M0 M) (hv : (pPer T c q (nI k) pn).2.2.2.2.2 = false → itm (nI k) v3 v4 l0 l1 l2 l3 = (pPer T c q (nI k) pn).1) : CW T c nt np r0 (pItem T c q tn pn).2.2.2 (cS (upI I m (pItem T c q tn pn).1) (nt, np, r0) (m + 1)) M0 M := by
  have eq : pItem T c q tn pn = ((pPer T c q (pKd T q 7) pn).1, tn, pn + 1, (pPer T c q (pKd T q 7) pn).2) := if_neg (by rw [hkd]; exact jI_nn (by omega))
  rw [eq, cS_n, hkd]
  refine ⟨tn, pn + 1, _, h, ht, hp8, h1, by omega, hA.join h2 hn8, fun g => ?_⟩
  dsimp only
  rw [← hv g, show apR (cS I (nt, np, r0) m) (itm (nI k) v3 v4 l0 l1 l2 l3) = _ from if_neg (fun z => by have := jI_inj (by omega) (by decide) (show nI k = nI 10 from z); omega)]
  exact ⟨e1.symm, by rw [e2], by rw [e2]; rfl⟩
end CW
def qF (T : Nat → Nat) (c : Nat) (q : PS) : PS := if q.2.2.1 = 0 then q else pMu T c q (nI 0)
theorem qF_f {q : PS} (h : (qF T c q).2.2.2.2 = false) : q.2.2.2.2 = false ∧ q.2.2.1 = 0 := by
  by_cases e : q.2.2.1 = 0
  · rw [show qF T c q = q from if_pos e] at h
    exact ⟨h, e⟩
  · rw [show qF T c q = pMu T c q (nI 0) from if_neg e] at h
    exact absurd (pMu0_w.symm.trans h) (by decide)
theorem qF_w {q : PS} (h : (qF T c q).2.2.2.2 = true) : q.2.2.2.2 = true ∨ ¬ q.2.2.1 = 0 := by
  by_cases e : q.2.2.1 = 0
  · rw [show qF T c q = q from if_pos e] at h
    exact Or.inl h
  · exact Or.inr e
theorem qF_1 {q : PS} : (qF T c q).1 = q.1 := by
  unfold qF
  split
  · rfl
  · rw [show pMu T c q (nI 0) = (q.1, q.2.1, q.2.2.1, q.2.2.2.1, true) from if_pos (Or.inr rfl)]
theorem k91x {nt np : Nat} {r0 : Nat → Int32} {M0 : mM} {q : PS} {S : S3} {m : Nat} {x4 : Option Value} (h : CW T c nt np r0 q S M0 M) : mEv X (QI (fun v M' => v = nI m ∧ CW T c nt np r0 (qF T c q) S M0 M')) 91 18 [some (.ref 52), some (.ref 1), some (.int (nI m)), some (.int (nI 0)), x4] [] (con M) := by
  have hm : mMet 91 = some _ := rfl
  obtain ⟨tn, pn, r, hk, y1, y2, y3, y4, y5, y6⟩ := h
  have hs3 := hk.1.2.2.2.2.2.2.2.2.2.2.2.1
  refine x_iload_n hm rfl rfl ?_
  refine x_if_eq hm rfl (t := 125) rfl (fun h1 => ?_) (fun h1 => ?_)
  · refine x_aload_n hm rfl rfl ?_
    refine x_getf hm rfl (gI rfl rfl) ?_
    refine x_if_eq hm rfl (t := 136) rfl (fun h2 => ?_) (fun h2 => ?_)
    · have hs0 : q.2.2.1 = 0 := (tkc_e hs3 (by decide)).mp (hk.1.2.2.1.symm.trans h2)
      have hq : qF T c q = q := if_pos hs0
      refine x_iload_n hm rfl rfl ?_
      refine x_iret hm rfl rfl (by first | rfl | exact bI_nar | decide) ?_
      first
        | exact ⟨_, _, rfl, rfl, rfl, by rw [hq]; exact ⟨tn, pn, r, hk, y1, y2, y3, y4, y5, y6⟩⟩
        | exact ⟨_, _, rfl, rfl, rfl, by rw [hq]; exact ⟨tn, pn, r, r0, y1, y2, y3, y4, y5, fun g => absurd (pMu0_w.symm.trans g) (by decide)⟩⟩
    · have hs0 : ¬ q.2.2.1 = 0 := fun e => h2 (hk.1.2.2.1.trans ((tkc_e (k := 0) hs3 (by decide)).mpr e))
      have hq : qF T c q = pMu T c q (nI 0) := if_neg hs0
      refine x_aload_n hm rfl rfl ?_
      refine x_cVv hm rfl rfl (q112 hk) (fun M3 r3 => ?_)
      refine x_iload_n hm rfl rfl ?_
      refine x_iret hm rfl rfl (by first | rfl | exact bI_nar | decide) ?_
      first
        | exact ⟨_, _, rfl, rfl, rfl, by rw [hq]; exact ⟨tn, pn, r, r3, y1, y2, y3, y4, y5, fun g => absurd (pMu0_w.symm.trans g) (by decide)⟩⟩
        | exact ⟨_, _, rfl, rfl, rfl, by rw [hq]; exact ⟨tn, pn, r, hk, y1, y2, y3, y4, y5, y6⟩⟩
  · exact absurd rfl h1 --stop
theorem k91t {nt np : Nat} {r0 : Nat → Int32} {M0 : mM} {q : PS} {S : S3} {m : Nat} {x4 : Option Value} (hB : ∀ k, k < c → T k < 256) (h : CW T c nt np r0 q S M0 M) (hend : ¬ goC T q → mEv X Q 91 18 [some (.ref 52), some (.ref 1), some (.int (nI (m + 1))), some (.int (nI 0)), x4] [] (con M)) (hout : goC T q → ∀ M1, CW T c nt np r0 (pMu T c q (nI 1)) S M0 M1 → mEv X Q 91 18 [some (.ref 52), some (.ref 1), some (.int (nI (m + 1))), some (.int (nI 1)), x4] [] (con M1)) : mEv X Q 91 89 [some (.ref 52), some (.ref 1), some (.int (nI m)), some (.int (nI 1)), x4] [] (con M) := by
  have hm : mMet 91 = some _ := rfl
  obtain ⟨tn, pn, r, hk, g1, g2, g3, g4, g5, g6⟩ := id h
  have hs3 := hk.1.2.2.2.2.2.2.2.2.2.2.2.1
  refine x_iinc hm rfl rfl (v := nI 1) (by decide) rfl ?_
  rw [jI_add]
  refine x_aload_n hm rfl rfl ?_
  refine x_getf hm rfl (gI rfl rfl) ?_
  refine x_iconst hm rfl (v := (-1 : Int32)) (by decide) ?_
  refine x_icmp_ne hm rfl (t := 112) rfl (fun h1 => ?_) (fun h1 => ?_)
  · have hng : ¬ goC T q := fun z => absurd (z.1.symm.trans (hk.1.fw h1)) (by decide)
    refine x_iconst hm rfl (v := nI 0) (by decide) ?_
    refine x_istore_n hm rfl rfl ?_
    refine x_iload_n hm rfl rfl ?_
    refine x_if_eq hm rfl (t := 122) rfl (fun h2 => ?_) (fun h2 => ?_)
    · first
        | exact absurd (show nI 1 = (0 : Int32) by assumption) (by decide)
        | (refine x_goto hm rfl (t := 18) rfl ?_
           exact hend hng)
    · first
        | exact absurd rfl (show ¬ nI 0 = 0 by assumption)
        | (obtain ⟨M2, c2, r2⟩ := q92 (X := X) hB hk hf
           refine x_aload_n hm rfl rfl ?_
           refine x_callV hm rfl rfl c2 ?_
           refine x_goto hm rfl (t := 18) rfl ?_
           exact hout hgo _ ⟨tn, pn, r, r2, g1, g2, g3, g4, g5, fun _ => g6 hgo.1⟩)
  · have hf := hk.1.ff h1
    refine x_aload_n hm rfl rfl ?_
    refine x_getf hm rfl (gI rfl rfl) ?_
    refine x_iconst hm rfl (v := nI 3) (by decide) ?_
    refine x_icmp_ne hm rfl (t := 112) rfl (fun h3 => ?_) (fun h3 => ?_)
    · have hng : ¬ goC T q := fun z => h3 (hk.1.2.2.1.trans ((tkc_3 hs3).mpr z.2))
      refine x_iconst hm rfl (v := nI 0) (by decide) ?_
      refine x_istore_n hm rfl rfl ?_
      refine x_iload_n hm rfl rfl ?_
      refine x_if_eq hm rfl (t := 122) rfl (fun h4 => ?_) (fun h4 => ?_)
      · first
          | exact absurd (show nI 1 = (0 : Int32) by assumption) (by decide)
          | (refine x_goto hm rfl (t := 18) rfl ?_
             exact hend hng)
      · first
          | exact absurd rfl (show ¬ nI 0 = 0 by assumption)
          | (obtain ⟨M2, c2, r2⟩ := q92 (X := X) hB hk hf
             refine x_aload_n hm rfl rfl ?_
             refine x_callV hm rfl rfl c2 ?_
             refine x_goto hm rfl (t := 18) rfl ?_
             exact hout hgo _ ⟨tn, pn, r, r2, g1, g2, g3, g4, g5, fun _ => g6 hgo.1⟩)
    · have hgo : goC T q := ⟨hf, (tkc_3 hs3).mp (hk.1.2.2.1.symm.trans h3)⟩
      refine x_iconst hm rfl (v := nI 1) (by decide) ?_
      refine x_goto hm rfl (t := 113) rfl ?_
      refine x_istore_n hm rfl rfl ?_
      refine x_iload_n hm rfl rfl ?_
      refine x_if_eq hm rfl (t := 122) rfl (fun h5 => ?_) (fun h5 => ?_)
      · first
          | exact absurd (show nI 1 = (0 : Int32) by assumption) (by decide)
          | (refine x_goto hm rfl (t := 18) rfl ?_
             exact hend hng)
      · first
          | exact absurd rfl (show ¬ nI 0 = 0 by assumption)
          | (obtain ⟨M2, c2, r2⟩ := q92 (X := X) hB hk hf
             refine x_aload_n hm rfl rfl ?_
             refine x_callV hm rfl rfl c2 ?_
             refine x_goto hm rfl (t := 18) rfl ?_
             exact hout hgo _ ⟨tn, pn, r, r2, g1, g2, g3, g4, g5, fun _ => g6 hgo.1⟩)
theorem k91l {nt np : Nat} {r0 : Nat → Int32} {M0 : mM} (hB : ∀ k, k < c → T k < 256) (hn8 : nt ≤ 8) : ∀ (z m : Nat) (q : PS) (tn pn : Nat) (I : Nat → Nat → Int32) (x4 : Option Value) (M : mM), 17 - m < z → q.2.2.2.2 = false → Vi nt np r0 I m tn pn q → CK T c q tn pn (cS I (nt, np, r0) m).2.2 M0 M → Ag nt np r0 (cS I (nt, np, r0) m).2.2 → nt ≤ tn → np ≤ pn → mEv X (QI (fun v M' => v = nI (pI2 T c (16 - m) (pItem T c q tn pn).2.2.2 (pItem T c q tn pn).2.1 (pItem T c q tn pn).2.2.1 (m + 1) (upI I m (pItem T c q tn pn).1)).1 ∧ CW T c nt np r0 (qF T c (pI2 T c (16 - m) (pItem T c q tn pn).2.2.2 (pItem T c q tn pn).2.1 (pItem T c q tn pn).2.2.1 (m + 1) (upI I m (pItem T c q tn pn).1)).2.2) (cS (pI2 T c (16 - m) (pItem T c q tn pn).2.2.2 (pItem T c q tn pn).2.1 (pItem T c q tn pn).2.2.1 (m + 1) (upI I m (pItem T c q tn pn).1)).2.1 (nt, np, r0) (pI2 T c (16 - m) (pItem T c q tn pn).2.2.2 (pItem T c q tn pn).2.1 (pItem T c q tn pn).2.2.1 (m + 1) (upI I m (pItem T c q tn pn).1)).1) M0 M')) 91 18 [some (.ref 52), some (.ref 1), some (.int (nI m)), some (.int (nI 1)), x4] [] (con M) := by
  have hm : mMet 91 = some _ := rfl
  intro z
  induction z with
  | zero =>
    intro m q tn pn I x4 M hz hf hV hk hA hnt hnp
    omega
  | succ z ih =>
    intro m q tn pn I x4 M hz hf hV hk hA hnt hnp
    obtain ⟨l1, l2, l3⟩ := hV.le hf
    obtain ⟨u1, u2, -⟩ := hV hf
    have hVs := hV.step (T := T) hf hk.1.2.2.2.2.2.2.2
    refine x_iload_n hm rfl rfl ?_
    refine x_if_eq hm rfl (t := 125) rfl (fun h1 => ?_) (fun h1 => ?_)
    · exact absurd h1 (by decide) --stop
    · refine x_iload_n hm rfl rfl ?_
      refine x_bipush hm rfl (v := nI 120) (by decide) ?_
      refine x_icmp_gt hm rfl (t := 125) rfl (fun h2 => ?_) (fun h2 => ?_)
      · exact absurd ((jI_lt (by decide) (by omega)).mp h2) (by omega) --stop
      · refine x_aload_n hm rfl rfl ?_
        refine x_cVe hm rfl rfl (k95 hk.1 hB) (fun v3 r3 => ?_)
        subst r3
        refine x_istore hm rfl rfl ?_
        refine x_iload hm rfl rfl ?_
        refine x_iconst hm rfl (v := (-1 : Int32)) (by decide) ?_
        refine x_icmp_eq hm rfl (t := 59) rfl (fun h4 => ?_) (fun h4 => ?_)
        · have hneg : pKd T q 7 < 0 := by rw [h4]; decide
          have hqi : (pItem T c q tn pn).2.2.2 = (pThg T c q tn pn).2 := by rw [show pItem T c q tn pn = ((pThg T c q tn pn).1, tn + 1, pn, (pThg T c q tn pn).2) from if_pos hneg]
          refine x_aload_n hm rfl rfl ?_
          refine x_ldcS hm rfl ?_
          refine x_cVe hm rfl rfl (k97 hk.1 hB (t := 0) (by decide)) (fun v5 r5 => ?_)
          subst r5
          refine x_if_eq hm rfl (t := 85) rfl (fun h6 => ?_) (fun h6 => ?_)
          · first
              | (have hx : ¬ (pWd T q 0 ∧ tn < 8) := fun z => bI_eq0.mp h6 z.1
                 rw [pThg_w hx] at hqi)
              | skip
            refine x_aload_n hm rfl rfl ?_
            refine x_cVv hm rfl rfl (q112 hk) (fun M7 r7 => ?_)
            first
              | (have hcw := cw_fail (S := cS (upI I m (pItem T c q tn pn).1) (nt, np, r0) (m + 1)) l2 l3 hnt hnp hA r7 hqi
                 refine k91t hB hcw ?_ ?_
                 · intro hng
                   rw [pI2_e hng]
                   exact k91x hcw
                 · intro hgo M5 h5
                   obtain ⟨s1, s2, s3, s4, s5⟩ := hVs hgo.1
                   have hm16 := (hVs.le hgo.1).1
                   obtain ⟨f, hf16⟩ : ∃ f, 16 - m = f + 1 := ⟨15 - m, by omega⟩
                   rw [hf16, pI2_g hgo, show f = 16 - (m + 1) by omega]
                   obtain ⟨tn2, pn2, r2, d1, d2, d3, d4, d5, d6, d7⟩ := h5
                   have hw1 : (pMu T c (pItem T c q tn pn).2.2.2 (nI 1)).2.2.2.2 = false := by rw [pMu_g hgo.1]; exact pNx_w
                   obtain ⟨e1, e2, e3⟩ := d7 hw1
                   rw [s1] at e1
                   rw [s2] at e2
                   subst e1
                   subst e2
                   subst e3
                   exact ih (m + 1) _ _ _ _ _ _ (by omega) hw1 (fun _ => ⟨s1, s2, s3, s4, s5⟩) d1 d6 d4 d5)
              | (obtain ⟨v3, v4, j0, j1, j2, j3, r4, w4⟩ := r7
                 have hcw := cw_person hkk hkd l2 hlt8 hn8 hnt hnp u1 u2 hA r4 w4
                 refine k91t hB hcw ?_ ?_
                 · intro hng
                   rw [pI2_e hng]
                   exact k91x hcw
                 · intro hgo M5 h5
                   obtain ⟨s1, s2, s3, s4, s5⟩ := hVs hgo.1
                   have hm16 := (hVs.le hgo.1).1
                   obtain ⟨f, hf16⟩ : ∃ f, 16 - m = f + 1 := ⟨15 - m, by omega⟩
                   rw [hf16, pI2_g hgo, show f = 16 - (m + 1) by omega]
                   obtain ⟨tn2, pn2, r2, d1, d2, d3, d4, d5, d6, d7⟩ := h5
                   have hw1 : (pMu T c (pItem T c q tn pn).2.2.2 (nI 1)).2.2.2.2 = false := by rw [pMu_g hgo.1]; exact pNx_w
                   obtain ⟨e1, e2, e3⟩ := d7 hw1
                   rw [s1] at e1
                   rw [s2] at e2
                   subst e1
                   subst e2
                   subst e3
                   exact ih (m + 1) _ _ _ _ _ _ (by omega) hw1 (fun _ => ⟨s1, s2, s3, s4, s5⟩) d1 d6 d4 d5)
          · first
              | exact absurd (wd_u hwk (bI_ne0 (by assumption))) (kt_t kk hkk)
              | (have hw0 : pWd T q 0 := bI_ne0 (by assumption)
                 refine x_aload_n hm rfl rfl ?_
                 refine x_getf hm rfl (gI rfl rfl) ?_
                 rw [hk.2.1.1]
                 refine x_bipush hm rfl (v := nI 8) (by decide) ?_
                 refine x_icmp_ge hm rfl (t := 85) rfl (fun h90 => ?_) (fun h90 => ?_)
                 · have hx : ¬ (pWd T q 0 ∧ tn < 8) := fun z => by have := (jI_le (by omega) (by omega)).mp h90; omega
                   rw [pThg_w hx] at hqi
                   obtain ⟨M4, c4, r4⟩ := q112 (X := X) hk
                   refine x_aload_n hm rfl rfl ?_
                   refine x_callV hm rfl rfl c4 ?_
                   have hcw := cw_fail (S := cS (upI I m (pItem T c q tn pn).1) (nt, np, r0) (m + 1)) l2 l3 hnt hnp hA r4 hqi
                   refine k91t hB hcw ?_ ?_
                   · intro hng
                     rw [pI2_e hng]
                     exact k91x hcw
                   · intro hgo M5 h5
                     obtain ⟨s1, s2, s3, s4, s5⟩ := hVs hgo.1
                     have hm16 := (hVs.le hgo.1).1
                     obtain ⟨f, hf16⟩ : ∃ f, 16 - m = f + 1 := ⟨15 - m, by omega⟩
                     rw [hf16, pI2_g hgo, show f = 16 - (m + 1) by omega]
                     obtain ⟨tn2, pn2, r2, d1, d2, d3, d4, d5, d6, d7⟩ := h5
                     have hw1 : (pMu T c (pItem T c q tn pn).2.2.2 (nI 1)).2.2.2.2 = false := by rw [pMu_g hgo.1]; exact pNx_w
                     obtain ⟨e1, e2, e3⟩ := d7 hw1
                     rw [s1] at e1
                     rw [s2] at e2
                     subst e1
                     subst e2
                     subst e3
                     exact ih (m + 1) _ _ _ _ _ _ (by omega) hw1 (fun _ => ⟨s1, s2, s3, s4, s5⟩) d1 d6 d4 d5
                 · have hlt8 : tn < 8 := Nat.lt_of_not_le fun q => h90 (nI_le q (by omega))
                   refine x_aload_n hm rfl rfl ?_
                   refine x_aload_n hm rfl rfl ?_
                   obtain ⟨M4, c4, v2, v3, v4, v5, v6, v7, r4, w4⟩ := k113 (X := X) hB hk hf hw0 hlt8 l3
                   refine x_callV hm rfl rfl c4 ?_
                   refine x_goto hm rfl (t := 89) rfl ?_
                   have hcw := cw_thing hneg hlt8 l3 hnt hnp u1 u2 hA r4 w4
                   refine k91t hB hcw ?_ ?_
                   · intro hng
                     rw [pI2_e hng]
                     exact k91x hcw
                   · intro hgo M5 h5
                     obtain ⟨s1, s2, s3, s4, s5⟩ := hVs hgo.1
                     have hm16 := (hVs.le hgo.1).1
                     obtain ⟨f, hf16⟩ : ∃ f, 16 - m = f + 1 := ⟨15 - m, by omega⟩
                     rw [hf16, pI2_g hgo, show f = 16 - (m + 1) by omega]
                     obtain ⟨tn2, pn2, r2, d1, d2, d3, d4, d5, d6, d7⟩ := h5
                     have hw1 : (pMu T c (pItem T c q tn pn).2.2.2 (nI 1)).2.2.2.2 = false := by rw [pMu_g hgo.1]; exact pNx_w
                     obtain ⟨e1, e2, e3⟩ := d7 hw1
                     rw [s1] at e1
                     rw [s2] at e2
                     subst e1
                     subst e2
                     subst e3
                     exact ih (m + 1) _ _ _ _ _ _ (by omega) hw1 (fun _ => ⟨s1, s2, s3, s4, s5⟩) d1 d6 d4 d5)
        · obtain ⟨kk, hkk, hkd, hwk⟩ := (pKd_k (T := T) (q := q) 7 (Nat.le_refl _)).resolve_left h4
          have hqi : (pItem T c q tn pn).2.2.2 = (pPer T c q (pKd T q 7) pn).2 := by rw [show pItem T c q tn pn = ((pPer T c q (pKd T q 7) pn).1, tn, pn + 1, (pPer T c q (pKd T q 7) pn).2) from if_neg (by rw [hkd]; exact jI_nn (by omega))]
          refine x_aload_n hm rfl rfl ?_
          refine x_getf hm rfl (gI rfl rfl) ?_
          rw [hk.2.1.2.1]
          refine x_bipush hm rfl (v := nI 8) (by decide) ?_
          refine x_icmp_ge hm rfl (t := 59) rfl (fun h8 => ?_) (fun h8 => ?_)
          · have hge8 : ¬ pn < 8 := fun q => by have := (jI_le (by omega) (by omega)).mp h8; omega
            rw [pPer_w hge8] at hqi
            refine x_aload_n hm rfl rfl ?_
            refine x_ldcS hm rfl ?_
            refine x_cVe hm rfl rfl (k97 hk.1 hB (t := 0) (by decide)) (fun v9 r9 => ?_)
            subst r9
            refine x_if_eq hm rfl (t := 85) rfl (fun h10 => ?_) (fun h10 => ?_)
            · first
                | (have hx : ¬ (pWd T q 0 ∧ tn < 8) := fun z => bI_eq0.mp h10 z.1
                   rw [pThg_w hx] at hqi)
                | skip
              refine x_aload_n hm rfl rfl ?_
              refine x_cVv hm rfl rfl (q112 hk) (fun M11 r11 => ?_)
              first
                | (have hcw := cw_fail (S := cS (upI I m (pItem T c q tn pn).1) (nt, np, r0) (m + 1)) l2 l3 hnt hnp hA r11 hqi
                   refine k91t hB hcw ?_ ?_
                   · intro hng
                     rw [pI2_e hng]
                     exact k91x hcw
                   · intro hgo M5 h5
                     obtain ⟨s1, s2, s3, s4, s5⟩ := hVs hgo.1
                     have hm16 := (hVs.le hgo.1).1
                     obtain ⟨f, hf16⟩ : ∃ f, 16 - m = f + 1 := ⟨15 - m, by omega⟩
                     rw [hf16, pI2_g hgo, show f = 16 - (m + 1) by omega]
                     obtain ⟨tn2, pn2, r2, d1, d2, d3, d4, d5, d6, d7⟩ := h5
                     have hw1 : (pMu T c (pItem T c q tn pn).2.2.2 (nI 1)).2.2.2.2 = false := by rw [pMu_g hgo.1]; exact pNx_w
                     obtain ⟨e1, e2, e3⟩ := d7 hw1
                     rw [s1] at e1
                     rw [s2] at e2
                     subst e1
                     subst e2
                     subst e3
                     exact ih (m + 1) _ _ _ _ _ _ (by omega) hw1 (fun _ => ⟨s1, s2, s3, s4, s5⟩) d1 d6 d4 d5)
                | (obtain ⟨v3, v4, j0, j1, j2, j3, r4, w4⟩ := r11
                   have hcw := cw_person hkk hkd l2 hlt8 hn8 hnt hnp u1 u2 hA r4 w4
                   refine k91t hB hcw ?_ ?_
                   · intro hng
                     rw [pI2_e hng]
                     exact k91x hcw
                   · intro hgo M5 h5
                     obtain ⟨s1, s2, s3, s4, s5⟩ := hVs hgo.1
                     have hm16 := (hVs.le hgo.1).1
                     obtain ⟨f, hf16⟩ : ∃ f, 16 - m = f + 1 := ⟨15 - m, by omega⟩
                     rw [hf16, pI2_g hgo, show f = 16 - (m + 1) by omega]
                     obtain ⟨tn2, pn2, r2, d1, d2, d3, d4, d5, d6, d7⟩ := h5
                     have hw1 : (pMu T c (pItem T c q tn pn).2.2.2 (nI 1)).2.2.2.2 = false := by rw [pMu_g hgo.1]; exact pNx_w
                     obtain ⟨e1, e2, e3⟩ := d7 hw1
                     rw [s1] at e1
                     rw [s2] at e2
                     subst e1
                     subst e2
                     subst e3
                     exact ih (m + 1) _ _ _ _ _ _ (by omega) hw1 (fun _ => ⟨s1, s2, s3, s4, s5⟩) d1 d6 d4 d5)
            · first
                | exact absurd (wd_u hwk (bI_ne0 (by assumption))) (kt_t kk hkk)
                | (have hw0 : pWd T q 0 := bI_ne0 (by assumption)
                   refine x_aload_n hm rfl rfl ?_
                   refine x_getf hm rfl (gI rfl rfl) ?_
                   rw [hk.2.1.1]
                   refine x_bipush hm rfl (v := nI 8) (by decide) ?_
                   refine x_icmp_ge hm rfl (t := 85) rfl (fun h90 => ?_) (fun h90 => ?_)
                   · have hx : ¬ (pWd T q 0 ∧ tn < 8) := fun z => by have := (jI_le (by omega) (by omega)).mp h90; omega
                     rw [pThg_w hx] at hqi
                     obtain ⟨M4, c4, r4⟩ := q112 (X := X) hk
                     refine x_aload_n hm rfl rfl ?_
                     refine x_callV hm rfl rfl c4 ?_
                     have hcw := cw_fail (S := cS (upI I m (pItem T c q tn pn).1) (nt, np, r0) (m + 1)) l2 l3 hnt hnp hA r4 hqi
                     refine k91t hB hcw ?_ ?_
                     · intro hng
                       rw [pI2_e hng]
                       exact k91x hcw
                     · intro hgo M5 h5
                       obtain ⟨s1, s2, s3, s4, s5⟩ := hVs hgo.1
                       have hm16 := (hVs.le hgo.1).1
                       obtain ⟨f, hf16⟩ : ∃ f, 16 - m = f + 1 := ⟨15 - m, by omega⟩
                       rw [hf16, pI2_g hgo, show f = 16 - (m + 1) by omega]
                       obtain ⟨tn2, pn2, r2, d1, d2, d3, d4, d5, d6, d7⟩ := h5
                       have hw1 : (pMu T c (pItem T c q tn pn).2.2.2 (nI 1)).2.2.2.2 = false := by rw [pMu_g hgo.1]; exact pNx_w
                       obtain ⟨e1, e2, e3⟩ := d7 hw1
                       rw [s1] at e1
                       rw [s2] at e2
                       subst e1
                       subst e2
                       subst e3
                       exact ih (m + 1) _ _ _ _ _ _ (by omega) hw1 (fun _ => ⟨s1, s2, s3, s4, s5⟩) d1 d6 d4 d5
                   · have hlt8 : tn < 8 := Nat.lt_of_not_le fun q => h90 (nI_le q (by omega))
                     refine x_aload_n hm rfl rfl ?_
                     refine x_aload_n hm rfl rfl ?_
                     obtain ⟨M4, c4, v2, v3, v4, v5, v6, v7, r4, w4⟩ := k113 (X := X) hB hk hf hw0 hlt8 l3
                     refine x_callV hm rfl rfl c4 ?_
                     refine x_goto hm rfl (t := 89) rfl ?_
                     have hcw := cw_thing hneg hlt8 l3 hnt hnp u1 u2 hA r4 w4
                     refine k91t hB hcw ?_ ?_
                     · intro hng
                       rw [pI2_e hng]
                       exact k91x hcw
                     · intro hgo M5 h5
                       obtain ⟨s1, s2, s3, s4, s5⟩ := hVs hgo.1
                       have hm16 := (hVs.le hgo.1).1
                       obtain ⟨f, hf16⟩ : ∃ f, 16 - m = f + 1 := ⟨15 - m, by omega⟩
                       rw [hf16, pI2_g hgo, show f = 16 - (m + 1) by omega]
                       obtain ⟨tn2, pn2, r2, d1, d2, d3, d4, d5, d6, d7⟩ := h5
                       have hw1 : (pMu T c (pItem T c q tn pn).2.2.2 (nI 1)).2.2.2.2 = false := by rw [pMu_g hgo.1]; exact pNx_w
                       obtain ⟨e1, e2, e3⟩ := d7 hw1
                       rw [s1] at e1
                       rw [s2] at e2
                       subst e1
                       subst e2
                       subst e3
                       exact ih (m + 1) _ _ _ _ _ _ (by omega) hw1 (fun _ => ⟨s1, s2, s3, s4, s5⟩) d1 d6 d4 d5)
          · have hlt8 : pn < 8 := Nat.lt_of_not_le fun q => h8 (nI_le q (by omega))
            rw [hkd]
            refine x_aload_n hm rfl rfl ?_
            refine x_aload_n hm rfl rfl ?_
            refine x_iload hm rfl rfl ?_
            refine x_cVv hm rfl rfl (k109 hB hk hf l2 hlt8) (fun M12 r12 => ?_)
            refine x_goto hm rfl (t := 89) rfl ?_
            first
              | (have hcw := cw_fail (S := cS (upI I m (pItem T c q tn pn).1) (nt, np, r0) (m + 1)) l2 l3 hnt hnp hA r12 hqi
                 refine k91t hB hcw ?_ ?_
                 · intro hng
                   rw [pI2_e hng]
                   exact k91x hcw
                 · intro hgo M5 h5
                   obtain ⟨s1, s2, s3, s4, s5⟩ := hVs hgo.1
                   have hm16 := (hVs.le hgo.1).1
                   obtain ⟨f, hf16⟩ : ∃ f, 16 - m = f + 1 := ⟨15 - m, by omega⟩
                   rw [hf16, pI2_g hgo, show f = 16 - (m + 1) by omega]
                   obtain ⟨tn2, pn2, r2, d1, d2, d3, d4, d5, d6, d7⟩ := h5
                   have hw1 : (pMu T c (pItem T c q tn pn).2.2.2 (nI 1)).2.2.2.2 = false := by rw [pMu_g hgo.1]; exact pNx_w
                   obtain ⟨e1, e2, e3⟩ := d7 hw1
                   rw [s1] at e1
                   rw [s2] at e2
                   subst e1
                   subst e2
                   subst e3
                   exact ih (m + 1) _ _ _ _ _ _ (by omega) hw1 (fun _ => ⟨s1, s2, s3, s4, s5⟩) d1 d6 d4 d5)
              | (obtain ⟨v3, v4, j0, j1, j2, j3, r4, w4⟩ := r12
                 have hcw := cw_person hkk hkd l2 hlt8 hn8 hnt hnp u1 u2 hA r4 w4
                 refine k91t hB hcw ?_ ?_
                 · intro hng
                   rw [pI2_e hng]
                   exact k91x hcw
                 · intro hgo M5 h5
                   obtain ⟨s1, s2, s3, s4, s5⟩ := hVs hgo.1
                   have hm16 := (hVs.le hgo.1).1
                   obtain ⟨f, hf16⟩ : ∃ f, 16 - m = f + 1 := ⟨15 - m, by omega⟩
                   rw [hf16, pI2_g hgo, show f = 16 - (m + 1) by omega]
                   obtain ⟨tn2, pn2, r2, d1, d2, d3, d4, d5, d6, d7⟩ := h5
                   have hw1 : (pMu T c (pItem T c q tn pn).2.2.2 (nI 1)).2.2.2.2 = false := by rw [pMu_g hgo.1]; exact pNx_w
                   obtain ⟨e1, e2, e3⟩ := d7 hw1
                   rw [s1] at e1
                   rw [s2] at e2
                   subst e1
                   subst e2
                   subst e3
                   exact ih (m + 1) _ _ _ _ _ _ (by omega) hw1 (fun _ => ⟨s1, s2, s3, s4, s5⟩) d1 d6 d4 d5)
theorem k91 {nt np : Nat} {r0 : Nat → Int32} (hB : ∀ k, k < c → T k < 256) (hc9 : M 52 1 = nI c) (hc1 : c ≤ 120) (hT : ∀ k, k < c → M 53 k = bt (T k)) (hR : Rel 1 nt np M r0) (hG : Gd nt np r0) : ∃ v M', mT X 91 [.ref 52, .ref 1] (con M) (some (.int v)) (con M') ∧ v = nI (pTx T c nt np).1 ∧ CW T c nt np r0 (qF T c (pTx T c nt np).2.2) (cS (pTx T c nt np).2.1 (nt, np, r0) (pTx T c nt np).1) M M' := by
  refine ti_of (row := _) rfl (Nat.le_of_ble_eq_true rfl) ?_
  have hm : mMet 91 = some _ := rfl
  refine x_aload_n hm rfl rfl ?_
  refine x_iconst hm rfl (v := (-1 : Int32)) (by decide) ?_
  refine x_putf hm rfl (pI rfl rfl (by decide) (by first | exact mFit_int | rfl | decide) rfl) ?_
  refine x_aload_n hm rfl rfl ?_
  refine x_iconst hm rfl (v := nI 0) (by decide) ?_
  refine x_putf hm rfl (pI rfl rfl (by decide) (by first | exact mFit_int | rfl | decide) rfl) ?_
  refine x_aload_n hm rfl rfl ?_
  have hL : Lc M (mput (mput M 52 6 (-1)) 52 4 (nI 0)) := (Lc.put (by decide) (by decide)).trans (Lc.put (by decide) (by decide))
  obtain ⟨M2, g1, g2, g3⟩ := k92 (X := X) (M := mput (mput M 52 6 (-1)) 52 4 (nI 0)) (e0 := 0) (c := c) (T := T) mp0 ((hL 52 1 (by omega)).trans hc9) hc1 (fun k hk => (hL 53 k (by omega)).trans (hT k hk)) hB (Nat.zero_le _) ((mpf (by decide)).trans mp0)
  have hL2 := hL.trans g3
  have e : ∀ a, a ≠ 52 → M2 a = M a := fun a ha => funext fun x => hL2 a x (Or.inl ha)
  refine x_callV hm rfl rfl g1 ?_
  refine x_iconst hm rfl (v := nI 0) (by decide) ?_
  refine x_istore_n hm rfl rfl ?_
  refine x_iconst hm rfl (v := nI 1) (by decide) ?_
  refine x_istore_n hm rfl rfl ?_
  exact k91l (M0 := M) hB hG.2.2.1.1 _ 0 _ nt np (fun _ _ => 0) _ _ (Nat.lt_succ_self _) pNx_w (Vi.zero hG) ⟨g2, hR.fr fun a _ _ => e a (by omega), by rw [e 1 (by decide)], fun a _ h2 => e a h2⟩ Ag.rf (Nat.le_refl _) (Nat.le_refl _)
/-- a text's end, the class -/
def Tt (q : Sq4) (M0 : mM) (v : Int32) (M' : mM) : Prop := v = q.1 ∧ Rel 1 q.2.1 q.2.2.1 M' q.2.2.2 ∧ M' 1 7 = M0 1 7 ∧ (∀ a, (a < 1 ∨ 17 < a) → a ≠ 52 → M' a = M0 a) ∧ M' 52 1 = nI 0
theorem k90 {nt np : Nat} {r0 : Nat → Int32} (hB : ∀ k, k < c → T k < 256) (hc9 : M 52 1 = nI c) (hc1 : c ≤ 120) (hT : ∀ k, k < c → M 53 k = bt (T k)) (hR : Rel 1 nt np M r0) (hG : Gd nt np r0) : ∃ v M', mT X 90 [.ref 0] (con M) (some (.int v)) (con M') ∧ Tt (fTx nt np r0 (pTx T c nt np)) M v M' := by
  refine ti_of (row := _) rfl (Nat.le_of_ble_eq_true rfl) ?_
  have hm : mMet 90 = some _ := rfl
  refine x_aload_n hm rfl rfl ?_
  refine x_getf hm rfl (gR rfl rfl) ?_
  refine x_getf hm rfl (gI rfl rfl) ?_
  rw [hR.1]
  refine x_istore_n hm rfl rfl ?_
  refine x_aload_n hm rfl rfl ?_
  refine x_getf hm rfl (gR rfl rfl) ?_
  refine x_getf hm rfl (gI rfl rfl) ?_
  rw [hR.2.1]
  refine x_istore_n hm rfl rfl ?_
  refine x_aload_n hm rfl rfl ?_
  refine x_getf hm rfl (gR rfl rfl) ?_
  refine x_aload_n hm rfl rfl ?_
  refine x_getf hm rfl (gR rfl rfl) ?_
  refine x_cVi hm rfl rfl (k91 hB hc9 hc1 hT hR hG) (fun v1 M1 r1 => ?_)
  obtain ⟨rfl, tn, pn, r, hk, d1, d2, d3, d4, d5, d6⟩ := r1
  refine x_istore_n hm rfl rfl ?_
  refine x_aload_n hm rfl rfl ?_
  refine x_getf hm rfl (gR rfl rfl) ?_
  refine x_getf hm rfl (gI rfl rfl) ?_
  refine x_iconst hm rfl (v := (-1 : Int32)) (by decide) ?_
  refine x_icmp_eq hm rfl (t := 55) rfl (fun h2 => ?_) (fun h2 => ?_)
  · have hf := hk.1.ff h2
    obtain ⟨hf1, hf2⟩ := qF_f hf
    have hq : fTx nt np r0 (pTx T c nt np) = (nI (pTx T c nt np).1, cS (pTx T c nt np).2.1 (nt, np, r0) (pTx T c nt np).1) := if_neg (fun z => z.elim (fun z => absurd (hf1.symm.trans z) (by decide)) (fun z => z hf2))
    obtain ⟨rfl, rfl, rfl⟩ := d6 hf
    refine x_aload_n hm rfl rfl ?_
    refine x_getf hm rfl (gR rfl rfl) ?_
    refine x_iconst hm rfl (v := nI 0) (by decide) ?_
    refine x_putf hm rfl (pI rfl rfl (by decide) (by first | exact mFit_int | rfl | decide) rfl) ?_
    first
      | (refine x_aload_n hm rfl rfl ?_
         refine x_getf hm rfl (gR rfl rfl) ?_
         refine x_getf hm rfl (gI rfl rfl) ?_
         refine x_iconst hm rfl (v := -1) (by decide) ?_
         refine x_icmp_ne hm rfl (t := 78) rfl (fun h50 => absurd (hf : _ = false) (by first | exact absurd ((mpf (by decide)).trans (by assumption)) h50)) (fun h50 => ?_)
         refine x_iload_n hm rfl rfl ?_
         refine x_goto hm rfl (t := 87) rfl ?_
         refine x_iret hm rfl rfl (by first | rfl | exact bI_nar | decide) ?_
         exact ⟨_, _, rfl, rfl, by rw [hq], by rw [hq]; exact hk.2.1.fr fun a _ _ => mpo (by omega), (congrFun (mpo (by decide)) 7).trans hk.2.2.1, fun a h1 h2 => (mpo h2).trans (hk.2.2.2 a h1 h2), mp0⟩)
      | (refine x_aload_n hm rfl rfl ?_
         refine x_getf hm rfl (gR rfl rfl) ?_
         refine x_getf hm rfl (gI rfl rfl) ?_
         have e6 : mput (mput (mput M1 1 3 (nI nt)) 1 4 (nI np)) 52 1 (nI 0) 52 6 = nI (pTx T c nt np).2.2.1 := by
           rw [mpf (by decide), mpo (by decide), mpo (by decide)]; exact hv6
         rw [e6]
         refine x_iconst hm rfl (v := -1) (by decide) ?_
         refine x_icmp_ne hm rfl (t := 78) rfl (fun h50 => ?_) (fun h50 => absurd (hv6.trans h50) (by assumption))
         refine x_iconst hm rfl (v := -1) (by decide) ?_
         refine x_aload_n hm rfl rfl ?_
         refine x_getf hm rfl (gR rfl rfl) ?_
         refine x_getf hm rfl (gI rfl rfl) ?_
         rw [e6]
         refine x_isub hm rfl ?_
         refine x_iret hm rfl rfl (by first | rfl | exact bI_nar | decide) ?_
         exact ⟨_, _, rfl, rfl, by rw [hq], by rw [hq]; exact hL.fr fun a _ _ => mpo (by omega), (congrFun (mpo (by decide)) 7).trans ((mpf (by decide)).trans ((mpf (by decide)).trans hk.2.2.1)), fun a h1 h2 => (mpo h2).trans ((mpo (by omega)).trans ((mpo (by omega)).trans (hk.2.2.2 a h1 h2))), mp0⟩)
  · have hw := hk.1.fw h2
    have hq : fTx nt np r0 (pTx T c nt np) = (-1 - nI (pTx T c nt np).2.2.1, nt, np, r0) := if_pos (qF_w hw)
    have hL := hk.2.1.low d5 d3 d4
    have hv6 : M1 52 6 = nI (pTx T c nt np).2.2.1 := by
      have e := hk.1.2.2.2.2.1
      rw [hw, qF_1] at e
      exact e
    refine x_aload_n hm rfl rfl ?_
    refine x_getf hm rfl (gR rfl rfl) ?_
    refine x_iload_n hm rfl rfl ?_
    refine x_putf hm rfl (pI rfl rfl (by decide) (by first | exact mFit_int | rfl | decide) rfl) ?_
    refine x_aload_n hm rfl rfl ?_
    refine x_getf hm rfl (gR rfl rfl) ?_
    refine x_iload_n hm rfl rfl ?_
    refine x_putf hm rfl (pI rfl rfl (by decide) (by first | exact mFit_int | rfl | decide) rfl) ?_
    refine x_aload_n hm rfl rfl ?_
    refine x_getf hm rfl (gR rfl rfl) ?_
    refine x_iconst hm rfl (v := nI 0) (by decide) ?_
    refine x_putf hm rfl (pI rfl rfl (by decide) (by first | exact mFit_int | rfl | decide) rfl) ?_
    first
      | (refine x_aload_n hm rfl rfl ?_
         refine x_getf hm rfl (gR rfl rfl) ?_
         refine x_getf hm rfl (gI rfl rfl) ?_
         refine x_iconst hm rfl (v := -1) (by decide) ?_
         refine x_icmp_ne hm rfl (t := 78) rfl (fun h50 => absurd (hf : _ = false) (by first | exact absurd ((mpf (by decide)).trans (by assumption)) h50)) (fun h50 => ?_)
         refine x_iload_n hm rfl rfl ?_
         refine x_goto hm rfl (t := 87) rfl ?_
         refine x_iret hm rfl rfl (by first | rfl | exact bI_nar | decide) ?_
         exact ⟨_, _, rfl, rfl, by rw [hq], by rw [hq]; exact hk.2.1.fr fun a _ _ => mpo (by omega), (congrFun (mpo (by decide)) 7).trans hk.2.2.1, fun a h1 h2 => (mpo h2).trans (hk.2.2.2 a h1 h2), mp0⟩)
      | (refine x_aload_n hm rfl rfl ?_
         refine x_getf hm rfl (gR rfl rfl) ?_
         refine x_getf hm rfl (gI rfl rfl) ?_
         have e6 : mput (mput (mput M1 1 3 (nI nt)) 1 4 (nI np)) 52 1 (nI 0) 52 6 = nI (pTx T c nt np).2.2.1 := by
           rw [mpf (by decide), mpo (by decide), mpo (by decide)]; exact hv6
         rw [e6]
         refine x_iconst hm rfl (v := -1) (by decide) ?_
         refine x_icmp_ne hm rfl (t := 78) rfl (fun h50 => ?_) (fun h50 => absurd (hv6.trans h50) (by assumption))
         refine x_iconst hm rfl (v := -1) (by decide) ?_
         refine x_aload_n hm rfl rfl ?_
         refine x_getf hm rfl (gR rfl rfl) ?_
         refine x_getf hm rfl (gI rfl rfl) ?_
         rw [e6]
         refine x_isub hm rfl ?_
         refine x_iret hm rfl rfl (by first | rfl | exact bI_nar | decide) ?_
         exact ⟨_, _, rfl, rfl, by rw [hq], by rw [hq]; exact hL.fr fun a _ _ => mpo (by omega), (congrFun (mpo (by decide)) 7).trans ((mpf (by decide)).trans ((mpf (by decide)).trans hk.2.2.1)), fun a h1 h2 => (mpo h2).trans ((mpo (by omega)).trans ((mpo (by omega)).trans (hk.2.2.2 a h1 h2))), mp0⟩)
theorem byte_k {x : Int32} : ∃ n, n < 256 ∧ x &&& 255 = nI n := by
  refine ⟨(x.toUInt32 &&& 255).toNat, ?_, ?_⟩
  · rw [UInt32.toNat_and]
    exact Nat.lt_of_le_of_lt Nat.and_le_right (by decide)
  · exact congrArg UInt32.toInt32 UInt32.ofNat_toNat.symm
theorem Tt.cn {q : Sq4} {v : Int32} {N : mM} (hM : cnm M = M) (h : Tt q M v N) : Tt q M v (cnm N) := ⟨h.1, h.2.1.cn (Or.inl rfl), h.2.2.1, fun a h1 h2 => cn_fr hM (h.2.2.2.1 a h1 h2), h.2.2.2.2⟩
theorem Fx.cn {q : Sq4} {v : Int32} {N : mM} (hM : cnm M = M) (h : Fx q M v N) : Fx q M v (cnm N) := ⟨h.1, h.2.1, fun a h1 h2 h3 => cn_fr hM (h.2.2.1 a h1 h2 h3), fun x hx => by
  obtain ⟨-, -, -, h4, -⟩ := h
  rcases cnc_or 66 (N 66) x with e | e
  · exact e.trans (h4 x hx)
  · have e2 : cnm M 66 x = M 66 x := congrFun (congrFun hM 66) x
    show cnc 66 (N 66) x = M 66 x
    rw [← e2]
    show cnc 66 (N 66) x = cnc 66 (M 66) x
    unfold cnc
    rw [h4 x hx], h.2.2.2.2⟩
theorem j_text (hJ : J M) : JJ X 90 220 [.ref 0] [.ref 66] M Eq := by
  obtain ⟨hI, hcn, ⟨nt, np, hR, h1, h2, hV, hr, hc⟩, hJI, hJP, hJS, h6⟩ := id hJ
  obtain ⟨c, hc1, hc9⟩ := ok4 (show okx 4 (M 52 1) from hI.1 52 1)
  have hc66 : M 66 9 = nI c := hJP.1.symm.trans hc9
  have hG : Gd nt np (M 67) := ⟨h1, h2, hV, hr⟩
  have hT0 : ∀ k, k < c → M 73 k = nI ((M 73 k).toNatClampNeg) ∧ (M 73 k).toNatClampNeg < 256 := by
    intro k hk
    obtain ⟨n, hn, e⟩ := byte_k (x := M 53 k)
    have e1 : M 73 k = nI n := (hJP.2 k (by omega)).1.trans e
    rw [e1, jI_nat (by omega)]
    exact ⟨rfl, hn⟩
  have hB : ∀ k, k < c → (M 73 k).toNatClampNeg < 256 := fun k hk => (hT0 k hk).2
  have hT : ∀ k, k < c → M 53 k = bt ((M 73 k).toNatClampNeg) := fun k hk => by
    rw [(hJP.2 k (by omega)).2]
    exact congrArg (fun x : Int32 => x.toInt8.toInt32) (hT0 k hk).1
  obtain ⟨v, M1, a1, a2, a3, a4⟩ := mT.both (t90 (X := X) hI.1) (k90 (X := X) (T := fun k => (M 73 k).toNatClampNeg) hB hc9 hc1 hT hR hG) (fun _ _ h => h.cn hcn) (fun _ _ h => h.cn hcn)
  have i1 := a3.inv hI
  have e66 : ∀ a, 66 ≤ a → M1 a = M a := a3.2
  have hG1 : Gd nt np (M1 67) := by rw [e66 67 (by decide)]; exact hG
  obtain ⟨w, M2, b1, b2, b3, b4⟩ := mT.both (t220 (X := X) i1) (k220 (X := X) (T := fun k => (M 73 k).toNatClampNeg) hG1.1 hG1.2.1 hB hc1 (by rw [e66 66 (by decide)]; exact hc66) (fun k hk => by rw [e66 73 (by decide)]; exact (hT0 k hk).1) hG1) (fun _ _ h => h.cn) (fun _ _ h => h.cn a2)
  rw [e66 67 (by decide)] at b4
  obtain ⟨d1, d2, d3, d4, d5⟩ := a4
  obtain ⟨f1, f2, f3, f4, f5⟩ := b4
  have hGd := Gd.text (T := fun k => (M 73 k).toNatClampNeg) hc1 hG
  have l : ∀ a, (a < 1 ∨ 17 < a) → a ≠ 52 → a ≠ 66 → a ≠ 67 → a ≠ 75 → M2 a = M a := fun a g1 g2 g3 g4 g5 => (f3 a g3 g4 g5).trans (d4 a g1 g2)
  refine ⟨v, M1, w, M2, a1, b1, ⟨b3, b2, ⟨_, _, ?_, by rw [f2]; exact hGd.1, by rw [f2]; exact hGd.2.1, by rw [f2]; exact hGd.2.2.1, by rw [f2]; exact hGd.2.2.2, ?_⟩, hJI.of (by rw [l 0 (by decide) (by decide) (by decide) (by decide) (by decide)]) ((f4 3 (by decide)).trans (by rw [e66 66 (by decide)])) (fun x g1 g2 => l x (by omega) (by omega) (by omega) (by omega) (by omega)) (l 68 (by decide) (by decide) (by decide) (by decide) (by decide)),
    ⟨?_, fun k hk => ?_⟩, hJS.of (fun x g1 g2 => l x (by omega) (by omega) (by omega) (by omega) (by omega)) (l 76 (by decide) (by decide) (by decide) (by decide) (by decide)) (l 77 (by decide) (by decide) (by decide) (by decide) (by decide)) (l 78 (by decide) (by decide) (by decide) (by decide) (by decide)), ?_⟩, d1.trans f1.symm⟩
  · rw [f2]
    exact d2.fr fun a g1 g2 => f3 a (by omega) (by omega) (by omega)
  · rw [f3 1 (by decide) (by decide) (by decide), d3]
    exact hc
  · rw [f3 52 (by decide) (by decide) (by decide), d5, f5]
  · rw [l 73 (by decide) (by decide) (by decide) (by decide) (by decide), l 53 (by decide) (by decide) (by decide) (by decide) (by decide)]
    exact hJP.2 k hk
  · rw [f4 6 (by decide), e66 66 (by decide)]
    exact h6
end CZ
end
