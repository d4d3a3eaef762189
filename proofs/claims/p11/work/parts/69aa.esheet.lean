/-! ===== sheets: sheet, write ===== -/
abbrev SS := Int32 × (Nat → Int32) × (Nat → Int32) × (Nat → Int32)
def Rs (w z n : Nat → Int32) (M : mM) : Prop := ∀ s, s < 4 → M (2 * s + 58) 1 = w s ∧ M (2 * s + 58) 2 = z s ∧ ∀ j, j < 40 → M (2 * s + 59) j = n (40 * s + j)
def Gq (q : SS) (v : Int32) (M M' : mM) : Prop := v = q.1 ∧ Rs q.2.1 q.2.2.1 q.2.2.2 M' ∧ ∀ a, (a < 35 ∨ (51 < a ∧ a < 58 ∧ a ≠ 55 ∧ a ≠ 56 ∧ a ≠ 57)) → M' a = M a
def Hq (q : SS) (v : Int32) (M M' : mM) : Prop := v = q.1 ∧ M' 76 = q.2.1 ∧ M' 77 = q.2.2.1 ∧ M' 78 = q.2.2.2 ∧ ∀ a, a ≠ 70 → a ≠ 76 → a ≠ 77 → a ≠ 78 → a ≠ 79 → M' a = M a
def clr (n : Nat → Int32) (s : Nat) : Nat → Int32 := fun i => if 40 * s ≤ i ∧ i < 40 * s + 40 then nI 0 else n i
def fSheet (w z n : Nat → Int32) (a1 a2 a3 : Int32) : SS :=
  if bI (nI 0 ≤ a1 ∧ a1 ≤ nI 3) = 0 then (-1000001, w, z, n) else if okb a2 = false then (-1000001, w, z, n) else if 0 ≤ a3 then (if a3 ≤ nI 40 then ((if a2 = 0 then nI 0 else a3), put1 w a1.toNatClampNeg a2, put1 z a1.toNatClampNeg (if a2 = 0 then nI 0 else a3), clr n a1.toNatClampNeg) else (-1000001, w, z, n)) else (-1000007, w, z, n)
def cut (b v : Int32) : Int32 := if b = nI 8 then v.toInt8.toInt32 else if b = nI 16 then v.toInt16.toInt32 else v
/-- what is wrong with a sheet -/
def lkS (w : Nat → Int32) (a : Int32) : Int32 := if bI (nI 0 ≤ a ∧ a ≤ nI 3) = 0 then -1000001 else if w a.toNatClampNeg = 0 then -1000006 else nI 0
def fWrite (w z n : Nat → Int32) (a1 a2 a3 : Int32) : SS :=
  if ¬ lkS w a1 = 0 then (lkS w a1, w, z, n) else if bI (nI 0 ≤ a2 ∧ a2 ≤ z a1.toNatClampNeg - nI 1) = 0 then (-1000001, w, z, n) else (nI 1, w, z, put1 n (40 * a1.toNatClampNeg + a2.toNatClampNeg) (cut (w a1.toNatClampNeg) a3))
def Wok (w : Nat → Int32) : Prop := ∀ s, s < 4 → w s = 0 ∨ w s = nI 8 ∨ w s = nI 16 ∨ w s = nI 32
def Lay (s : Nat) (b l : Int32) (k : Nat) (M M1 : mM) : Prop := M1 (2 * s + 58) 1 = b ∧ M1 (2 * s + 58) 2 = l ∧ (∀ j, j < k → M1 (2 * s + 59) j = nI 0) ∧ ∀ a, a ≠ 2 * s + 58 → a ≠ 2 * s + 59 → M1 a = M a
def Lr (s : Nat) (b l : Int32) (k : Nat) (M M1 : mM) : Prop := M1 76 = put1 (M 76) s b ∧ M1 77 = put1 (M 77) s l ∧ (∀ i, M1 78 i = if 40 * s ≤ i ∧ i < 40 * s + k then nI 0 else M 78 i) ∧ ∀ a, a ≠ 76 → a ≠ 77 → a ≠ 78 → M1 a = M a
section EV
variable {X : mSc} {Q : Option Value → mHp → Prop} {M : mM} {s : Nat} {w z n : Nat → Int32}
theorem mputf {a i : Nat} {v : Int32} : mput M a i v a = put1 (M a) i v := by
  funext j
  unfold mput put1
  by_cases h : j = i
  · rw [if_pos ⟨rfl, h⟩, if_pos h]
  · rw [if_neg (fun q => h q.2), if_neg h]
theorem Rs.bq {N : mM} {v v' : Int32} (h : Rs w z n M) (g : Bq 35 M N) (e : v' = v) : Gq (v, w, z, n) v' M N := by
  have c : ∀ a, 51 < a → a ≠ 55 → a ≠ 56 → a ≠ 57 → N a = M a := fun a h1 h2 h3 h4 => g.2.1 a (by omega)
  refine ⟨e, fun s hs => ?_, fun a ha => g.2.1 a (by omega)⟩
  rw [c _ (by omega) (by omega) (by omega) (by omega), c (2 * s + 59) (by omega) (by omega) (by omega) (by omega)]
  exact h s hs
theorem fnd_hq {v : Int32} : Hq (v, M 76, M 77, M 78) v M (fndR M v) := by
  have e : ∀ a, a ≠ 70 → fndR M v a = M a := fun a h => (mpo h).trans (mpo h)
  exact ⟨rfl, e 76 (by decide), e 77 (by decide), e 78 (by decide), fun a h _ _ _ _ => e a h⟩
theorem Gq.cn {q : SS} {v : Int32} {N : mM} (hM : cnm M = M) (h : Gq q v M N) : Gq q v M (cnm N) := by
  refine ⟨h.1, fun s hs => ?_, fun a ha => cn_fr hM (h.2.2 a ha)⟩
  have e : cnm N (2 * s + 58) 1 = N (2 * s + 58) 1 ∧ cnm N (2 * s + 58) 2 = N (2 * s + 58) 2 ∧ cnm N (2 * s + 59) = N (2 * s + 59) := by
    rcases (by omega : s = 0 ∨ s = 1 ∨ s = 2 ∨ s = 3) with rfl | rfl | rfl | rfl <;> exact ⟨rfl, rfl, rfl⟩
  rw [e.1, e.2.1, e.2.2]
  exact h.2.1 s hs
theorem Hq.cn {q : SS} {v : Int32} {N : mM} (hM : cnm M = M) (h : Hq q v M N) : Hq q v M (cnm N) := ⟨h.1, h.2.1, h.2.2.1, h.2.2.2.1, fun a h1 h2 h3 h4 h5 => cn_fr hM (h.2.2.2.2 a h1 h2 h3 h4 h5)⟩
theorem Rs.lay {N : mM} {b l : Int32} (h : Rs w z n M) (hs : s ≤ 3) (g : Lay s b l 40 M N) : Rs (put1 w s b) (put1 z s l) (clr n s) N := by
  obtain ⟨g1, g2, g3, g4⟩ := g
  intro u hu
  by_cases e : u = s
  · subst e
    refine ⟨by rw [put1_s]; exact g1, by rw [put1_s]; exact g2, fun j hj => ?_⟩
    rw [g3 j hj]
    exact (if_pos ⟨by omega, by omega⟩).symm
  · obtain ⟨h1, h2, h3⟩ := h u hu
    refine ⟨by rw [put1_o e, g4 _ (by omega) (by omega)]; exact h1, by rw [put1_o e, g4 _ (by omega) (by omega)]; exact h2, fun j hj => ?_⟩
    rw [g4 _ (by omega) (by omega), h3 j hj]
    exact (if_neg (by omega)).symm
theorem Rs.put {i : Nat} {v : Int32} (h : Rs w z n M) (hs : s ≤ 3) (hi : i < 40) : Rs w z (put1 n (40 * s + i) v) (mput M (2 * s + 59) i v) := by
  intro u hu
  obtain ⟨h1, h2, h3⟩ := h u hu
  refine ⟨(mpn (by omega)).trans h1, (mpn (by omega)).trans h2, fun j hj => ?_⟩
  by_cases e : u = s ∧ j = i
  · obtain ⟨rfl, rfl⟩ := e
    rw [mp0, put1_s]
  · rw [mpn (by omega), put1_o (by omega)]
    exact h3 j hj
theorem lkS_a {a : Int32} (h : bI (nI 0 ≤ a ∧ a ≤ nI 3) = 0) : lkS w a = -1000001 := if_pos h
theorem lkS_b {k : Nat} (hk : k ≤ 3) (h : w k = 0) : lkS w (nI k) = -1000006 := by
  unfold lkS
  rw [if_neg (fun q => absurd q (by rw [bI_eq0]; exact fun q => q ⟨(jI_le (by omega) (by omega)).mpr (Nat.zero_le _), (jI_le (by omega) (by omega)).mpr hk⟩)), jI_nat (by omega), if_pos h]
theorem lkS_c {k : Nat} (hk : k ≤ 3) (h : ¬ w k = 0) : lkS w (nI k) = nI 0 := by
  unfold lkS
  rw [if_neg (fun q => absurd q (by rw [bI_eq0]; exact fun q => q ⟨(jI_le (by omega) (by omega)).mpr (Nat.zero_le _), (jI_le (by omega) (by omega)).mpr hk⟩)), jI_nat (by omega), if_neg h]
theorem lkS_0 {a : Int32} (h : lkS w a = 0) : ∃ k, k ≤ 3 ∧ a = nI k ∧ ¬ w k = 0 := by
  unfold lkS at h
  split at h
  · exact absurd h (by decide)
  · rename_i h1
    obtain ⟨k, hk, rfl⟩ := le_k (by decide) (bI_ne0 h1)
    rw [jI_nat (by omega)] at h
    split at h
    · exact absurd h (by decide)
    · exact ⟨k, hk, rfl, by assumption⟩
theorem lkS_fd {a : Int32} (h : ¬ lkS w a = 0) : FD (lkS w a) := by
  unfold lkS at h ⊢
  split
  · decide
  · rename_i h1
    rw [if_neg h1] at h
    split
    · decide
    · rename_i h2
      rw [if_neg h2] at h
      exact absurd rfl h
theorem J.sheets {M1 M2 : mM} {v x : Int32} {q : SS} (h : J M) (c : Ck M M1) (f : Gq q v M M1) (i : Inv M2) (m : cnm M2 = M2) (g : Hq q x M1 M2) (hw : Wok q.2.1) : J M2 := by
  obtain ⟨j1, j2, j3, j4, j5, j6, j7⟩ := h
  obtain ⟨-, f2, f3⟩ := f
  obtain ⟨-, g2, g3, g4, g5⟩ := g
  have b : ∀ a, a < 66 → M2 a = M1 a := fun a ga => g5 a (by omega) (by omega) (by omega) (by omega) (by omega)
  have l : ∀ a, (a < 35 ∨ (51 < a ∧ a < 58 ∧ a ≠ 55 ∧ a ≠ 56 ∧ a ≠ 57)) → M2 a = M a := fun a gb => (b a (by omega)).trans (f3 a gb)
  have u : ∀ a, 66 ≤ a → a < 76 → a ≠ 70 → M2 a = M a := fun a ga gb gc => (g5 a gc (by omega) (by omega) (by omega) (by omega)).trans (c.2 a ga)
  have e66 := u 66 (by decide) (by decide) (by decide)
  refine ⟨i, m, j3.of (fun x _ hx => l x (by omega)) (u 67 (by decide) (by decide) (by decide)), j4.of (by rw [l 0 (by omega)]) (by rw [e66]) (fun x _ hx => l x (by omega)) (u 68 (by decide) (by decide) (by decide)), j5.of (by rw [l 52 (by omega)]) (by rw [e66]) (u 73 (by decide) (by decide) (by decide)) (l 53 (by omega)), fun s hs => ?_, by rw [e66]; exact j7⟩
  obtain ⟨k1, k2, k3⟩ := f2 s hs
  rw [g2, g3, g4]
  exact ⟨by rw [b _ (by omega)]; exact k1, by rw [b _ (by omega)]; exact k2, hw s hs, fun j hj => by rw [b _ (by omega)]; exact k3 j hj⟩
theorem J.rs (h : J M) : Rs (M 76) (M 77) (M 78) M ∧ Wok (M 76) := ⟨fun s hs => ⟨(h.2.2.2.2.2.1 s hs).1, (h.2.2.2.2.2.1 s hs).2.1, (h.2.2.2.2.2.1 s hs).2.2.2⟩, fun s hs => (h.2.2.2.2.2.1 s hs).2.2.1⟩
theorem J.shj {cmd rmd : Nat} {as bs : List Value} {q : SS} (hJ : J M) (hc : ∃ v M1, mT X cmd as (con M) (some (.int v)) (con M1) ∧ Ck M M1) (he : ∃ v M1, mT X cmd as (con M) (some (.int v)) (con M1) ∧ Gq q v M M1)
    (hr : ∀ M1, Inv M1 → ∃ v M', mT X rmd bs (con M1) (some (.int v)) (con M') ∧ Inv M') (hu : ∀ M1, Inv M1 → (∀ a, 66 ≤ a → M1 a = M a) → ∃ v M', mT X rmd bs (con M1) (some (.int v)) (con M') ∧ Hq q v M1 M') (hg : Wok q.2.1) : JJ X cmd rmd as bs M Eq := by
  obtain ⟨v, M1, a1, a2, a3, a4⟩ := mT.both hc he (fun _ _ h => h.cn hJ.2.1) (fun _ _ h => h.cn hJ.2.1)
  have i1 := a3.inv hJ.1
  obtain ⟨x, M2, b1, b2, b3, b4⟩ := mT.both (hr M1 i1) (hu M1 i1 a3.2) (fun _ _ h => h.cn) (fun _ _ h => h.cn a2)
  exact ⟨v, M1, x, M2, a1, b1, hJ.sheets a3 a4 b3 b2 b4 hg, a4.1.trans b4.1.symm⟩
theorem m117 {a1 a2 l : Int32} (hs : s ≤ 3) : ∀ (n k : Nat) (M1 : mM), 40 - k < n → k ≤ 40 → Lay s a1 l k M M1 → mEv X (QV (fun M' => Lay s a1 l 40 M M')) 117 20 [some (.ref (2 * s + 58)), some (.int a1), some (.int a2), some (.int (nI k))] [] (con M1) := by
  have hm : mMet 117 = some _ := rfl
  intro n
  induction n with
  | zero =>
    intro k M1 hkn hkb hT
    omega
  | succ n ih =>
    intro k M1 hkn hkb hT
    refine x_iload_n hm rfl rfl ?_
    refine x_bipush hm rfl (v := nI 40) (by decide) ?_
    refine x_icmp_ge hm rfl (t := 39) rfl (fun h1 => ?_) (fun h1 => ?_)
    · obtain rfl : k = 40 := Nat.le_antisymm hkb ((jI_le (by decide) (by omega)).mp h1)
      refine x_ret hm rfl rfl ?_
      exact ⟨_, rfl, rfl, hT⟩
    · have hk : k < 40 := Nat.lt_of_not_le fun h => h1 (nI_le h (by omega))
      refine x_aload_n hm rfl rfl ?_
      refine x_getf hm rfl (by first | exact gR (sO hs) rfl) ?_
      refine x_iload_n hm rfl rfl ?_
      refine x_iconst hm rfl (v := nI 0) (by decide) ?_
      refine x_iast hm rfl (by first | exact sI (sRow hs) (by omega) (by decide) | exact sI rfl (by omega) (by decide)) ?_
      refine x_iinc hm rfl rfl (v := nI 1) (by decide) rfl ?_
      rw [jI_add]
      refine x_goto hm rfl (t := 20) rfl ?_
      refine ih _ _ (by omega) (by omega) ⟨(mpn (by omega)).trans hT.1, (mpn (by omega)).trans hT.2.1, fun j hj => ?_, fun a h1 h2 => (mpo h2).trans (hT.2.2.2 a h1 h2)⟩
      by_cases e : j = k
      · subst e; exact mp0
      · rw [mpn (by omega)]; exact hT.2.2.1 j (by omega)
theorem g117 {a1 a2 : Int32} (hs : s ≤ 3) : ∃ M', mT X 117 [.ref (2 * s + 58), .int a1, .int a2] (con M) none (con M') ∧ Lay s a1 (if a1 = 0 then nI 0 else a2) 40 M M' := by
  refine tv_of (row := _) rfl (Nat.le_of_ble_eq_true rfl) ?_
  have hm : mMet 117 = some _ := rfl
  refine x_aload_n hm rfl rfl ?_
  refine x_iload_n hm rfl rfl ?_
  refine x_putf hm rfl (pI (sO hs) rfl (by decide) (by first | exact mFit_int | rfl | decide) rfl) ?_
  refine x_aload_n hm rfl rfl ?_
  refine x_iload_n hm rfl rfl ?_
  refine x_if_ne hm rfl (t := 14) rfl (fun h1 => ?_) (fun h1 => ?_)
  · have hv : a2 = (if a1 = 0 then nI 0 else a2) := (if_neg h1).symm
    refine x_iload_n hm rfl rfl ?_
    refine x_putf hm rfl (pI (sO hs) rfl (by decide) (by first | exact mFit_int | rfl | decide) rfl) ?_
    refine x_iconst hm rfl (v := nI 0) (by decide) ?_
    refine x_istore_n hm rfl rfl ?_
    exact m117 hs _ 0 _ (Nat.lt_succ_self _) (Nat.zero_le _) ⟨(mpn (by omega)).trans mp0, mp0.trans hv, fun j hj => absurd hj (Nat.not_lt_zero j), fun a h1 _ => (mpo h1).trans (mpo h1)⟩
  · have hv : nI 0 = (if a1 = 0 then nI 0 else a2) := (if_pos h1).symm
    refine x_iconst hm rfl (v := nI 0) (by decide) ?_
    refine x_goto hm rfl (t := 15) rfl ?_
    refine x_putf hm rfl (pI (sO hs) rfl (by decide) (by first | exact mFit_int | rfl | decide) rfl) ?_
    refine x_iconst hm rfl (v := nI 0) (by decide) ?_
    refine x_istore_n hm rfl rfl ?_
    exact m117 hs _ 0 _ (Nat.lt_succ_self _) (Nat.zero_le _) ⟨(mpn (by omega)).trans mp0, mp0.trans hv, fun j hj => absurd hj (Nat.not_lt_zero j), fun a h1 _ => (mpo h1).trans (mpo h1)⟩
theorem g119 {i : Nat} {v : Int32} (hs : s ≤ 3) (hi : i < 40) : ∃ M', mT X 119 [.ref (2 * s + 58), .int (nI i), .int v] (con M) none (con M') ∧ M' = mput M (2 * s + 59) i (cut (M (2 * s + 58) 1) v) := by
  refine tv_of (row := _) rfl (Nat.le_of_ble_eq_true rfl) ?_
  have hm : mMet 119 = some _ := rfl
  refine x_aload_n hm rfl rfl ?_
  refine x_getf hm rfl (by first | exact gI (sO hs) rfl) ?_
  refine x_bipush hm rfl (v := nI 8) (by decide) ?_
  refine x_icmp_ne hm rfl (t := 20) rfl (fun h1 => ?_) (fun h1 => ?_)
  · have n8 := h1
    refine x_aload_n hm rfl rfl ?_
    refine x_getf hm rfl (by first | exact gI (sO hs) rfl) ?_
    refine x_bipush hm rfl (v := nI 16) (by decide) ?_
    refine x_icmp_ne hm rfl (t := 40) rfl (fun h2 => ?_) (fun h2 => ?_)
    · have hv : v = cut (M (2 * s + 58) 1) v := ((if_neg n8).trans (if_neg h2)).symm
      refine x_aload_n hm rfl rfl ?_
      refine x_getf hm rfl (by first | exact gR (sO hs) rfl) ?_
      refine x_iload_n hm rfl rfl ?_
      refine x_iload_n hm rfl rfl ?_
      refine x_iast hm rfl (by first | exact sI (sRow hs) (by omega) (by decide) | exact sI rfl (by omega) (by decide)) ?_
      refine x_ret hm rfl rfl ?_
      exact ⟨_, rfl, rfl, by rw [← hv]⟩
    · have hv : v.toInt16.toInt32 = cut (M (2 * s + 58) 1) v := ((if_neg n8).trans (if_pos h2)).symm
      refine x_aload_n hm rfl rfl ?_
      refine x_getf hm rfl (by first | exact gR (sO hs) rfl) ?_
      refine x_iload_n hm rfl rfl ?_
      refine x_iload_n hm rfl rfl ?_
      refine x_i2s hm rfl ?_
      refine x_iast hm rfl (by first | exact sI (sRow hs) (by omega) (by decide) | exact sI rfl (by omega) (by decide)) ?_
      refine x_goto hm rfl (t := 47) rfl ?_
      refine x_ret hm rfl rfl ?_
      exact ⟨_, rfl, rfl, by rw [← hv]⟩
  · have hv : v.toInt8.toInt32 = cut (M (2 * s + 58) 1) v := (if_pos h1).symm
    refine x_aload_n hm rfl rfl ?_
    refine x_getf hm rfl (by first | exact gR (sO hs) rfl) ?_
    refine x_iload_n hm rfl rfl ?_
    refine x_iload_n hm rfl rfl ?_
    refine x_i2b hm rfl ?_
    refine x_iast hm rfl (by first | exact sI (sRow hs) (by omega) (by decide) | exact sI rfl (by omega) (by decide)) ?_
    refine x_goto hm rfl (t := 47) rfl ?_
    refine x_ret hm rfl rfl ?_
    exact ⟨_, rfl, rfl, by rw [← hv]⟩
theorem g116e {a2 a3 : Int32} (hR : Rs w z n M) (hs : s ≤ 3) : mEv X (QI (fun v M' => Gq ((if a2 = 0 then nI 0 else a3), put1 w s a2, put1 z s (if a2 = 0 then nI 0 else a3), clr n s) v M M')) 116 60 [some (.ref 0), some (.int (nI s)), some (.int a2), some (.int a3)] [] (con M) := by
  have hm : mMet 116 = some _ := rfl
  refine x_aload_n hm rfl rfl ?_
  refine x_getf hm rfl (gR rfl rfl) ?_
  refine x_iload_n hm rfl rfl ?_
  refine x_aald hm rfl (by first | exact lQ 2 (Or.inl rfl) rfl (shk hs) (by omega) (by decide) | exact lQ 3 (Or.inr (Or.inl rfl)) rfl rfl (by omega) (by decide)) ?_
  refine x_iload_n hm rfl rfl ?_
  refine x_iload_n hm rfl rfl ?_
  refine x_cVv hm rfl (by first | exact mCallSh hs (by decide) rfl rfl rfl rfl rfl) (g117 hs) (fun M1 r1 => ?_)
  refine x_aload_n hm rfl rfl ?_
  refine x_getf hm rfl (gR rfl rfl) ?_
  refine x_iload_n hm rfl rfl ?_
  refine x_aald hm rfl (by first | exact lQ 2 (Or.inl rfl) rfl (shk hs) (by omega) (by decide) | exact lQ 3 (Or.inr (Or.inl rfl)) rfl rfl (by omega) (by decide)) ?_
  refine x_getf hm rfl (by first | exact gI (sO hs) rfl) ?_
  refine x_iret hm rfl rfl (by first | rfl | exact bI_nar | decide) ?_
  exact ⟨_, _, rfl, rfl, r1.2.1, hR.lay hs r1, fun a ha => r1.2.2.2 a (by omega) (by omega)⟩
theorem g116 {a1 a2 a3 : Int32} (hR : Rs w z n M) : ∃ v M', mT X 116 [.ref 0, .int a1, .int a2, .int a3] (con M) (some (.int v)) (con M') ∧ Gq (fSheet w z n a1 a2 a3) v M M' := by
  refine ti_of (row := _) rfl (Nat.le_of_ble_eq_true rfl) ?_
  have hm : mMet 116 = some _ := rfl
  refine x_iload_n hm rfl rfl ?_
  refine x_callS hm rfl rfl (t78) ?_
  refine x_if_eq hm rfl (t := 29) rfl (fun h1 => ?_) (fun h1 => ?_)
  · refine x_aload_n hm rfl rfl ?_
    refine x_ldcI hm rfl (v := (-1000001 : Int32)) (by decide +kernel) ?_
    refine x_cVi hm rfl rfl (t7 (by decide +kernel)) (fun v2 M2 r2 => ?_)
    refine x_iret hm rfl rfl (by first | rfl | exact bI_nar | decide) ?_
    first
      | (have hq : fSheet w z n a1 a2 a3 = (-1000001, w, z, n) := by
           unfold fSheet
           rw [if_pos h1]
         exact ⟨_, _, rfl, rfl, by rw [hq]; exact hR.bq r2.2 r2.1⟩)
      | (have hq : fSheet w z n a1 a2 a3 = (-1000001, w, z, n) := by
           unfold fSheet
           rw [if_neg h1, if_pos (okb_f (by assumption) (by assumption) (by assumption) (by assumption))]
         exact ⟨_, _, rfl, rfl, by rw [hq]; exact hR.bq r2.2 r2.1⟩)
      | (have hq : fSheet w z n a1 a2 a3 = (-1000001, w, z, n) := by
           unfold fSheet
           rw [if_pos h1]
         exact ⟨_, _, rfl, rfl, by rw [hq]; exact hR.bq r1.2 r1.1⟩)
      | (have hq : fSheet w z n a1 a2 a3 = (-1000001, w, z, n) := by
           unfold fSheet
           rw [if_pos h1]
         exact ⟨_, _, rfl, rfl, by rw [hq]; exact hR.bq r3.2 r3.1⟩)
      | (have hq : fSheet w z n a1 a2 a3 = (-1000001, w, z, n) := by
           unfold fSheet
           rw [if_pos h1]
         exact ⟨_, _, rfl, rfl, by rw [hq]; exact hR.bq r4.2 r4.1⟩)
      | (have hq : fSheet w z n a1 a2 a3 = (-1000001, w, z, n) := by
           unfold fSheet
           rw [if_pos h1]
         exact ⟨_, _, rfl, rfl, by rw [hq]; exact hR.bq r5.2 r5.1⟩)
      | (have hq : fSheet w z n a1 a2 a3 = (-1000001, w, z, n) := by
           unfold fSheet
           rw [if_pos h1]
         exact ⟨_, _, rfl, rfl, by rw [hq]; exact hR.bq r6.2 r6.1⟩)
      | (have hq : fSheet w z n a1 a2 a3 = (-1000001, w, z, n) := by
           unfold fSheet
           rw [if_pos h1]
         exact ⟨_, _, rfl, rfl, by rw [hq]; exact hR.bq r7.2 r7.1⟩)
      | (have hq : fSheet w z n a1 a2 a3 = (-1000001, w, z, n) := by
           unfold fSheet
           rw [if_pos h1]
         exact ⟨_, _, rfl, rfl, by rw [hq]; exact hR.bq r8.2 r8.1⟩)
      | (have hq : fSheet w z n a1 a2 a3 = (-1000001, w, z, n) := by
           unfold fSheet
           rw [if_pos h1]
         exact ⟨_, _, rfl, rfl, by rw [hq]; exact hR.bq r9.2 r9.1⟩)
      | (have hq : fSheet w z n a1 a2 a3 = (-1000001, w, z, n) := by
           unfold fSheet
           rw [if_pos h1]
         exact ⟨_, _, rfl, rfl, by rw [hq]; exact hR.bq r10.2 r10.1⟩)
      | (have hq : fSheet w z n a1 a2 a3 = (-1000001, w, z, n) := by
           unfold fSheet
           rw [if_pos h1]
         exact ⟨_, _, rfl, rfl, by rw [hq]; exact hR.bq r11.2 r11.1⟩)
      | (have hq : fSheet w z n a1 a2 a3 = (-1000001, w, z, n) := by
           unfold fSheet
           rw [if_pos h1]
         exact ⟨_, _, rfl, rfl, by rw [hq]; exact hR.bq r12.2 r12.1⟩)
      | (have hq : fSheet w z n a1 a2 a3 = (-1000001, w, z, n) := by
           unfold fSheet
           rw [if_pos h1]
         exact ⟨_, _, rfl, rfl, by rw [hq]; exact hR.bq r13.2 r13.1⟩)
      | (have hq : fSheet w z n a1 a2 a3 = (-1000001, w, z, n) := by
           unfold fSheet
           rw [if_pos h1]
         exact ⟨_, _, rfl, rfl, by rw [hq]; exact hR.bq r14.2 r14.1⟩)
      | (have hq : fSheet w z n a1 a2 a3 = (-1000001, w, z, n) := by
           unfold fSheet
           rw [if_pos h1]
         exact ⟨_, _, rfl, rfl, by rw [hq]; exact hR.bq r15.2 r15.1⟩)
      | (have hq : fSheet w z n a1 a2 a3 = (-1000001, w, z, n) := by
           unfold fSheet
           rw [if_pos h1]
         exact ⟨_, _, rfl, rfl, by rw [hq]; exact hR.bq r16.2 r16.1⟩)
      | (have hq : fSheet w z n a1 a2 a3 = (-1000001, w, z, n) := by
           unfold fSheet
           rw [if_pos h1]
         exact ⟨_, _, rfl, rfl, by rw [hq]; exact hR.bq r17.2 r17.1⟩)
      | (have hq : fSheet w z n a1 a2 a3 = (-1000001, w, z, n) := by
           unfold fSheet
           rw [if_pos h1]
         exact ⟨_, _, rfl, rfl, by rw [hq]; exact hR.bq r18.2 r18.1⟩)
      | (have hq : fSheet w z n a1 a2 a3 = (-1000001, w, z, n) := by
           unfold fSheet
           rw [if_pos h1]
         exact ⟨_, _, rfl, rfl, by rw [hq]; exact hR.bq r19.2 r19.1⟩)
      | (have hq : fSheet w z n a1 a2 a3 = (-1000001, w, z, n) := by
           unfold fSheet
           rw [if_pos h1]
         exact ⟨_, _, rfl, rfl, by rw [hq]; exact hR.bq r20.2 r20.1⟩)
      | (have hq : fSheet w z n a1 a2 a3 = (-1000001, w, z, n) := by
           unfold fSheet
           rw [if_pos h1]
         exact ⟨_, _, rfl, rfl, by rw [hq]; exact hR.bq r21.2 r21.1⟩)
      | (have hq : fSheet w z n a1 a2 a3 = (-1000001, w, z, n) := by
           unfold fSheet
           rw [if_pos h1]
         exact ⟨_, _, rfl, rfl, by rw [hq]; exact hR.bq r22.2 r22.1⟩)
      | (have hq : fSheet w z n a1 a2 a3 = (-1000001, w, z, n) := by
           unfold fSheet
           rw [if_pos h1]
         exact ⟨_, _, rfl, rfl, by rw [hq]; exact hR.bq r23.2 r23.1⟩)
      | (have hq : fSheet w z n a1 a2 a3 = (-1000001, w, z, n) := by
           unfold fSheet
           rw [if_pos h1]
         exact ⟨_, _, rfl, rfl, by rw [hq]; exact hR.bq r24.2 r24.1⟩)
      | (have hq : fSheet w z n a1 a2 a3 = (-1000001, w, z, n) := by
           unfold fSheet
           rw [if_pos h1]
         exact ⟨_, _, rfl, rfl, by rw [hq]; exact hR.bq r25.2 r25.1⟩)
      | (have hq : fSheet w z n a1 a2 a3 = (-1000001, w, z, n) := by
           unfold fSheet
           rw [if_pos h1]
         exact ⟨_, _, rfl, rfl, by rw [hq]; exact hR.bq r26.2 r26.1⟩)
      | (have hq : fSheet w z n a1 a2 a3 = (-1000001, w, z, n) := by
           unfold fSheet
           rw [if_pos h1]
         exact ⟨_, _, rfl, rfl, by rw [hq]; exact hR.bq r27.2 r27.1⟩)
      | (have hq : fSheet w z n a1 a2 a3 = (-1000001, w, z, n) := by
           unfold fSheet
           rw [if_pos h1]
         exact ⟨_, _, rfl, rfl, by rw [hq]; exact hR.bq r28.2 r28.1⟩)
      | (have hq : fSheet w z n a1 a2 a3 = (-1000001, w, z, n) := by
           unfold fSheet
           rw [if_pos h1]
         exact ⟨_, _, rfl, rfl, by rw [hq]; exact hR.bq r29.2 r29.1⟩)
      | (have hq : fSheet w z n a1 a2 a3 = (-1000001, w, z, n) := by
           unfold fSheet
           rw [if_pos h1]
         exact ⟨_, _, rfl, rfl, by rw [hq]; exact hR.bq r30.2 r30.1⟩)
      | (have hq : fSheet w z n a1 a2 a3 = (-1000001, w, z, n) := by
           unfold fSheet
           rw [if_pos h1]
         exact ⟨_, _, rfl, rfl, by rw [hq]; exact hR.bq r31.2 r31.1⟩)
      | (have hq : fSheet w z n a1 a2 a3 = (-1000001, w, z, n) := by
           unfold fSheet
           rw [if_pos h1]
         exact ⟨_, _, rfl, rfl, by rw [hq]; exact hR.bq r32.2 r32.1⟩)
      | (have hq : fSheet w z n a1 a2 a3 = (-1000001, w, z, n) := by
           unfold fSheet
           rw [if_pos h1]
         exact ⟨_, _, rfl, rfl, by rw [hq]; exact hR.bq r33.2 r33.1⟩)
      | (have hq : fSheet w z n a1 a2 a3 = (-1000001, w, z, n) := by
           unfold fSheet
           rw [if_pos h1]
         exact ⟨_, _, rfl, rfl, by rw [hq]; exact hR.bq r34.2 r34.1⟩)
      | (have hq : fSheet w z n a1 a2 a3 = (-1000001, w, z, n) := by
           unfold fSheet
           rw [if_pos h1]
         exact ⟨_, _, rfl, rfl, by rw [hq]; exact hR.bq r35.2 r35.1⟩)
      | (have hq : fSheet w z n a1 a2 a3 = (-1000001, w, z, n) := by
           unfold fSheet
           rw [if_pos h1]
         exact ⟨_, _, rfl, rfl, by rw [hq]; exact hR.bq r36.2 r36.1⟩)
      | (have hq : fSheet w z n a1 a2 a3 = (-1000001, w, z, n) := by
           unfold fSheet
           rw [if_pos h1]
         exact ⟨_, _, rfl, rfl, by rw [hq]; exact hR.bq r37.2 r37.1⟩)
      | (have hq : fSheet w z n a1 a2 a3 = (-1000001, w, z, n) := by
           unfold fSheet
           rw [if_pos h1]
         exact ⟨_, _, rfl, rfl, by rw [hq]; exact hR.bq r38.2 r38.1⟩)
      | (have hq : fSheet w z n a1 a2 a3 = (-1000001, w, z, n) := by
           unfold fSheet
           rw [if_pos h1]
         exact ⟨_, _, rfl, rfl, by rw [hq]; exact hR.bq r39.2 r39.1⟩)
      | (have hq : fSheet w z n a1 a2 a3 = (-1000001, w, z, n) := by
           unfold fSheet
           rw [if_neg h1, if_pos (okb_f (by assumption) (by assumption) (by assumption) (by assumption))]
         exact ⟨_, _, rfl, rfl, by rw [hq]; exact hR.bq r1.2 r1.1⟩)
      | (have hq : fSheet w z n a1 a2 a3 = (-1000001, w, z, n) := by
           unfold fSheet
           rw [if_neg h1, if_pos (okb_f (by assumption) (by assumption) (by assumption) (by assumption))]
         exact ⟨_, _, rfl, rfl, by rw [hq]; exact hR.bq r3.2 r3.1⟩)
      | (have hq : fSheet w z n a1 a2 a3 = (-1000001, w, z, n) := by
           unfold fSheet
           rw [if_neg h1, if_pos (okb_f (by assumption) (by assumption) (by assumption) (by assumption))]
         exact ⟨_, _, rfl, rfl, by rw [hq]; exact hR.bq r4.2 r4.1⟩)
      | (have hq : fSheet w z n a1 a2 a3 = (-1000001, w, z, n) := by
           unfold fSheet
           rw [if_neg h1, if_pos (okb_f (by assumption) (by assumption) (by assumption) (by assumption))]
         exact ⟨_, _, rfl, rfl, by rw [hq]; exact hR.bq r5.2 r5.1⟩)
      | (have hq : fSheet w z n a1 a2 a3 = (-1000001, w, z, n) := by
           unfold fSheet
           rw [if_neg h1, if_pos (okb_f (by assumption) (by assumption) (by assumption) (by assumption))]
         exact ⟨_, _, rfl, rfl, by rw [hq]; exact hR.bq r6.2 r6.1⟩)
      | (have hq : fSheet w z n a1 a2 a3 = (-1000001, w, z, n) := by
           unfold fSheet
           rw [if_neg h1, if_pos (okb_f (by assumption) (by assumption) (by assumption) (by assumption))]
         exact ⟨_, _, rfl, rfl, by rw [hq]; exact hR.bq r7.2 r7.1⟩)
      | (have hq : fSheet w z n a1 a2 a3 = (-1000001, w, z, n) := by
           unfold fSheet
           rw [if_neg h1, if_pos (okb_f (by assumption) (by assumption) (by assumption) (by assumption))]
         exact ⟨_, _, rfl, rfl, by rw [hq]; exact hR.bq r8.2 r8.1⟩)
      | (have hq : fSheet w z n a1 a2 a3 = (-1000001, w, z, n) := by
           unfold fSheet
           rw [if_neg h1, if_pos (okb_f (by assumption) (by assumption) (by assumption) (by assumption))]
         exact ⟨_, _, rfl, rfl, by rw [hq]; exact hR.bq r9.2 r9.1⟩)
      | (have hq : fSheet w z n a1 a2 a3 = (-1000001, w, z, n) := by
           unfold fSheet
           rw [if_neg h1, if_pos (okb_f (by assumption) (by assumption) (by assumption) (by assumption))]
         exact ⟨_, _, rfl, rfl, by rw [hq]; exact hR.bq r10.2 r10.1⟩)
      | (have hq : fSheet w z n a1 a2 a3 = (-1000001, w, z, n) := by
           unfold fSheet
           rw [if_neg h1, if_pos (okb_f (by assumption) (by assumption) (by assumption) (by assumption))]
         exact ⟨_, _, rfl, rfl, by rw [hq]; exact hR.bq r11.2 r11.1⟩)
      | (have hq : fSheet w z n a1 a2 a3 = (-1000001, w, z, n) := by
           unfold fSheet
           rw [if_neg h1, if_pos (okb_f (by assumption) (by assumption) (by assumption) (by assumption))]
         exact ⟨_, _, rfl, rfl, by rw [hq]; exact hR.bq r12.2 r12.1⟩)
      | (have hq : fSheet w z n a1 a2 a3 = (-1000001, w, z, n) := by
           unfold fSheet
           rw [if_neg h1, if_pos (okb_f (by assumption) (by assumption) (by assumption) (by assumption))]
         exact ⟨_, _, rfl, rfl, by rw [hq]; exact hR.bq r13.2 r13.1⟩)
      | (have hq : fSheet w z n a1 a2 a3 = (-1000001, w, z, n) := by
           unfold fSheet
           rw [if_neg h1, if_pos (okb_f (by assumption) (by assumption) (by assumption) (by assumption))]
         exact ⟨_, _, rfl, rfl, by rw [hq]; exact hR.bq r14.2 r14.1⟩)
      | (have hq : fSheet w z n a1 a2 a3 = (-1000001, w, z, n) := by
           unfold fSheet
           rw [if_neg h1, if_pos (okb_f (by assumption) (by assumption) (by assumption) (by assumption))]
         exact ⟨_, _, rfl, rfl, by rw [hq]; exact hR.bq r15.2 r15.1⟩)
      | (have hq : fSheet w z n a1 a2 a3 = (-1000001, w, z, n) := by
           unfold fSheet
           rw [if_neg h1, if_pos (okb_f (by assumption) (by assumption) (by assumption) (by assumption))]
         exact ⟨_, _, rfl, rfl, by rw [hq]; exact hR.bq r16.2 r16.1⟩)
      | (have hq : fSheet w z n a1 a2 a3 = (-1000001, w, z, n) := by
           unfold fSheet
           rw [if_neg h1, if_pos (okb_f (by assumption) (by assumption) (by assumption) (by assumption))]
         exact ⟨_, _, rfl, rfl, by rw [hq]; exact hR.bq r17.2 r17.1⟩)
      | (have hq : fSheet w z n a1 a2 a3 = (-1000001, w, z, n) := by
           unfold fSheet
           rw [if_neg h1, if_pos (okb_f (by assumption) (by assumption) (by assumption) (by assumption))]
         exact ⟨_, _, rfl, rfl, by rw [hq]; exact hR.bq r18.2 r18.1⟩)
      | (have hq : fSheet w z n a1 a2 a3 = (-1000001, w, z, n) := by
           unfold fSheet
           rw [if_neg h1, if_pos (okb_f (by assumption) (by assumption) (by assumption) (by assumption))]
         exact ⟨_, _, rfl, rfl, by rw [hq]; exact hR.bq r19.2 r19.1⟩)
      | (have hq : fSheet w z n a1 a2 a3 = (-1000001, w, z, n) := by
           unfold fSheet
           rw [if_neg h1, if_pos (okb_f (by assumption) (by assumption) (by assumption) (by assumption))]
         exact ⟨_, _, rfl, rfl, by rw [hq]; exact hR.bq r20.2 r20.1⟩)
      | (have hq : fSheet w z n a1 a2 a3 = (-1000001, w, z, n) := by
           unfold fSheet
           rw [if_neg h1, if_pos (okb_f (by assumption) (by assumption) (by assumption) (by assumption))]
         exact ⟨_, _, rfl, rfl, by rw [hq]; exact hR.bq r21.2 r21.1⟩)
      | (have hq : fSheet w z n a1 a2 a3 = (-1000001, w, z, n) := by
           unfold fSheet
           rw [if_neg h1, if_pos (okb_f (by assumption) (by assumption) (by assumption) (by assumption))]
         exact ⟨_, _, rfl, rfl, by rw [hq]; exact hR.bq r22.2 r22.1⟩)
      | (have hq : fSheet w z n a1 a2 a3 = (-1000001, w, z, n) := by
           unfold fSheet
           rw [if_neg h1, if_pos (okb_f (by assumption) (by assumption) (by assumption) (by assumption))]
         exact ⟨_, _, rfl, rfl, by rw [hq]; exact hR.bq r23.2 r23.1⟩)
      | (have hq : fSheet w z n a1 a2 a3 = (-1000001, w, z, n) := by
           unfold fSheet
           rw [if_neg h1, if_pos (okb_f (by assumption) (by assumption) (by assumption) (by assumption))]
         exact ⟨_, _, rfl, rfl, by rw [hq]; exact hR.bq r24.2 r24.1⟩)
      | (have hq : fSheet w z n a1 a2 a3 = (-1000001, w, z, n) := by
           unfold fSheet
           rw [if_neg h1, if_pos (okb_f (by assumption) (by assumption) (by assumption) (by assumption))]
         exact ⟨_, _, rfl, rfl, by rw [hq]; exact hR.bq r25.2 r25.1⟩)
      | (have hq : fSheet w z n a1 a2 a3 = (-1000001, w, z, n) := by
           unfold fSheet
           rw [if_neg h1, if_pos (okb_f (by assumption) (by assumption) (by assumption) (by assumption))]
         exact ⟨_, _, rfl, rfl, by rw [hq]; exact hR.bq r26.2 r26.1⟩)
      | (have hq : fSheet w z n a1 a2 a3 = (-1000001, w, z, n) := by
           unfold fSheet
           rw [if_neg h1, if_pos (okb_f (by assumption) (by assumption) (by assumption) (by assumption))]
         exact ⟨_, _, rfl, rfl, by rw [hq]; exact hR.bq r27.2 r27.1⟩)
      | (have hq : fSheet w z n a1 a2 a3 = (-1000001, w, z, n) := by
           unfold fSheet
           rw [if_neg h1, if_pos (okb_f (by assumption) (by assumption) (by assumption) (by assumption))]
         exact ⟨_, _, rfl, rfl, by rw [hq]; exact hR.bq r28.2 r28.1⟩)
      | (have hq : fSheet w z n a1 a2 a3 = (-1000001, w, z, n) := by
           unfold fSheet
           rw [if_neg h1, if_pos (okb_f (by assumption) (by assumption) (by assumption) (by assumption))]
         exact ⟨_, _, rfl, rfl, by rw [hq]; exact hR.bq r29.2 r29.1⟩)
      | (have hq : fSheet w z n a1 a2 a3 = (-1000001, w, z, n) := by
           unfold fSheet
           rw [if_neg h1, if_pos (okb_f (by assumption) (by assumption) (by assumption) (by assumption))]
         exact ⟨_, _, rfl, rfl, by rw [hq]; exact hR.bq r30.2 r30.1⟩)
      | (have hq : fSheet w z n a1 a2 a3 = (-1000001, w, z, n) := by
           unfold fSheet
           rw [if_neg h1, if_pos (okb_f (by assumption) (by assumption) (by assumption) (by assumption))]
         exact ⟨_, _, rfl, rfl, by rw [hq]; exact hR.bq r31.2 r31.1⟩)
      | (have hq : fSheet w z n a1 a2 a3 = (-1000001, w, z, n) := by
           unfold fSheet
           rw [if_neg h1, if_pos (okb_f (by assumption) (by assumption) (by assumption) (by assumption))]
         exact ⟨_, _, rfl, rfl, by rw [hq]; exact hR.bq r32.2 r32.1⟩)
      | (have hq : fSheet w z n a1 a2 a3 = (-1000001, w, z, n) := by
           unfold fSheet
           rw [if_neg h1, if_pos (okb_f (by assumption) (by assumption) (by assumption) (by assumption))]
         exact ⟨_, _, rfl, rfl, by rw [hq]; exact hR.bq r33.2 r33.1⟩)
      | (have hq : fSheet w z n a1 a2 a3 = (-1000001, w, z, n) := by
           unfold fSheet
           rw [if_neg h1, if_pos (okb_f (by assumption) (by assumption) (by assumption) (by assumption))]
         exact ⟨_, _, rfl, rfl, by rw [hq]; exact hR.bq r34.2 r34.1⟩)
      | (have hq : fSheet w z n a1 a2 a3 = (-1000001, w, z, n) := by
           unfold fSheet
           rw [if_neg h1, if_pos (okb_f (by assumption) (by assumption) (by assumption) (by assumption))]
         exact ⟨_, _, rfl, rfl, by rw [hq]; exact hR.bq r35.2 r35.1⟩)
      | (have hq : fSheet w z n a1 a2 a3 = (-1000001, w, z, n) := by
           unfold fSheet
           rw [if_neg h1, if_pos (okb_f (by assumption) (by assumption) (by assumption) (by assumption))]
         exact ⟨_, _, rfl, rfl, by rw [hq]; exact hR.bq r36.2 r36.1⟩)
      | (have hq : fSheet w z n a1 a2 a3 = (-1000001, w, z, n) := by
           unfold fSheet
           rw [if_neg h1, if_pos (okb_f (by assumption) (by assumption) (by assumption) (by assumption))]
         exact ⟨_, _, rfl, rfl, by rw [hq]; exact hR.bq r37.2 r37.1⟩)
      | (have hq : fSheet w z n a1 a2 a3 = (-1000001, w, z, n) := by
           unfold fSheet
           rw [if_neg h1, if_pos (okb_f (by assumption) (by assumption) (by assumption) (by assumption))]
         exact ⟨_, _, rfl, rfl, by rw [hq]; exact hR.bq r38.2 r38.1⟩)
      | (have hq : fSheet w z n a1 a2 a3 = (-1000001, w, z, n) := by
           unfold fSheet
           rw [if_neg h1, if_pos (okb_f (by assumption) (by assumption) (by assumption) (by assumption))]
         exact ⟨_, _, rfl, rfl, by rw [hq]; exact hR.bq r39.2 r39.1⟩)
  · refine x_iload_n hm rfl rfl ?_
    refine x_if_eq hm rfl (t := 36) rfl (fun h3 => ?_) (fun h3 => ?_)
    · have hb := okb_t (Or.inl h3)
      refine x_iload_n hm rfl rfl ?_
      refine x_if_ge hm rfl (t := 47) rfl (fun h4 => ?_) (fun h4 => ?_)
      · have hn0 := h4
        refine x_iload_n hm rfl rfl ?_
        refine x_bipush hm rfl (v := nI 40) (by decide) ?_
        refine x_icmp_le hm rfl (t := 60) rfl (fun h5 => ?_) (fun h5 => ?_)
        · have hn4 := h5
          obtain ⟨s, hs, hs3⟩ := le_k (by omega) (bI_ne0 h1)
          subst hs3
          have hq : fSheet w z n (nI s) a2 a3 = ((if a2 = 0 then nI 0 else a3), put1 w s a2, put1 z s (if a2 = 0 then nI 0 else a3), clr n s) := by
            unfold fSheet
            rw [if_neg h1, if_neg hb, if_pos hn0, if_pos hn4, jI_nat (by omega)]
          rw [hq]
          exact g116e hR hs
        · have hn4 := h5
          refine x_aload_n hm rfl rfl ?_
          refine x_ldcI hm rfl (v := (-1000001 : Int32)) (by decide +kernel) ?_
          refine x_cVi hm rfl rfl (t7 (by decide +kernel)) (fun v6 M6 r6 => ?_)
          refine x_iret hm rfl rfl (by first | rfl | exact bI_nar | decide) ?_
          first
            | (have hq : fSheet w z n a1 a2 a3 = (-1000001, w, z, n) := by
                 unfold fSheet
                 rw [if_neg h1, if_neg hb, if_pos hn0, if_neg hn4]
               exact ⟨_, _, rfl, rfl, by rw [hq]; exact hR.bq r6.2 r6.1⟩)
            | (have hq : fSheet w z n a1 a2 a3 = (-1000001, w, z, n) := by
                 unfold fSheet
                 rw [if_neg h1, if_neg hb, if_pos hn0, if_neg hn4]
               exact ⟨_, _, rfl, rfl, by rw [hq]; exact hR.bq r1.2 r1.1⟩)
            | (have hq : fSheet w z n a1 a2 a3 = (-1000001, w, z, n) := by
                 unfold fSheet
                 rw [if_neg h1, if_neg hb, if_pos hn0, if_neg hn4]
               exact ⟨_, _, rfl, rfl, by rw [hq]; exact hR.bq r2.2 r2.1⟩)
            | (have hq : fSheet w z n a1 a2 a3 = (-1000001, w, z, n) := by
                 unfold fSheet
                 rw [if_neg h1, if_neg hb, if_pos hn0, if_neg hn4]
               exact ⟨_, _, rfl, rfl, by rw [hq]; exact hR.bq r3.2 r3.1⟩)
            | (have hq : fSheet w z n a1 a2 a3 = (-1000001, w, z, n) := by
                 unfold fSheet
                 rw [if_neg h1, if_neg hb, if_pos hn0, if_neg hn4]
               exact ⟨_, _, rfl, rfl, by rw [hq]; exact hR.bq r4.2 r4.1⟩)
            | (have hq : fSheet w z n a1 a2 a3 = (-1000001, w, z, n) := by
                 unfold fSheet
                 rw [if_neg h1, if_neg hb, if_pos hn0, if_neg hn4]
               exact ⟨_, _, rfl, rfl, by rw [hq]; exact hR.bq r5.2 r5.1⟩)
            | (have hq : fSheet w z n a1 a2 a3 = (-1000001, w, z, n) := by
                 unfold fSheet
                 rw [if_neg h1, if_neg hb, if_pos hn0, if_neg hn4]
               exact ⟨_, _, rfl, rfl, by rw [hq]; exact hR.bq r7.2 r7.1⟩)
            | (have hq : fSheet w z n a1 a2 a3 = (-1000001, w, z, n) := by
                 unfold fSheet
                 rw [if_neg h1, if_neg hb, if_pos hn0, if_neg hn4]
               exact ⟨_, _, rfl, rfl, by rw [hq]; exact hR.bq r8.2 r8.1⟩)
            | (have hq : fSheet w z n a1 a2 a3 = (-1000001, w, z, n) := by
                 unfold fSheet
                 rw [if_neg h1, if_neg hb, if_pos hn0, if_neg hn4]
               exact ⟨_, _, rfl, rfl, by rw [hq]; exact hR.bq r9.2 r9.1⟩)
            | (have hq : fSheet w z n a1 a2 a3 = (-1000001, w, z, n) := by
                 unfold fSheet
                 rw [if_neg h1, if_neg hb, if_pos hn0, if_neg hn4]
               exact ⟨_, _, rfl, rfl, by rw [hq]; exact hR.bq r10.2 r10.1⟩)
            | (have hq : fSheet w z n a1 a2 a3 = (-1000001, w, z, n) := by
                 unfold fSheet
                 rw [if_neg h1, if_neg hb, if_pos hn0, if_neg hn4]
               exact ⟨_, _, rfl, rfl, by rw [hq]; exact hR.bq r11.2 r11.1⟩)
            | (have hq : fSheet w z n a1 a2 a3 = (-1000001, w, z, n) := by
                 unfold fSheet
                 rw [if_neg h1, if_neg hb, if_pos hn0, if_neg hn4]
               exact ⟨_, _, rfl, rfl, by rw [hq]; exact hR.bq r12.2 r12.1⟩)
            | (have hq : fSheet w z n a1 a2 a3 = (-1000001, w, z, n) := by
                 unfold fSheet
                 rw [if_neg h1, if_neg hb, if_pos hn0, if_neg hn4]
               exact ⟨_, _, rfl, rfl, by rw [hq]; exact hR.bq r13.2 r13.1⟩)
            | (have hq : fSheet w z n a1 a2 a3 = (-1000001, w, z, n) := by
                 unfold fSheet
                 rw [if_neg h1, if_neg hb, if_pos hn0, if_neg hn4]
               exact ⟨_, _, rfl, rfl, by rw [hq]; exact hR.bq r14.2 r14.1⟩)
            | (have hq : fSheet w z n a1 a2 a3 = (-1000001, w, z, n) := by
                 unfold fSheet
                 rw [if_neg h1, if_neg hb, if_pos hn0, if_neg hn4]
               exact ⟨_, _, rfl, rfl, by rw [hq]; exact hR.bq r15.2 r15.1⟩)
            | (have hq : fSheet w z n a1 a2 a3 = (-1000001, w, z, n) := by
                 unfold fSheet
                 rw [if_neg h1, if_neg hb, if_pos hn0, if_neg hn4]
               exact ⟨_, _, rfl, rfl, by rw [hq]; exact hR.bq r16.2 r16.1⟩)
            | (have hq : fSheet w z n a1 a2 a3 = (-1000001, w, z, n) := by
                 unfold fSheet
                 rw [if_neg h1, if_neg hb, if_pos hn0, if_neg hn4]
               exact ⟨_, _, rfl, rfl, by rw [hq]; exact hR.bq r17.2 r17.1⟩)
            | (have hq : fSheet w z n a1 a2 a3 = (-1000001, w, z, n) := by
                 unfold fSheet
                 rw [if_neg h1, if_neg hb, if_pos hn0, if_neg hn4]
               exact ⟨_, _, rfl, rfl, by rw [hq]; exact hR.bq r18.2 r18.1⟩)
            | (have hq : fSheet w z n a1 a2 a3 = (-1000001, w, z, n) := by
                 unfold fSheet
                 rw [if_neg h1, if_neg hb, if_pos hn0, if_neg hn4]
               exact ⟨_, _, rfl, rfl, by rw [hq]; exact hR.bq r19.2 r19.1⟩)
            | (have hq : fSheet w z n a1 a2 a3 = (-1000001, w, z, n) := by
                 unfold fSheet
                 rw [if_neg h1, if_neg hb, if_pos hn0, if_neg hn4]
               exact ⟨_, _, rfl, rfl, by rw [hq]; exact hR.bq r20.2 r20.1⟩)
            | (have hq : fSheet w z n a1 a2 a3 = (-1000001, w, z, n) := by
                 unfold fSheet
                 rw [if_neg h1, if_neg hb, if_pos hn0, if_neg hn4]
               exact ⟨_, _, rfl, rfl, by rw [hq]; exact hR.bq r21.2 r21.1⟩)
            | (have hq : fSheet w z n a1 a2 a3 = (-1000001, w, z, n) := by
                 unfold fSheet
                 rw [if_neg h1, if_neg hb, if_pos hn0, if_neg hn4]
               exact ⟨_, _, rfl, rfl, by rw [hq]; exact hR.bq r22.2 r22.1⟩)
            | (have hq : fSheet w z n a1 a2 a3 = (-1000001, w, z, n) := by
                 unfold fSheet
                 rw [if_neg h1, if_neg hb, if_pos hn0, if_neg hn4]
               exact ⟨_, _, rfl, rfl, by rw [hq]; exact hR.bq r23.2 r23.1⟩)
            | (have hq : fSheet w z n a1 a2 a3 = (-1000001, w, z, n) := by
                 unfold fSheet
                 rw [if_neg h1, if_neg hb, if_pos hn0, if_neg hn4]
               exact ⟨_, _, rfl, rfl, by rw [hq]; exact hR.bq r24.2 r24.1⟩)
            | (have hq : fSheet w z n a1 a2 a3 = (-1000001, w, z, n) := by
                 unfold fSheet
                 rw [if_neg h1, if_neg hb, if_pos hn0, if_neg hn4]
               exact ⟨_, _, rfl, rfl, by rw [hq]; exact hR.bq r25.2 r25.1⟩)
            | (have hq : fSheet w z n a1 a2 a3 = (-1000001, w, z, n) := by
                 unfold fSheet
                 rw [if_neg h1, if_neg hb, if_pos hn0, if_neg hn4]
               exact ⟨_, _, rfl, rfl, by rw [hq]; exact hR.bq r26.2 r26.1⟩)
            | (have hq : fSheet w z n a1 a2 a3 = (-1000001, w, z, n) := by
                 unfold fSheet
                 rw [if_neg h1, if_neg hb, if_pos hn0, if_neg hn4]
               exact ⟨_, _, rfl, rfl, by rw [hq]; exact hR.bq r27.2 r27.1⟩)
            | (have hq : fSheet w z n a1 a2 a3 = (-1000001, w, z, n) := by
                 unfold fSheet
                 rw [if_neg h1, if_neg hb, if_pos hn0, if_neg hn4]
               exact ⟨_, _, rfl, rfl, by rw [hq]; exact hR.bq r28.2 r28.1⟩)
            | (have hq : fSheet w z n a1 a2 a3 = (-1000001, w, z, n) := by
                 unfold fSheet
                 rw [if_neg h1, if_neg hb, if_pos hn0, if_neg hn4]
               exact ⟨_, _, rfl, rfl, by rw [hq]; exact hR.bq r29.2 r29.1⟩)
            | (have hq : fSheet w z n a1 a2 a3 = (-1000001, w, z, n) := by
                 unfold fSheet
                 rw [if_neg h1, if_neg hb, if_pos hn0, if_neg hn4]
               exact ⟨_, _, rfl, rfl, by rw [hq]; exact hR.bq r30.2 r30.1⟩)
            | (have hq : fSheet w z n a1 a2 a3 = (-1000001, w, z, n) := by
                 unfold fSheet
                 rw [if_neg h1, if_neg hb, if_pos hn0, if_neg hn4]
               exact ⟨_, _, rfl, rfl, by rw [hq]; exact hR.bq r31.2 r31.1⟩)
            | (have hq : fSheet w z n a1 a2 a3 = (-1000001, w, z, n) := by
                 unfold fSheet
                 rw [if_neg h1, if_neg hb, if_pos hn0, if_neg hn4]
               exact ⟨_, _, rfl, rfl, by rw [hq]; exact hR.bq r32.2 r32.1⟩)
            | (have hq : fSheet w z n a1 a2 a3 = (-1000001, w, z, n) := by
                 unfold fSheet
                 rw [if_neg h1, if_neg hb, if_pos hn0, if_neg hn4]
               exact ⟨_, _, rfl, rfl, by rw [hq]; exact hR.bq r33.2 r33.1⟩)
            | (have hq : fSheet w z n a1 a2 a3 = (-1000001, w, z, n) := by
                 unfold fSheet
                 rw [if_neg h1, if_neg hb, if_pos hn0, if_neg hn4]
               exact ⟨_, _, rfl, rfl, by rw [hq]; exact hR.bq r34.2 r34.1⟩)
            | (have hq : fSheet w z n a1 a2 a3 = (-1000001, w, z, n) := by
                 unfold fSheet
                 rw [if_neg h1, if_neg hb, if_pos hn0, if_neg hn4]
               exact ⟨_, _, rfl, rfl, by rw [hq]; exact hR.bq r35.2 r35.1⟩)
            | (have hq : fSheet w z n a1 a2 a3 = (-1000001, w, z, n) := by
                 unfold fSheet
                 rw [if_neg h1, if_neg hb, if_pos hn0, if_neg hn4]
               exact ⟨_, _, rfl, rfl, by rw [hq]; exact hR.bq r36.2 r36.1⟩)
            | (have hq : fSheet w z n a1 a2 a3 = (-1000001, w, z, n) := by
                 unfold fSheet
                 rw [if_neg h1, if_neg hb, if_pos hn0, if_neg hn4]
               exact ⟨_, _, rfl, rfl, by rw [hq]; exact hR.bq r37.2 r37.1⟩)
            | (have hq : fSheet w z n a1 a2 a3 = (-1000001, w, z, n) := by
                 unfold fSheet
                 rw [if_neg h1, if_neg hb, if_pos hn0, if_neg hn4]
               exact ⟨_, _, rfl, rfl, by rw [hq]; exact hR.bq r38.2 r38.1⟩)
            | (have hq : fSheet w z n a1 a2 a3 = (-1000001, w, z, n) := by
                 unfold fSheet
                 rw [if_neg h1, if_neg hb, if_pos hn0, if_neg hn4]
               exact ⟨_, _, rfl, rfl, by rw [hq]; exact hR.bq r39.2 r39.1⟩)
      · have hn0 := h4
        refine x_aload_n hm rfl rfl ?_
        refine x_ldcI hm rfl (v := (-1000007 : Int32)) (by decide +kernel) ?_
        refine x_cVi hm rfl rfl (t7 (by decide +kernel)) (fun v7 M7 r7 => ?_)
        refine x_iret hm rfl rfl (by first | rfl | exact bI_nar | decide) ?_
        first
          | (have hq : fSheet w z n a1 a2 a3 = (-1000007, w, z, n) := by
               unfold fSheet
               rw [if_neg h1, if_neg hb, if_neg hn0]
             exact ⟨_, _, rfl, rfl, by rw [hq]; exact hR.bq r7.2 r7.1⟩)
          | (have hq : fSheet w z n a1 a2 a3 = (-1000007, w, z, n) := by
               unfold fSheet
               rw [if_neg h1, if_neg hb, if_neg hn0]
             exact ⟨_, _, rfl, rfl, by rw [hq]; exact hR.bq r1.2 r1.1⟩)
          | (have hq : fSheet w z n a1 a2 a3 = (-1000007, w, z, n) := by
               unfold fSheet
               rw [if_neg h1, if_neg hb, if_neg hn0]
             exact ⟨_, _, rfl, rfl, by rw [hq]; exact hR.bq r2.2 r2.1⟩)
          | (have hq : fSheet w z n a1 a2 a3 = (-1000007, w, z, n) := by
               unfold fSheet
               rw [if_neg h1, if_neg hb, if_neg hn0]
             exact ⟨_, _, rfl, rfl, by rw [hq]; exact hR.bq r3.2 r3.1⟩)
          | (have hq : fSheet w z n a1 a2 a3 = (-1000007, w, z, n) := by
               unfold fSheet
               rw [if_neg h1, if_neg hb, if_neg hn0]
             exact ⟨_, _, rfl, rfl, by rw [hq]; exact hR.bq r4.2 r4.1⟩)
          | (have hq : fSheet w z n a1 a2 a3 = (-1000007, w, z, n) := by
               unfold fSheet
               rw [if_neg h1, if_neg hb, if_neg hn0]
             exact ⟨_, _, rfl, rfl, by rw [hq]; exact hR.bq r5.2 r5.1⟩)
          | (have hq : fSheet w z n a1 a2 a3 = (-1000007, w, z, n) := by
               unfold fSheet
               rw [if_neg h1, if_neg hb, if_neg hn0]
             exact ⟨_, _, rfl, rfl, by rw [hq]; exact hR.bq r6.2 r6.1⟩)
          | (have hq : fSheet w z n a1 a2 a3 = (-1000007, w, z, n) := by
               unfold fSheet
               rw [if_neg h1, if_neg hb, if_neg hn0]
             exact ⟨_, _, rfl, rfl, by rw [hq]; exact hR.bq r8.2 r8.1⟩)
          | (have hq : fSheet w z n a1 a2 a3 = (-1000007, w, z, n) := by
               unfold fSheet
               rw [if_neg h1, if_neg hb, if_neg hn0]
             exact ⟨_, _, rfl, rfl, by rw [hq]; exact hR.bq r9.2 r9.1⟩)
          | (have hq : fSheet w z n a1 a2 a3 = (-1000007, w, z, n) := by
               unfold fSheet
               rw [if_neg h1, if_neg hb, if_neg hn0]
             exact ⟨_, _, rfl, rfl, by rw [hq]; exact hR.bq r10.2 r10.1⟩)
          | (have hq : fSheet w z n a1 a2 a3 = (-1000007, w, z, n) := by
               unfold fSheet
               rw [if_neg h1, if_neg hb, if_neg hn0]
             exact ⟨_, _, rfl, rfl, by rw [hq]; exact hR.bq r11.2 r11.1⟩)
          | (have hq : fSheet w z n a1 a2 a3 = (-1000007, w, z, n) := by
               unfold fSheet
               rw [if_neg h1, if_neg hb, if_neg hn0]
             exact ⟨_, _, rfl, rfl, by rw [hq]; exact hR.bq r12.2 r12.1⟩)
          | (have hq : fSheet w z n a1 a2 a3 = (-1000007, w, z, n) := by
               unfold fSheet
               rw [if_neg h1, if_neg hb, if_neg hn0]
             exact ⟨_, _, rfl, rfl, by rw [hq]; exact hR.bq r13.2 r13.1⟩)
          | (have hq : fSheet w z n a1 a2 a3 = (-1000007, w, z, n) := by
               unfold fSheet
               rw [if_neg h1, if_neg hb, if_neg hn0]
             exact ⟨_, _, rfl, rfl, by rw [hq]; exact hR.bq r14.2 r14.1⟩)
          | (have hq : fSheet w z n a1 a2 a3 = (-1000007, w, z, n) := by
               unfold fSheet
               rw [if_neg h1, if_neg hb, if_neg hn0]
             exact ⟨_, _, rfl, rfl, by rw [hq]; exact hR.bq r15.2 r15.1⟩)
          | (have hq : fSheet w z n a1 a2 a3 = (-1000007, w, z, n) := by
               unfold fSheet
               rw [if_neg h1, if_neg hb, if_neg hn0]
             exact ⟨_, _, rfl, rfl, by rw [hq]; exact hR.bq r16.2 r16.1⟩)
          | (have hq : fSheet w z n a1 a2 a3 = (-1000007, w, z, n) := by
               unfold fSheet
               rw [if_neg h1, if_neg hb, if_neg hn0]
             exact ⟨_, _, rfl, rfl, by rw [hq]; exact hR.bq r17.2 r17.1⟩)
          | (have hq : fSheet w z n a1 a2 a3 = (-1000007, w, z, n) := by
               unfold fSheet
               rw [if_neg h1, if_neg hb, if_neg hn0]
             exact ⟨_, _, rfl, rfl, by rw [hq]; exact hR.bq r18.2 r18.1⟩)
          | (have hq : fSheet w z n a1 a2 a3 = (-1000007, w, z, n) := by
               unfold fSheet
               rw [if_neg h1, if_neg hb, if_neg hn0]
             exact ⟨_, _, rfl, rfl, by rw [hq]; exact hR.bq r19.2 r19.1⟩)
          | (have hq : fSheet w z n a1 a2 a3 = (-1000007, w, z, n) := by
               unfold fSheet
               rw [if_neg h1, if_neg hb, if_neg hn0]
             exact ⟨_, _, rfl, rfl, by rw [hq]; exact hR.bq r20.2 r20.1⟩)
          | (have hq : fSheet w z n a1 a2 a3 = (-1000007, w, z, n) := by
               unfold fSheet
               rw [if_neg h1, if_neg hb, if_neg hn0]
             exact ⟨_, _, rfl, rfl, by rw [hq]; exact hR.bq r21.2 r21.1⟩)
          | (have hq : fSheet w z n a1 a2 a3 = (-1000007, w, z, n) := by
               unfold fSheet
               rw [if_neg h1, if_neg hb, if_neg hn0]
             exact ⟨_, _, rfl, rfl, by rw [hq]; exact hR.bq r22.2 r22.1⟩)
          | (have hq : fSheet w z n a1 a2 a3 = (-1000007, w, z, n) := by
               unfold fSheet
               rw [if_neg h1, if_neg hb, if_neg hn0]
             exact ⟨_, _, rfl, rfl, by rw [hq]; exact hR.bq r23.2 r23.1⟩)
          | (have hq : fSheet w z n a1 a2 a3 = (-1000007, w, z, n) := by
               unfold fSheet
               rw [if_neg h1, if_neg hb, if_neg hn0]
             exact ⟨_, _, rfl, rfl, by rw [hq]; exact hR.bq r24.2 r24.1⟩)
          | (have hq : fSheet w z n a1 a2 a3 = (-1000007, w, z, n) := by
               unfold fSheet
               rw [if_neg h1, if_neg hb, if_neg hn0]
             exact ⟨_, _, rfl, rfl, by rw [hq]; exact hR.bq r25.2 r25.1⟩)
          | (have hq : fSheet w z n a1 a2 a3 = (-1000007, w, z, n) := by
               unfold fSheet
               rw [if_neg h1, if_neg hb, if_neg hn0]
             exact ⟨_, _, rfl, rfl, by rw [hq]; exact hR.bq r26.2 r26.1⟩)
          | (have hq : fSheet w z n a1 a2 a3 = (-1000007, w, z, n) := by
               unfold fSheet
               rw [if_neg h1, if_neg hb, if_neg hn0]
             exact ⟨_, _, rfl, rfl, by rw [hq]; exact hR.bq r27.2 r27.1⟩)
          | (have hq : fSheet w z n a1 a2 a3 = (-1000007, w, z, n) := by
               unfold fSheet
               rw [if_neg h1, if_neg hb, if_neg hn0]
             exact ⟨_, _, rfl, rfl, by rw [hq]; exact hR.bq r28.2 r28.1⟩)
          | (have hq : fSheet w z n a1 a2 a3 = (-1000007, w, z, n) := by
               unfold fSheet
               rw [if_neg h1, if_neg hb, if_neg hn0]
             exact ⟨_, _, rfl, rfl, by rw [hq]; exact hR.bq r29.2 r29.1⟩)
          | (have hq : fSheet w z n a1 a2 a3 = (-1000007, w, z, n) := by
               unfold fSheet
               rw [if_neg h1, if_neg hb, if_neg hn0]
             exact ⟨_, _, rfl, rfl, by rw [hq]; exact hR.bq r30.2 r30.1⟩)
          | (have hq : fSheet w z n a1 a2 a3 = (-1000007, w, z, n) := by
               unfold fSheet
               rw [if_neg h1, if_neg hb, if_neg hn0]
             exact ⟨_, _, rfl, rfl, by rw [hq]; exact hR.bq r31.2 r31.1⟩)
          | (have hq : fSheet w z n a1 a2 a3 = (-1000007, w, z, n) := by
               unfold fSheet
               rw [if_neg h1, if_neg hb, if_neg hn0]
             exact ⟨_, _, rfl, rfl, by rw [hq]; exact hR.bq r32.2 r32.1⟩)
          | (have hq : fSheet w z n a1 a2 a3 = (-1000007, w, z, n) := by
               unfold fSheet
               rw [if_neg h1, if_neg hb, if_neg hn0]
             exact ⟨_, _, rfl, rfl, by rw [hq]; exact hR.bq r33.2 r33.1⟩)
          | (have hq : fSheet w z n a1 a2 a3 = (-1000007, w, z, n) := by
               unfold fSheet
               rw [if_neg h1, if_neg hb, if_neg hn0]
             exact ⟨_, _, rfl, rfl, by rw [hq]; exact hR.bq r34.2 r34.1⟩)
          | (have hq : fSheet w z n a1 a2 a3 = (-1000007, w, z, n) := by
               unfold fSheet
               rw [if_neg h1, if_neg hb, if_neg hn0]
             exact ⟨_, _, rfl, rfl, by rw [hq]; exact hR.bq r35.2 r35.1⟩)
          | (have hq : fSheet w z n a1 a2 a3 = (-1000007, w, z, n) := by
               unfold fSheet
               rw [if_neg h1, if_neg hb, if_neg hn0]
             exact ⟨_, _, rfl, rfl, by rw [hq]; exact hR.bq r36.2 r36.1⟩)
          | (have hq : fSheet w z n a1 a2 a3 = (-1000007, w, z, n) := by
               unfold fSheet
               rw [if_neg h1, if_neg hb, if_neg hn0]
             exact ⟨_, _, rfl, rfl, by rw [hq]; exact hR.bq r37.2 r37.1⟩)
          | (have hq : fSheet w z n a1 a2 a3 = (-1000007, w, z, n) := by
               unfold fSheet
               rw [if_neg h1, if_neg hb, if_neg hn0]
             exact ⟨_, _, rfl, rfl, by rw [hq]; exact hR.bq r38.2 r38.1⟩)
          | (have hq : fSheet w z n a1 a2 a3 = (-1000007, w, z, n) := by
               unfold fSheet
               rw [if_neg h1, if_neg hb, if_neg hn0]
             exact ⟨_, _, rfl, rfl, by rw [hq]; exact hR.bq r39.2 r39.1⟩)
    · refine x_iload_n hm rfl rfl ?_
      refine x_bipush hm rfl (v := nI 8) (by decide) ?_
      refine x_icmp_eq hm rfl (t := 36) rfl (fun h8 => ?_) (fun h8 => ?_)
      · have hb := okb_t (Or.inr (Or.inl h8))
        refine x_iload_n hm rfl rfl ?_
        refine x_if_ge hm rfl (t := 47) rfl (fun h9 => ?_) (fun h9 => ?_)
        · have hn0 := h9
          refine x_iload_n hm rfl rfl ?_
          refine x_bipush hm rfl (v := nI 40) (by decide) ?_
          refine x_icmp_le hm rfl (t := 60) rfl (fun h10 => ?_) (fun h10 => ?_)
          · have hn4 := h10
            obtain ⟨s, hs, hs3⟩ := le_k (by omega) (bI_ne0 h1)
            subst hs3
            have hq : fSheet w z n (nI s) a2 a3 = ((if a2 = 0 then nI 0 else a3), put1 w s a2, put1 z s (if a2 = 0 then nI 0 else a3), clr n s) := by
              unfold fSheet
              rw [if_neg h1, if_neg hb, if_pos hn0, if_pos hn4, jI_nat (by omega)]
            rw [hq]
            exact g116e hR hs
          · have hn4 := h10
            refine x_aload_n hm rfl rfl ?_
            refine x_ldcI hm rfl (v := (-1000001 : Int32)) (by decide +kernel) ?_
            refine x_cVi hm rfl rfl (t7 (by decide +kernel)) (fun v11 M11 r11 => ?_)
            refine x_iret hm rfl rfl (by first | rfl | exact bI_nar | decide) ?_
            first
              | (have hq : fSheet w z n a1 a2 a3 = (-1000001, w, z, n) := by
                   unfold fSheet
                   rw [if_neg h1, if_neg hb, if_pos hn0, if_neg hn4]
                 exact ⟨_, _, rfl, rfl, by rw [hq]; exact hR.bq r11.2 r11.1⟩)
              | (have hq : fSheet w z n a1 a2 a3 = (-1000001, w, z, n) := by
                   unfold fSheet
                   rw [if_neg h1, if_neg hb, if_pos hn0, if_neg hn4]
                 exact ⟨_, _, rfl, rfl, by rw [hq]; exact hR.bq r1.2 r1.1⟩)
              | (have hq : fSheet w z n a1 a2 a3 = (-1000001, w, z, n) := by
                   unfold fSheet
                   rw [if_neg h1, if_neg hb, if_pos hn0, if_neg hn4]
                 exact ⟨_, _, rfl, rfl, by rw [hq]; exact hR.bq r2.2 r2.1⟩)
              | (have hq : fSheet w z n a1 a2 a3 = (-1000001, w, z, n) := by
                   unfold fSheet
                   rw [if_neg h1, if_neg hb, if_pos hn0, if_neg hn4]
                 exact ⟨_, _, rfl, rfl, by rw [hq]; exact hR.bq r3.2 r3.1⟩)
              | (have hq : fSheet w z n a1 a2 a3 = (-1000001, w, z, n) := by
                   unfold fSheet
                   rw [if_neg h1, if_neg hb, if_pos hn0, if_neg hn4]
                 exact ⟨_, _, rfl, rfl, by rw [hq]; exact hR.bq r4.2 r4.1⟩)
              | (have hq : fSheet w z n a1 a2 a3 = (-1000001, w, z, n) := by
                   unfold fSheet
                   rw [if_neg h1, if_neg hb, if_pos hn0, if_neg hn4]
                 exact ⟨_, _, rfl, rfl, by rw [hq]; exact hR.bq r5.2 r5.1⟩)
              | (have hq : fSheet w z n a1 a2 a3 = (-1000001, w, z, n) := by
                   unfold fSheet
                   rw [if_neg h1, if_neg hb, if_pos hn0, if_neg hn4]
                 exact ⟨_, _, rfl, rfl, by rw [hq]; exact hR.bq r6.2 r6.1⟩)
              | (have hq : fSheet w z n a1 a2 a3 = (-1000001, w, z, n) := by
                   unfold fSheet
                   rw [if_neg h1, if_neg hb, if_pos hn0, if_neg hn4]
                 exact ⟨_, _, rfl, rfl, by rw [hq]; exact hR.bq r7.2 r7.1⟩)
              | (have hq : fSheet w z n a1 a2 a3 = (-1000001, w, z, n) := by
                   unfold fSheet
                   rw [if_neg h1, if_neg hb, if_pos hn0, if_neg hn4]
                 exact ⟨_, _, rfl, rfl, by rw [hq]; exact hR.bq r8.2 r8.1⟩)
              | (have hq : fSheet w z n a1 a2 a3 = (-1000001, w, z, n) := by
                   unfold fSheet
                   rw [if_neg h1, if_neg hb, if_pos hn0, if_neg hn4]
                 exact ⟨_, _, rfl, rfl, by rw [hq]; exact hR.bq r9.2 r9.1⟩)
              | (have hq : fSheet w z n a1 a2 a3 = (-1000001, w, z, n) := by
                   unfold fSheet
                   rw [if_neg h1, if_neg hb, if_pos hn0, if_neg hn4]
                 exact ⟨_, _, rfl, rfl, by rw [hq]; exact hR.bq r10.2 r10.1⟩)
              | (have hq : fSheet w z n a1 a2 a3 = (-1000001, w, z, n) := by
                   unfold fSheet
                   rw [if_neg h1, if_neg hb, if_pos hn0, if_neg hn4]
                 exact ⟨_, _, rfl, rfl, by rw [hq]; exact hR.bq r12.2 r12.1⟩)
              | (have hq : fSheet w z n a1 a2 a3 = (-1000001, w, z, n) := by
                   unfold fSheet
                   rw [if_neg h1, if_neg hb, if_pos hn0, if_neg hn4]
                 exact ⟨_, _, rfl, rfl, by rw [hq]; exact hR.bq r13.2 r13.1⟩)
              | (have hq : fSheet w z n a1 a2 a3 = (-1000001, w, z, n) := by
                   unfold fSheet
                   rw [if_neg h1, if_neg hb, if_pos hn0, if_neg hn4]
                 exact ⟨_, _, rfl, rfl, by rw [hq]; exact hR.bq r14.2 r14.1⟩)
              | (have hq : fSheet w z n a1 a2 a3 = (-1000001, w, z, n) := by
                   unfold fSheet
                   rw [if_neg h1, if_neg hb, if_pos hn0, if_neg hn4]
                 exact ⟨_, _, rfl, rfl, by rw [hq]; exact hR.bq r15.2 r15.1⟩)
              | (have hq : fSheet w z n a1 a2 a3 = (-1000001, w, z, n) := by
                   unfold fSheet
                   rw [if_neg h1, if_neg hb, if_pos hn0, if_neg hn4]
                 exact ⟨_, _, rfl, rfl, by rw [hq]; exact hR.bq r16.2 r16.1⟩)
              | (have hq : fSheet w z n a1 a2 a3 = (-1000001, w, z, n) := by
                   unfold fSheet
                   rw [if_neg h1, if_neg hb, if_pos hn0, if_neg hn4]
                 exact ⟨_, _, rfl, rfl, by rw [hq]; exact hR.bq r17.2 r17.1⟩)
              | (have hq : fSheet w z n a1 a2 a3 = (-1000001, w, z, n) := by
                   unfold fSheet
                   rw [if_neg h1, if_neg hb, if_pos hn0, if_neg hn4]
                 exact ⟨_, _, rfl, rfl, by rw [hq]; exact hR.bq r18.2 r18.1⟩)
              | (have hq : fSheet w z n a1 a2 a3 = (-1000001, w, z, n) := by
                   unfold fSheet
                   rw [if_neg h1, if_neg hb, if_pos hn0, if_neg hn4]
                 exact ⟨_, _, rfl, rfl, by rw [hq]; exact hR.bq r19.2 r19.1⟩)
              | (have hq : fSheet w z n a1 a2 a3 = (-1000001, w, z, n) := by
                   unfold fSheet
                   rw [if_neg h1, if_neg hb, if_pos hn0, if_neg hn4]
                 exact ⟨_, _, rfl, rfl, by rw [hq]; exact hR.bq r20.2 r20.1⟩)
              | (have hq : fSheet w z n a1 a2 a3 = (-1000001, w, z, n) := by
                   unfold fSheet
                   rw [if_neg h1, if_neg hb, if_pos hn0, if_neg hn4]
                 exact ⟨_, _, rfl, rfl, by rw [hq]; exact hR.bq r21.2 r21.1⟩)
              | (have hq : fSheet w z n a1 a2 a3 = (-1000001, w, z, n) := by
                   unfold fSheet
                   rw [if_neg h1, if_neg hb, if_pos hn0, if_neg hn4]
                 exact ⟨_, _, rfl, rfl, by rw [hq]; exact hR.bq r22.2 r22.1⟩)
              | (have hq : fSheet w z n a1 a2 a3 = (-1000001, w, z, n) := by
                   unfold fSheet
                   rw [if_neg h1, if_neg hb, if_pos hn0, if_neg hn4]
                 exact ⟨_, _, rfl, rfl, by rw [hq]; exact hR.bq r23.2 r23.1⟩)
              | (have hq : fSheet w z n a1 a2 a3 = (-1000001, w, z, n) := by
                   unfold fSheet
                   rw [if_neg h1, if_neg hb, if_pos hn0, if_neg hn4]
                 exact ⟨_, _, rfl, rfl, by rw [hq]; exact hR.bq r24.2 r24.1⟩)
              | (have hq : fSheet w z n a1 a2 a3 = (-1000001, w, z, n) := by
                   unfold fSheet
                   rw [if_neg h1, if_neg hb, if_pos hn0, if_neg hn4]
                 exact ⟨_, _, rfl, rfl, by rw [hq]; exact hR.bq r25.2 r25.1⟩)
              | (have hq : fSheet w z n a1 a2 a3 = (-1000001, w, z, n) := by
                   unfold fSheet
                   rw [if_neg h1, if_neg hb, if_pos hn0, if_neg hn4]
                 exact ⟨_, _, rfl, rfl, by rw [hq]; exact hR.bq r26.2 r26.1⟩)
              | (have hq : fSheet w z n a1 a2 a3 = (-1000001, w, z, n) := by
                   unfold fSheet
                   rw [if_neg h1, if_neg hb, if_pos hn0, if_neg hn4]
                 exact ⟨_, _, rfl, rfl, by rw [hq]; exact hR.bq r27.2 r27.1⟩)
              | (have hq : fSheet w z n a1 a2 a3 = (-1000001, w, z, n) := by
                   unfold fSheet
                   rw [if_neg h1, if_neg hb, if_pos hn0, if_neg hn4]
                 exact ⟨_, _, rfl, rfl, by rw [hq]; exact hR.bq r28.2 r28.1⟩)
              | (have hq : fSheet w z n a1 a2 a3 = (-1000001, w, z, n) := by
                   unfold fSheet
                   rw [if_neg h1, if_neg hb, if_pos hn0, if_neg hn4]
                 exact ⟨_, _, rfl, rfl, by rw [hq]; exact hR.bq r29.2 r29.1⟩)
              | (have hq : fSheet w z n a1 a2 a3 = (-1000001, w, z, n) := by
                   unfold fSheet
                   rw [if_neg h1, if_neg hb, if_pos hn0, if_neg hn4]
                 exact ⟨_, _, rfl, rfl, by rw [hq]; exact hR.bq r30.2 r30.1⟩)
              | (have hq : fSheet w z n a1 a2 a3 = (-1000001, w, z, n) := by
                   unfold fSheet
                   rw [if_neg h1, if_neg hb, if_pos hn0, if_neg hn4]
                 exact ⟨_, _, rfl, rfl, by rw [hq]; exact hR.bq r31.2 r31.1⟩)
              | (have hq : fSheet w z n a1 a2 a3 = (-1000001, w, z, n) := by
                   unfold fSheet
                   rw [if_neg h1, if_neg hb, if_pos hn0, if_neg hn4]
                 exact ⟨_, _, rfl, rfl, by rw [hq]; exact hR.bq r32.2 r32.1⟩)
              | (have hq : fSheet w z n a1 a2 a3 = (-1000001, w, z, n) := by
                   unfold fSheet
                   rw [if_neg h1, if_neg hb, if_pos hn0, if_neg hn4]
                 exact ⟨_, _, rfl, rfl, by rw [hq]; exact hR.bq r33.2 r33.1⟩)
              | (have hq : fSheet w z n a1 a2 a3 = (-1000001, w, z, n) := by
                   unfold fSheet
                   rw [if_neg h1, if_neg hb, if_pos hn0, if_neg hn4]
                 exact ⟨_, _, rfl, rfl, by rw [hq]; exact hR.bq r34.2 r34.1⟩)
              | (have hq : fSheet w z n a1 a2 a3 = (-1000001, w, z, n) := by
                   unfold fSheet
                   rw [if_neg h1, if_neg hb, if_pos hn0, if_neg hn4]
                 exact ⟨_, _, rfl, rfl, by rw [hq]; exact hR.bq r35.2 r35.1⟩)
              | (have hq : fSheet w z n a1 a2 a3 = (-1000001, w, z, n) := by
                   unfold fSheet
                   rw [if_neg h1, if_neg hb, if_pos hn0, if_neg hn4]
                 exact ⟨_, _, rfl, rfl, by rw [hq]; exact hR.bq r36.2 r36.1⟩)
              | (have hq : fSheet w z n a1 a2 a3 = (-1000001, w, z, n) := by
                   unfold fSheet
                   rw [if_neg h1, if_neg hb, if_pos hn0, if_neg hn4]
                 exact ⟨_, _, rfl, rfl, by rw [hq]; exact hR.bq r37.2 r37.1⟩)
              | (have hq : fSheet w z n a1 a2 a3 = (-1000001, w, z, n) := by
                   unfold fSheet
                   rw [if_neg h1, if_neg hb, if_pos hn0, if_neg hn4]
                 exact ⟨_, _, rfl, rfl, by rw [hq]; exact hR.bq r38.2 r38.1⟩)
              | (have hq : fSheet w z n a1 a2 a3 = (-1000001, w, z, n) := by
                   unfold fSheet
                   rw [if_neg h1, if_neg hb, if_pos hn0, if_neg hn4]
                 exact ⟨_, _, rfl, rfl, by rw [hq]; exact hR.bq r39.2 r39.1⟩)
        · have hn0 := h9
          refine x_aload_n hm rfl rfl ?_
          refine x_ldcI hm rfl (v := (-1000007 : Int32)) (by decide +kernel) ?_
          refine x_cVi hm rfl rfl (t7 (by decide +kernel)) (fun v12 M12 r12 => ?_)
          refine x_iret hm rfl rfl (by first | rfl | exact bI_nar | decide) ?_
          first
            | (have hq : fSheet w z n a1 a2 a3 = (-1000007, w, z, n) := by
                 unfold fSheet
                 rw [if_neg h1, if_neg hb, if_neg hn0]
               exact ⟨_, _, rfl, rfl, by rw [hq]; exact hR.bq r12.2 r12.1⟩)
            | (have hq : fSheet w z n a1 a2 a3 = (-1000007, w, z, n) := by
                 unfold fSheet
                 rw [if_neg h1, if_neg hb, if_neg hn0]
               exact ⟨_, _, rfl, rfl, by rw [hq]; exact hR.bq r1.2 r1.1⟩)
            | (have hq : fSheet w z n a1 a2 a3 = (-1000007, w, z, n) := by
                 unfold fSheet
                 rw [if_neg h1, if_neg hb, if_neg hn0]
               exact ⟨_, _, rfl, rfl, by rw [hq]; exact hR.bq r2.2 r2.1⟩)
            | (have hq : fSheet w z n a1 a2 a3 = (-1000007, w, z, n) := by
                 unfold fSheet
                 rw [if_neg h1, if_neg hb, if_neg hn0]
               exact ⟨_, _, rfl, rfl, by rw [hq]; exact hR.bq r3.2 r3.1⟩)
            | (have hq : fSheet w z n a1 a2 a3 = (-1000007, w, z, n) := by
                 unfold fSheet
                 rw [if_neg h1, if_neg hb, if_neg hn0]
               exact ⟨_, _, rfl, rfl, by rw [hq]; exact hR.bq r4.2 r4.1⟩)
            | (have hq : fSheet w z n a1 a2 a3 = (-1000007, w, z, n) := by
                 unfold fSheet
                 rw [if_neg h1, if_neg hb, if_neg hn0]
               exact ⟨_, _, rfl, rfl, by rw [hq]; exact hR.bq r5.2 r5.1⟩)
            | (have hq : fSheet w z n a1 a2 a3 = (-1000007, w, z, n) := by
                 unfold fSheet
                 rw [if_neg h1, if_neg hb, if_neg hn0]
               exact ⟨_, _, rfl, rfl, by rw [hq]; exact hR.bq r6.2 r6.1⟩)
            | (have hq : fSheet w z n a1 a2 a3 = (-1000007, w, z, n) := by
                 unfold fSheet
                 rw [if_neg h1, if_neg hb, if_neg hn0]
               exact ⟨_, _, rfl, rfl, by rw [hq]; exact hR.bq r7.2 r7.1⟩)
            | (have hq : fSheet w z n a1 a2 a3 = (-1000007, w, z, n) := by
                 unfold fSheet
                 rw [if_neg h1, if_neg hb, if_neg hn0]
               exact ⟨_, _, rfl, rfl, by rw [hq]; exact hR.bq r8.2 r8.1⟩)
            | (have hq : fSheet w z n a1 a2 a3 = (-1000007, w, z, n) := by
                 unfold fSheet
                 rw [if_neg h1, if_neg hb, if_neg hn0]
               exact ⟨_, _, rfl, rfl, by rw [hq]; exact hR.bq r9.2 r9.1⟩)
            | (have hq : fSheet w z n a1 a2 a3 = (-1000007, w, z, n) := by
                 unfold fSheet
                 rw [if_neg h1, if_neg hb, if_neg hn0]
               exact ⟨_, _, rfl, rfl, by rw [hq]; exact hR.bq r10.2 r10.1⟩)
            | (have hq : fSheet w z n a1 a2 a3 = (-1000007, w, z, n) := by
                 unfold fSheet
                 rw [if_neg h1, if_neg hb, if_neg hn0]
               exact ⟨_, _, rfl, rfl, by rw [hq]; exact hR.bq r11.2 r11.1⟩)
            | (have hq : fSheet w z n a1 a2 a3 = (-1000007, w, z, n) := by
                 unfold fSheet
                 rw [if_neg h1, if_neg hb, if_neg hn0]
               exact ⟨_, _, rfl, rfl, by rw [hq]; exact hR.bq r13.2 r13.1⟩)
            | (have hq : fSheet w z n a1 a2 a3 = (-1000007, w, z, n) := by
                 unfold fSheet
                 rw [if_neg h1, if_neg hb, if_neg hn0]
               exact ⟨_, _, rfl, rfl, by rw [hq]; exact hR.bq r14.2 r14.1⟩)
            | (have hq : fSheet w z n a1 a2 a3 = (-1000007, w, z, n) := by
                 unfold fSheet
                 rw [if_neg h1, if_neg hb, if_neg hn0]
               exact ⟨_, _, rfl, rfl, by rw [hq]; exact hR.bq r15.2 r15.1⟩)
            | (have hq : fSheet w z n a1 a2 a3 = (-1000007, w, z, n) := by
                 unfold fSheet
                 rw [if_neg h1, if_neg hb, if_neg hn0]
               exact ⟨_, _, rfl, rfl, by rw [hq]; exact hR.bq r16.2 r16.1⟩)
            | (have hq : fSheet w z n a1 a2 a3 = (-1000007, w, z, n) := by
                 unfold fSheet
                 rw [if_neg h1, if_neg hb, if_neg hn0]
               exact ⟨_, _, rfl, rfl, by rw [hq]; exact hR.bq r17.2 r17.1⟩)
            | (have hq : fSheet w z n a1 a2 a3 = (-1000007, w, z, n) := by
                 unfold fSheet
                 rw [if_neg h1, if_neg hb, if_neg hn0]
               exact ⟨_, _, rfl, rfl, by rw [hq]; exact hR.bq r18.2 r18.1⟩)
            | (have hq : fSheet w z n a1 a2 a3 = (-1000007, w, z, n) := by
                 unfold fSheet
                 rw [if_neg h1, if_neg hb, if_neg hn0]
               exact ⟨_, _, rfl, rfl, by rw [hq]; exact hR.bq r19.2 r19.1⟩)
            | (have hq : fSheet w z n a1 a2 a3 = (-1000007, w, z, n) := by
                 unfold fSheet
                 rw [if_neg h1, if_neg hb, if_neg hn0]
               exact ⟨_, _, rfl, rfl, by rw [hq]; exact hR.bq r20.2 r20.1⟩)
            | (have hq : fSheet w z n a1 a2 a3 = (-1000007, w, z, n) := by
                 unfold fSheet
                 rw [if_neg h1, if_neg hb, if_neg hn0]
               exact ⟨_, _, rfl, rfl, by rw [hq]; exact hR.bq r21.2 r21.1⟩)
            | (have hq : fSheet w z n a1 a2 a3 = (-1000007, w, z, n) := by
                 unfold fSheet
                 rw [if_neg h1, if_neg hb, if_neg hn0]
               exact ⟨_, _, rfl, rfl, by rw [hq]; exact hR.bq r22.2 r22.1⟩)
            | (have hq : fSheet w z n a1 a2 a3 = (-1000007, w, z, n) := by
                 unfold fSheet
                 rw [if_neg h1, if_neg hb, if_neg hn0]
               exact ⟨_, _, rfl, rfl, by rw [hq]; exact hR.bq r23.2 r23.1⟩)
            | (have hq : fSheet w z n a1 a2 a3 = (-1000007, w, z, n) := by
                 unfold fSheet
                 rw [if_neg h1, if_neg hb, if_neg hn0]
               exact ⟨_, _, rfl, rfl, by rw [hq]; exact hR.bq r24.2 r24.1⟩)
            | (have hq : fSheet w z n a1 a2 a3 = (-1000007, w, z, n) := by
                 unfold fSheet
                 rw [if_neg h1, if_neg hb, if_neg hn0]
               exact ⟨_, _, rfl, rfl, by rw [hq]; exact hR.bq r25.2 r25.1⟩)
            | (have hq : fSheet w z n a1 a2 a3 = (-1000007, w, z, n) := by
                 unfold fSheet
                 rw [if_neg h1, if_neg hb, if_neg hn0]
               exact ⟨_, _, rfl, rfl, by rw [hq]; exact hR.bq r26.2 r26.1⟩)
            | (have hq : fSheet w z n a1 a2 a3 = (-1000007, w, z, n) := by
                 unfold fSheet
                 rw [if_neg h1, if_neg hb, if_neg hn0]
               exact ⟨_, _, rfl, rfl, by rw [hq]; exact hR.bq r27.2 r27.1⟩)
            | (have hq : fSheet w z n a1 a2 a3 = (-1000007, w, z, n) := by
                 unfold fSheet
                 rw [if_neg h1, if_neg hb, if_neg hn0]
               exact ⟨_, _, rfl, rfl, by rw [hq]; exact hR.bq r28.2 r28.1⟩)
            | (have hq : fSheet w z n a1 a2 a3 = (-1000007, w, z, n) := by
                 unfold fSheet
                 rw [if_neg h1, if_neg hb, if_neg hn0]
               exact ⟨_, _, rfl, rfl, by rw [hq]; exact hR.bq r29.2 r29.1⟩)
            | (have hq : fSheet w z n a1 a2 a3 = (-1000007, w, z, n) := by
                 unfold fSheet
                 rw [if_neg h1, if_neg hb, if_neg hn0]
               exact ⟨_, _, rfl, rfl, by rw [hq]; exact hR.bq r30.2 r30.1⟩)
            | (have hq : fSheet w z n a1 a2 a3 = (-1000007, w, z, n) := by
                 unfold fSheet
                 rw [if_neg h1, if_neg hb, if_neg hn0]
               exact ⟨_, _, rfl, rfl, by rw [hq]; exact hR.bq r31.2 r31.1⟩)
            | (have hq : fSheet w z n a1 a2 a3 = (-1000007, w, z, n) := by
                 unfold fSheet
                 rw [if_neg h1, if_neg hb, if_neg hn0]
               exact ⟨_, _, rfl, rfl, by rw [hq]; exact hR.bq r32.2 r32.1⟩)
            | (have hq : fSheet w z n a1 a2 a3 = (-1000007, w, z, n) := by
                 unfold fSheet
                 rw [if_neg h1, if_neg hb, if_neg hn0]
               exact ⟨_, _, rfl, rfl, by rw [hq]; exact hR.bq r33.2 r33.1⟩)
            | (have hq : fSheet w z n a1 a2 a3 = (-1000007, w, z, n) := by
                 unfold fSheet
                 rw [if_neg h1, if_neg hb, if_neg hn0]
               exact ⟨_, _, rfl, rfl, by rw [hq]; exact hR.bq r34.2 r34.1⟩)
            | (have hq : fSheet w z n a1 a2 a3 = (-1000007, w, z, n) := by
                 unfold fSheet
                 rw [if_neg h1, if_neg hb, if_neg hn0]
               exact ⟨_, _, rfl, rfl, by rw [hq]; exact hR.bq r35.2 r35.1⟩)
            | (have hq : fSheet w z n a1 a2 a3 = (-1000007, w, z, n) := by
                 unfold fSheet
                 rw [if_neg h1, if_neg hb, if_neg hn0]
               exact ⟨_, _, rfl, rfl, by rw [hq]; exact hR.bq r36.2 r36.1⟩)
            | (have hq : fSheet w z n a1 a2 a3 = (-1000007, w, z, n) := by
                 unfold fSheet
                 rw [if_neg h1, if_neg hb, if_neg hn0]
               exact ⟨_, _, rfl, rfl, by rw [hq]; exact hR.bq r37.2 r37.1⟩)
            | (have hq : fSheet w z n a1 a2 a3 = (-1000007, w, z, n) := by
                 unfold fSheet
                 rw [if_neg h1, if_neg hb, if_neg hn0]
               exact ⟨_, _, rfl, rfl, by rw [hq]; exact hR.bq r38.2 r38.1⟩)
            | (have hq : fSheet w z n a1 a2 a3 = (-1000007, w, z, n) := by
                 unfold fSheet
                 rw [if_neg h1, if_neg hb, if_neg hn0]
               exact ⟨_, _, rfl, rfl, by rw [hq]; exact hR.bq r39.2 r39.1⟩)
      · refine x_iload_n hm rfl rfl ?_
        refine x_bipush hm rfl (v := nI 16) (by decide) ?_
        refine x_icmp_eq hm rfl (t := 36) rfl (fun h13 => ?_) (fun h13 => ?_)
        · have hb := okb_t (Or.inr (Or.inr (Or.inl h13)))
          refine x_iload_n hm rfl rfl ?_
          refine x_if_ge hm rfl (t := 47) rfl (fun h14 => ?_) (fun h14 => ?_)
          · have hn0 := h14
            refine x_iload_n hm rfl rfl ?_
            refine x_bipush hm rfl (v := nI 40) (by decide) ?_
            refine x_icmp_le hm rfl (t := 60) rfl (fun h15 => ?_) (fun h15 => ?_)
            · have hn4 := h15
              obtain ⟨s, hs, hs3⟩ := le_k (by omega) (bI_ne0 h1)
              subst hs3
              have hq : fSheet w z n (nI s) a2 a3 = ((if a2 = 0 then nI 0 else a3), put1 w s a2, put1 z s (if a2 = 0 then nI 0 else a3), clr n s) := by
                unfold fSheet
                rw [if_neg h1, if_neg hb, if_pos hn0, if_pos hn4, jI_nat (by omega)]
              rw [hq]
              exact g116e hR hs
            · have hn4 := h15
              refine x_aload_n hm rfl rfl ?_
              refine x_ldcI hm rfl (v := (-1000001 : Int32)) (by decide +kernel) ?_
              refine x_cVi hm rfl rfl (t7 (by decide +kernel)) (fun v16 M16 r16 => ?_)
              refine x_iret hm rfl rfl (by first | rfl | exact bI_nar | decide) ?_
              first
                | (have hq : fSheet w z n a1 a2 a3 = (-1000001, w, z, n) := by
                     unfold fSheet
                     rw [if_neg h1, if_neg hb, if_pos hn0, if_neg hn4]
                   exact ⟨_, _, rfl, rfl, by rw [hq]; exact hR.bq r16.2 r16.1⟩)
                | (have hq : fSheet w z n a1 a2 a3 = (-1000001, w, z, n) := by
                     unfold fSheet
                     rw [if_neg h1, if_neg hb, if_pos hn0, if_neg hn4]
                   exact ⟨_, _, rfl, rfl, by rw [hq]; exact hR.bq r1.2 r1.1⟩)
                | (have hq : fSheet w z n a1 a2 a3 = (-1000001, w, z, n) := by
                     unfold fSheet
                     rw [if_neg h1, if_neg hb, if_pos hn0, if_neg hn4]
                   exact ⟨_, _, rfl, rfl, by rw [hq]; exact hR.bq r2.2 r2.1⟩)
                | (have hq : fSheet w z n a1 a2 a3 = (-1000001, w, z, n) := by
                     unfold fSheet
                     rw [if_neg h1, if_neg hb, if_pos hn0, if_neg hn4]
                   exact ⟨_, _, rfl, rfl, by rw [hq]; exact hR.bq r3.2 r3.1⟩)
                | (have hq : fSheet w z n a1 a2 a3 = (-1000001, w, z, n) := by
                     unfold fSheet
                     rw [if_neg h1, if_neg hb, if_pos hn0, if_neg hn4]
                   exact ⟨_, _, rfl, rfl, by rw [hq]; exact hR.bq r4.2 r4.1⟩)
                | (have hq : fSheet w z n a1 a2 a3 = (-1000001, w, z, n) := by
                     unfold fSheet
                     rw [if_neg h1, if_neg hb, if_pos hn0, if_neg hn4]
                   exact ⟨_, _, rfl, rfl, by rw [hq]; exact hR.bq r5.2 r5.1⟩)
                | (have hq : fSheet w z n a1 a2 a3 = (-1000001, w, z, n) := by
                     unfold fSheet
                     rw [if_neg h1, if_neg hb, if_pos hn0, if_neg hn4]
                   exact ⟨_, _, rfl, rfl, by rw [hq]; exact hR.bq r6.2 r6.1⟩)
                | (have hq : fSheet w z n a1 a2 a3 = (-1000001, w, z, n) := by
                     unfold fSheet
                     rw [if_neg h1, if_neg hb, if_pos hn0, if_neg hn4]
                   exact ⟨_, _, rfl, rfl, by rw [hq]; exact hR.bq r7.2 r7.1⟩)
                | (have hq : fSheet w z n a1 a2 a3 = (-1000001, w, z, n) := by
                     unfold fSheet
                     rw [if_neg h1, if_neg hb, if_pos hn0, if_neg hn4]
                   exact ⟨_, _, rfl, rfl, by rw [hq]; exact hR.bq r8.2 r8.1⟩)
                | (have hq : fSheet w z n a1 a2 a3 = (-1000001, w, z, n) := by
                     unfold fSheet
                     rw [if_neg h1, if_neg hb, if_pos hn0, if_neg hn4]
                   exact ⟨_, _, rfl, rfl, by rw [hq]; exact hR.bq r9.2 r9.1⟩)
                | (have hq : fSheet w z n a1 a2 a3 = (-1000001, w, z, n) := by
                     unfold fSheet
                     rw [if_neg h1, if_neg hb, if_pos hn0, if_neg hn4]
                   exact ⟨_, _, rfl, rfl, by rw [hq]; exact hR.bq r10.2 r10.1⟩)
                | (have hq : fSheet w z n a1 a2 a3 = (-1000001, w, z, n) := by
                     unfold fSheet
                     rw [if_neg h1, if_neg hb, if_pos hn0, if_neg hn4]
                   exact ⟨_, _, rfl, rfl, by rw [hq]; exact hR.bq r11.2 r11.1⟩)
                | (have hq : fSheet w z n a1 a2 a3 = (-1000001, w, z, n) := by
                     unfold fSheet
                     rw [if_neg h1, if_neg hb, if_pos hn0, if_neg hn4]
                   exact ⟨_, _, rfl, rfl, by rw [hq]; exact hR.bq r12.2 r12.1⟩)
                | (have hq : fSheet w z n a1 a2 a3 = (-1000001, w, z, n) := by
                     unfold fSheet
                     rw [if_neg h1, if_neg hb, if_pos hn0, if_neg hn4]
                   exact ⟨_, _, rfl, rfl, by rw [hq]; exact hR.bq r13.2 r13.1⟩)
                | (have hq : fSheet w z n a1 a2 a3 = (-1000001, w, z, n) := by
                     unfold fSheet
                     rw [if_neg h1, if_neg hb, if_pos hn0, if_neg hn4]
                   exact ⟨_, _, rfl, rfl, by rw [hq]; exact hR.bq r14.2 r14.1⟩)
                | (have hq : fSheet w z n a1 a2 a3 = (-1000001, w, z, n) := by
                     unfold fSheet
                     rw [if_neg h1, if_neg hb, if_pos hn0, if_neg hn4]
                   exact ⟨_, _, rfl, rfl, by rw [hq]; exact hR.bq r15.2 r15.1⟩)
                | (have hq : fSheet w z n a1 a2 a3 = (-1000001, w, z, n) := by
                     unfold fSheet
                     rw [if_neg h1, if_neg hb, if_pos hn0, if_neg hn4]
                   exact ⟨_, _, rfl, rfl, by rw [hq]; exact hR.bq r17.2 r17.1⟩)
                | (have hq : fSheet w z n a1 a2 a3 = (-1000001, w, z, n) := by
                     unfold fSheet
                     rw [if_neg h1, if_neg hb, if_pos hn0, if_neg hn4]
                   exact ⟨_, _, rfl, rfl, by rw [hq]; exact hR.bq r18.2 r18.1⟩)
                | (have hq : fSheet w z n a1 a2 a3 = (-1000001, w, z, n) := by
                     unfold fSheet
                     rw [if_neg h1, if_neg hb, if_pos hn0, if_neg hn4]
                   exact ⟨_, _, rfl, rfl, by rw [hq]; exact hR.bq r19.2 r19.1⟩)
                | (have hq : fSheet w z n a1 a2 a3 = (-1000001, w, z, n) := by
                     unfold fSheet
                     rw [if_neg h1, if_neg hb, if_pos hn0, if_neg hn4]
                   exact ⟨_, _, rfl, rfl, by rw [hq]; exact hR.bq r20.2 r20.1⟩)
                | (have hq : fSheet w z n a1 a2 a3 = (-1000001, w, z, n) := by
                     unfold fSheet
                     rw [if_neg h1, if_neg hb, if_pos hn0, if_neg hn4]
                   exact ⟨_, _, rfl, rfl, by rw [hq]; exact hR.bq r21.2 r21.1⟩)
                | (have hq : fSheet w z n a1 a2 a3 = (-1000001, w, z, n) := by
                     unfold fSheet
                     rw [if_neg h1, if_neg hb, if_pos hn0, if_neg hn4]
                   exact ⟨_, _, rfl, rfl, by rw [hq]; exact hR.bq r22.2 r22.1⟩)
                | (have hq : fSheet w z n a1 a2 a3 = (-1000001, w, z, n) := by
                     unfold fSheet
                     rw [if_neg h1, if_neg hb, if_pos hn0, if_neg hn4]
                   exact ⟨_, _, rfl, rfl, by rw [hq]; exact hR.bq r23.2 r23.1⟩)
                | (have hq : fSheet w z n a1 a2 a3 = (-1000001, w, z, n) := by
                     unfold fSheet
                     rw [if_neg h1, if_neg hb, if_pos hn0, if_neg hn4]
                   exact ⟨_, _, rfl, rfl, by rw [hq]; exact hR.bq r24.2 r24.1⟩)
                | (have hq : fSheet w z n a1 a2 a3 = (-1000001, w, z, n) := by
                     unfold fSheet
                     rw [if_neg h1, if_neg hb, if_pos hn0, if_neg hn4]
                   exact ⟨_, _, rfl, rfl, by rw [hq]; exact hR.bq r25.2 r25.1⟩)
                | (have hq : fSheet w z n a1 a2 a3 = (-1000001, w, z, n) := by
                     unfold fSheet
                     rw [if_neg h1, if_neg hb, if_pos hn0, if_neg hn4]
                   exact ⟨_, _, rfl, rfl, by rw [hq]; exact hR.bq r26.2 r26.1⟩)
                | (have hq : fSheet w z n a1 a2 a3 = (-1000001, w, z, n) := by
                     unfold fSheet
                     rw [if_neg h1, if_neg hb, if_pos hn0, if_neg hn4]
                   exact ⟨_, _, rfl, rfl, by rw [hq]; exact hR.bq r27.2 r27.1⟩)
                | (have hq : fSheet w z n a1 a2 a3 = (-1000001, w, z, n) := by
                     unfold fSheet
                     rw [if_neg h1, if_neg hb, if_pos hn0, if_neg hn4]
                   exact ⟨_, _, rfl, rfl, by rw [hq]; exact hR.bq r28.2 r28.1⟩)
                | (have hq : fSheet w z n a1 a2 a3 = (-1000001, w, z, n) := by
                     unfold fSheet
                     rw [if_neg h1, if_neg hb, if_pos hn0, if_neg hn4]
                   exact ⟨_, _, rfl, rfl, by rw [hq]; exact hR.bq r29.2 r29.1⟩)
                | (have hq : fSheet w z n a1 a2 a3 = (-1000001, w, z, n) := by
                     unfold fSheet
                     rw [if_neg h1, if_neg hb, if_pos hn0, if_neg hn4]
                   exact ⟨_, _, rfl, rfl, by rw [hq]; exact hR.bq r30.2 r30.1⟩)
                | (have hq : fSheet w z n a1 a2 a3 = (-1000001, w, z, n) := by
                     unfold fSheet
                     rw [if_neg h1, if_neg hb, if_pos hn0, if_neg hn4]
                   exact ⟨_, _, rfl, rfl, by rw [hq]; exact hR.bq r31.2 r31.1⟩)
                | (have hq : fSheet w z n a1 a2 a3 = (-1000001, w, z, n) := by
                     unfold fSheet
                     rw [if_neg h1, if_neg hb, if_pos hn0, if_neg hn4]
                   exact ⟨_, _, rfl, rfl, by rw [hq]; exact hR.bq r32.2 r32.1⟩)
                | (have hq : fSheet w z n a1 a2 a3 = (-1000001, w, z, n) := by
                     unfold fSheet
                     rw [if_neg h1, if_neg hb, if_pos hn0, if_neg hn4]
                   exact ⟨_, _, rfl, rfl, by rw [hq]; exact hR.bq r33.2 r33.1⟩)
                | (have hq : fSheet w z n a1 a2 a3 = (-1000001, w, z, n) := by
                     unfold fSheet
                     rw [if_neg h1, if_neg hb, if_pos hn0, if_neg hn4]
                   exact ⟨_, _, rfl, rfl, by rw [hq]; exact hR.bq r34.2 r34.1⟩)
                | (have hq : fSheet w z n a1 a2 a3 = (-1000001, w, z, n) := by
                     unfold fSheet
                     rw [if_neg h1, if_neg hb, if_pos hn0, if_neg hn4]
                   exact ⟨_, _, rfl, rfl, by rw [hq]; exact hR.bq r35.2 r35.1⟩)
                | (have hq : fSheet w z n a1 a2 a3 = (-1000001, w, z, n) := by
                     unfold fSheet
                     rw [if_neg h1, if_neg hb, if_pos hn0, if_neg hn4]
                   exact ⟨_, _, rfl, rfl, by rw [hq]; exact hR.bq r36.2 r36.1⟩)
                | (have hq : fSheet w z n a1 a2 a3 = (-1000001, w, z, n) := by
                     unfold fSheet
                     rw [if_neg h1, if_neg hb, if_pos hn0, if_neg hn4]
                   exact ⟨_, _, rfl, rfl, by rw [hq]; exact hR.bq r37.2 r37.1⟩)
                | (have hq : fSheet w z n a1 a2 a3 = (-1000001, w, z, n) := by
                     unfold fSheet
                     rw [if_neg h1, if_neg hb, if_pos hn0, if_neg hn4]
                   exact ⟨_, _, rfl, rfl, by rw [hq]; exact hR.bq r38.2 r38.1⟩)
                | (have hq : fSheet w z n a1 a2 a3 = (-1000001, w, z, n) := by
                     unfold fSheet
                     rw [if_neg h1, if_neg hb, if_pos hn0, if_neg hn4]
                   exact ⟨_, _, rfl, rfl, by rw [hq]; exact hR.bq r39.2 r39.1⟩)
          · have hn0 := h14
            refine x_aload_n hm rfl rfl ?_
            refine x_ldcI hm rfl (v := (-1000007 : Int32)) (by decide +kernel) ?_
            refine x_cVi hm rfl rfl (t7 (by decide +kernel)) (fun v17 M17 r17 => ?_)
            refine x_iret hm rfl rfl (by first | rfl | exact bI_nar | decide) ?_
            first
              | (have hq : fSheet w z n a1 a2 a3 = (-1000007, w, z, n) := by
                   unfold fSheet
                   rw [if_neg h1, if_neg hb, if_neg hn0]
                 exact ⟨_, _, rfl, rfl, by rw [hq]; exact hR.bq r17.2 r17.1⟩)
              | (have hq : fSheet w z n a1 a2 a3 = (-1000007, w, z, n) := by
                   unfold fSheet
                   rw [if_neg h1, if_neg hb, if_neg hn0]
                 exact ⟨_, _, rfl, rfl, by rw [hq]; exact hR.bq r1.2 r1.1⟩)
              | (have hq : fSheet w z n a1 a2 a3 = (-1000007, w, z, n) := by
                   unfold fSheet
                   rw [if_neg h1, if_neg hb, if_neg hn0]
                 exact ⟨_, _, rfl, rfl, by rw [hq]; exact hR.bq r2.2 r2.1⟩)
              | (have hq : fSheet w z n a1 a2 a3 = (-1000007, w, z, n) := by
                   unfold fSheet
                   rw [if_neg h1, if_neg hb, if_neg hn0]
                 exact ⟨_, _, rfl, rfl, by rw [hq]; exact hR.bq r3.2 r3.1⟩)
              | (have hq : fSheet w z n a1 a2 a3 = (-1000007, w, z, n) := by
                   unfold fSheet
                   rw [if_neg h1, if_neg hb, if_neg hn0]
                 exact ⟨_, _, rfl, rfl, by rw [hq]; exact hR.bq r4.2 r4.1⟩)
              | (have hq : fSheet w z n a1 a2 a3 = (-1000007, w, z, n) := by
                   unfold fSheet
                   rw [if_neg h1, if_neg hb, if_neg hn0]
                 exact ⟨_, _, rfl, rfl, by rw [hq]; exact hR.bq r5.2 r5.1⟩)
              | (have hq : fSheet w z n a1 a2 a3 = (-1000007, w, z, n) := by
                   unfold fSheet
                   rw [if_neg h1, if_neg hb, if_neg hn0]
                 exact ⟨_, _, rfl, rfl, by rw [hq]; exact hR.bq r6.2 r6.1⟩)
              | (have hq : fSheet w z n a1 a2 a3 = (-1000007, w, z, n) := by
                   unfold fSheet
                   rw [if_neg h1, if_neg hb, if_neg hn0]
                 exact ⟨_, _, rfl, rfl, by rw [hq]; exact hR.bq r7.2 r7.1⟩)
              | (have hq : fSheet w z n a1 a2 a3 = (-1000007, w, z, n) := by
                   unfold fSheet
                   rw [if_neg h1, if_neg hb, if_neg hn0]
                 exact ⟨_, _, rfl, rfl, by rw [hq]; exact hR.bq r8.2 r8.1⟩)
              | (have hq : fSheet w z n a1 a2 a3 = (-1000007, w, z, n) := by
                   unfold fSheet
                   rw [if_neg h1, if_neg hb, if_neg hn0]
                 exact ⟨_, _, rfl, rfl, by rw [hq]; exact hR.bq r9.2 r9.1⟩)
              | (have hq : fSheet w z n a1 a2 a3 = (-1000007, w, z, n) := by
                   unfold fSheet
                   rw [if_neg h1, if_neg hb, if_neg hn0]
                 exact ⟨_, _, rfl, rfl, by rw [hq]; exact hR.bq r10.2 r10.1⟩)
              | (have hq : fSheet w z n a1 a2 a3 = (-1000007, w, z, n) := by
                   unfold fSheet
                   rw [if_neg h1, if_neg hb, if_neg hn0]
                 exact ⟨_, _, rfl, rfl, by rw [hq]; exact hR.bq r11.2 r11.1⟩)
              | (have hq : fSheet w z n a1 a2 a3 = (-1000007, w, z, n) := by
                   unfold fSheet
                   rw [if_neg h1, if_neg hb, if_neg hn0]
                 exact ⟨_, _, rfl, rfl, by rw [hq]; exact hR.bq r12.2 r12.1⟩)
              | (have hq : fSheet w z n a1 a2 a3 = (-1000007, w, z, n) := by
                   unfold fSheet
                   rw [if_neg h1, if_neg hb, if_neg hn0]
                 exact ⟨_, _, rfl, rfl, by rw [hq]; exact hR.bq r13.2 r13.1⟩)
              | (have hq : fSheet w z n a1 a2 a3 = (-1000007, w, z, n) := by
                   unfold fSheet
                   rw [if_neg h1, if_neg hb, if_neg hn0]
                 exact ⟨_, _, rfl, rfl, by rw [hq]; exact hR.bq r14.2 r14.1⟩)
              | (have hq : fSheet w z n a1 a2 a3 = (-1000007, w, z, n) := by
                   unfold fSheet
                   rw [if_neg h1, if_neg hb, if_neg hn0]
                 exact ⟨_, _, rfl, rfl, by rw [hq]; exact hR.bq r15.2 r15.1⟩)
              | (have hq : fSheet w z n a1 a2 a3 = (-1000007, w, z, n) := by
                   unfold fSheet
                   rw [if_neg h1, if_neg hb, if_neg hn0]
                 exact ⟨_, _, rfl, rfl, by rw [hq]; exact hR.bq r16.2 r16.1⟩)
              | (have hq : fSheet w z n a1 a2 a3 = (-1000007, w, z, n) := by
                   unfold fSheet
                   rw [if_neg h1, if_neg hb, if_neg hn0]
                 exact ⟨_, _, rfl, rfl, by rw [hq]; exact hR.bq r18.2 r18.1⟩)
              | (have hq : fSheet w z n a1 a2 a3 = (-1000007, w, z, n) := by
                   unfold fSheet
                   rw [if_neg h1, if_neg hb, if_neg hn0]
                 exact ⟨_, _, rfl, rfl, by rw [hq]; exact hR.bq r19.2 r19.1⟩)
              | (have hq : fSheet w z n a1 a2 a3 = (-1000007, w, z, n) := by
                   unfold fSheet
                   rw [if_neg h1, if_neg hb, if_neg hn0]
                 exact ⟨_, _, rfl, rfl, by rw [hq]; exact hR.bq r20.2 r20.1⟩)
              | (have hq : fSheet w z n a1 a2 a3 = (-1000007, w, z, n) := by
                   unfold fSheet
                   rw [if_neg h1, if_neg hb, if_neg hn0]
                 exact ⟨_, _, rfl, rfl, by rw [hq]; exact hR.bq r21.2 r21.1⟩)
              | (have hq : fSheet w z n a1 a2 a3 = (-1000007, w, z, n) := by
                   unfold fSheet
                   rw [if_neg h1, if_neg hb, if_neg hn0]
                 exact ⟨_, _, rfl, rfl, by rw [hq]; exact hR.bq r22.2 r22.1⟩)
              | (have hq : fSheet w z n a1 a2 a3 = (-1000007, w, z, n) := by
                   unfold fSheet
                   rw [if_neg h1, if_neg hb, if_neg hn0]
                 exact ⟨_, _, rfl, rfl, by rw [hq]; exact hR.bq r23.2 r23.1⟩)
              | (have hq : fSheet w z n a1 a2 a3 = (-1000007, w, z, n) := by
                   unfold fSheet
                   rw [if_neg h1, if_neg hb, if_neg hn0]
                 exact ⟨_, _, rfl, rfl, by rw [hq]; exact hR.bq r24.2 r24.1⟩)
              | (have hq : fSheet w z n a1 a2 a3 = (-1000007, w, z, n) := by
                   unfold fSheet
                   rw [if_neg h1, if_neg hb, if_neg hn0]
                 exact ⟨_, _, rfl, rfl, by rw [hq]; exact hR.bq r25.2 r25.1⟩)
              | (have hq : fSheet w z n a1 a2 a3 = (-1000007, w, z, n) := by
                   unfold fSheet
                   rw [if_neg h1, if_neg hb, if_neg hn0]
                 exact ⟨_, _, rfl, rfl, by rw [hq]; exact hR.bq r26.2 r26.1⟩)
              | (have hq : fSheet w z n a1 a2 a3 = (-1000007, w, z, n) := by
                   unfold fSheet
                   rw [if_neg h1, if_neg hb, if_neg hn0]
                 exact ⟨_, _, rfl, rfl, by rw [hq]; exact hR.bq r27.2 r27.1⟩)
              | (have hq : fSheet w z n a1 a2 a3 = (-1000007, w, z, n) := by
                   unfold fSheet
                   rw [if_neg h1, if_neg hb, if_neg hn0]
                 exact ⟨_, _, rfl, rfl, by rw [hq]; exact hR.bq r28.2 r28.1⟩)
              | (have hq : fSheet w z n a1 a2 a3 = (-1000007, w, z, n) := by
                   unfold fSheet
                   rw [if_neg h1, if_neg hb, if_neg hn0]
                 exact ⟨_, _, rfl, rfl, by rw [hq]; exact hR.bq r29.2 r29.1⟩)
              | (have hq : fSheet w z n a1 a2 a3 = (-1000007, w, z, n) := by
                   unfold fSheet
                   rw [if_neg h1, if_neg hb, if_neg hn0]
                 exact ⟨_, _, rfl, rfl, by rw [hq]; exact hR.bq r30.2 r30.1⟩)
              | (have hq : fSheet w z n a1 a2 a3 = (-1000007, w, z, n) := by
                   unfold fSheet
                   rw [if_neg h1, if_neg hb, if_neg hn0]
                 exact ⟨_, _, rfl, rfl, by rw [hq]; exact hR.bq r31.2 r31.1⟩)
              | (have hq : fSheet w z n a1 a2 a3 = (-1000007, w, z, n) := by
                   unfold fSheet
                   rw [if_neg h1, if_neg hb, if_neg hn0]
                 exact ⟨_, _, rfl, rfl, by rw [hq]; exact hR.bq r32.2 r32.1⟩)
              | (have hq : fSheet w z n a1 a2 a3 = (-1000007, w, z, n) := by
                   unfold fSheet
                   rw [if_neg h1, if_neg hb, if_neg hn0]
                 exact ⟨_, _, rfl, rfl, by rw [hq]; exact hR.bq r33.2 r33.1⟩)
              | (have hq : fSheet w z n a1 a2 a3 = (-1000007, w, z, n) := by
                   unfold fSheet
                   rw [if_neg h1, if_neg hb, if_neg hn0]
                 exact ⟨_, _, rfl, rfl, by rw [hq]; exact hR.bq r34.2 r34.1⟩)
              | (have hq : fSheet w z n a1 a2 a3 = (-1000007, w, z, n) := by
                   unfold fSheet
                   rw [if_neg h1, if_neg hb, if_neg hn0]
                 exact ⟨_, _, rfl, rfl, by rw [hq]; exact hR.bq r35.2 r35.1⟩)
              | (have hq : fSheet w z n a1 a2 a3 = (-1000007, w, z, n) := by
                   unfold fSheet
                   rw [if_neg h1, if_neg hb, if_neg hn0]
                 exact ⟨_, _, rfl, rfl, by rw [hq]; exact hR.bq r36.2 r36.1⟩)
              | (have hq : fSheet w z n a1 a2 a3 = (-1000007, w, z, n) := by
                   unfold fSheet
                   rw [if_neg h1, if_neg hb, if_neg hn0]
                 exact ⟨_, _, rfl, rfl, by rw [hq]; exact hR.bq r37.2 r37.1⟩)
              | (have hq : fSheet w z n a1 a2 a3 = (-1000007, w, z, n) := by
                   unfold fSheet
                   rw [if_neg h1, if_neg hb, if_neg hn0]
                 exact ⟨_, _, rfl, rfl, by rw [hq]; exact hR.bq r38.2 r38.1⟩)
              | (have hq : fSheet w z n a1 a2 a3 = (-1000007, w, z, n) := by
                   unfold fSheet
                   rw [if_neg h1, if_neg hb, if_neg hn0]
                 exact ⟨_, _, rfl, rfl, by rw [hq]; exact hR.bq r39.2 r39.1⟩)
        · refine x_iload_n hm rfl rfl ?_
          refine x_bipush hm rfl (v := nI 32) (by decide) ?_
          refine x_icmp_eq hm rfl (t := 36) rfl (fun h18 => ?_) (fun h18 => ?_)
          · have hb := okb_t (Or.inr (Or.inr (Or.inr h18)))
            refine x_iload_n hm rfl rfl ?_
            refine x_if_ge hm rfl (t := 47) rfl (fun h19 => ?_) (fun h19 => ?_)
            · have hn0 := h19
              refine x_iload_n hm rfl rfl ?_
              refine x_bipush hm rfl (v := nI 40) (by decide) ?_
              refine x_icmp_le hm rfl (t := 60) rfl (fun h20 => ?_) (fun h20 => ?_)
              · have hn4 := h20
                obtain ⟨s, hs, hs3⟩ := le_k (by omega) (bI_ne0 h1)
                subst hs3
                have hq : fSheet w z n (nI s) a2 a3 = ((if a2 = 0 then nI 0 else a3), put1 w s a2, put1 z s (if a2 = 0 then nI 0 else a3), clr n s) := by
                  unfold fSheet
                  rw [if_neg h1, if_neg hb, if_pos hn0, if_pos hn4, jI_nat (by omega)]
                rw [hq]
                exact g116e hR hs
              · have hn4 := h20
                refine x_aload_n hm rfl rfl ?_
                refine x_ldcI hm rfl (v := (-1000001 : Int32)) (by decide +kernel) ?_
                refine x_cVi hm rfl rfl (t7 (by decide +kernel)) (fun v21 M21 r21 => ?_)
                refine x_iret hm rfl rfl (by first | rfl | exact bI_nar | decide) ?_
                first
                  | (have hq : fSheet w z n a1 a2 a3 = (-1000001, w, z, n) := by
                       unfold fSheet
                       rw [if_neg h1, if_neg hb, if_pos hn0, if_neg hn4]
                     exact ⟨_, _, rfl, rfl, by rw [hq]; exact hR.bq r21.2 r21.1⟩)
                  | (have hq : fSheet w z n a1 a2 a3 = (-1000001, w, z, n) := by
                       unfold fSheet
                       rw [if_neg h1, if_neg hb, if_pos hn0, if_neg hn4]
                     exact ⟨_, _, rfl, rfl, by rw [hq]; exact hR.bq r1.2 r1.1⟩)
                  | (have hq : fSheet w z n a1 a2 a3 = (-1000001, w, z, n) := by
                       unfold fSheet
                       rw [if_neg h1, if_neg hb, if_pos hn0, if_neg hn4]
                     exact ⟨_, _, rfl, rfl, by rw [hq]; exact hR.bq r2.2 r2.1⟩)
                  | (have hq : fSheet w z n a1 a2 a3 = (-1000001, w, z, n) := by
                       unfold fSheet
                       rw [if_neg h1, if_neg hb, if_pos hn0, if_neg hn4]
                     exact ⟨_, _, rfl, rfl, by rw [hq]; exact hR.bq r3.2 r3.1⟩)
                  | (have hq : fSheet w z n a1 a2 a3 = (-1000001, w, z, n) := by
                       unfold fSheet
                       rw [if_neg h1, if_neg hb, if_pos hn0, if_neg hn4]
                     exact ⟨_, _, rfl, rfl, by rw [hq]; exact hR.bq r4.2 r4.1⟩)
                  | (have hq : fSheet w z n a1 a2 a3 = (-1000001, w, z, n) := by
                       unfold fSheet
                       rw [if_neg h1, if_neg hb, if_pos hn0, if_neg hn4]
                     exact ⟨_, _, rfl, rfl, by rw [hq]; exact hR.bq r5.2 r5.1⟩)
                  | (have hq : fSheet w z n a1 a2 a3 = (-1000001, w, z, n) := by
                       unfold fSheet
                       rw [if_neg h1, if_neg hb, if_pos hn0, if_neg hn4]
                     exact ⟨_, _, rfl, rfl, by rw [hq]; exact hR.bq r6.2 r6.1⟩)
                  | (have hq : fSheet w z n a1 a2 a3 = (-1000001, w, z, n) := by
                       unfold fSheet
                       rw [if_neg h1, if_neg hb, if_pos hn0, if_neg hn4]
                     exact ⟨_, _, rfl, rfl, by rw [hq]; exact hR.bq r7.2 r7.1⟩)
                  | (have hq : fSheet w z n a1 a2 a3 = (-1000001, w, z, n) := by
                       unfold fSheet
                       rw [if_neg h1, if_neg hb, if_pos hn0, if_neg hn4]
                     exact ⟨_, _, rfl, rfl, by rw [hq]; exact hR.bq r8.2 r8.1⟩)
                  | (have hq : fSheet w z n a1 a2 a3 = (-1000001, w, z, n) := by
                       unfold fSheet
                       rw [if_neg h1, if_neg hb, if_pos hn0, if_neg hn4]
                     exact ⟨_, _, rfl, rfl, by rw [hq]; exact hR.bq r9.2 r9.1⟩)
                  | (have hq : fSheet w z n a1 a2 a3 = (-1000001, w, z, n) := by
                       unfold fSheet
                       rw [if_neg h1, if_neg hb, if_pos hn0, if_neg hn4]
                     exact ⟨_, _, rfl, rfl, by rw [hq]; exact hR.bq r10.2 r10.1⟩)
                  | (have hq : fSheet w z n a1 a2 a3 = (-1000001, w, z, n) := by
                       unfold fSheet
                       rw [if_neg h1, if_neg hb, if_pos hn0, if_neg hn4]
                     exact ⟨_, _, rfl, rfl, by rw [hq]; exact hR.bq r11.2 r11.1⟩)
                  | (have hq : fSheet w z n a1 a2 a3 = (-1000001, w, z, n) := by
                       unfold fSheet
                       rw [if_neg h1, if_neg hb, if_pos hn0, if_neg hn4]
                     exact ⟨_, _, rfl, rfl, by rw [hq]; exact hR.bq r12.2 r12.1⟩)
                  | (have hq : fSheet w z n a1 a2 a3 = (-1000001, w, z, n) := by
                       unfold fSheet
                       rw [if_neg h1, if_neg hb, if_pos hn0, if_neg hn4]
                     exact ⟨_, _, rfl, rfl, by rw [hq]; exact hR.bq r13.2 r13.1⟩)
                  | (have hq : fSheet w z n a1 a2 a3 = (-1000001, w, z, n) := by
                       unfold fSheet
                       rw [if_neg h1, if_neg hb, if_pos hn0, if_neg hn4]
                     exact ⟨_, _, rfl, rfl, by rw [hq]; exact hR.bq r14.2 r14.1⟩)
                  | (have hq : fSheet w z n a1 a2 a3 = (-1000001, w, z, n) := by
                       unfold fSheet
                       rw [if_neg h1, if_neg hb, if_pos hn0, if_neg hn4]
                     exact ⟨_, _, rfl, rfl, by rw [hq]; exact hR.bq r15.2 r15.1⟩)
                  | (have hq : fSheet w z n a1 a2 a3 = (-1000001, w, z, n) := by
                       unfold fSheet
                       rw [if_neg h1, if_neg hb, if_pos hn0, if_neg hn4]
                     exact ⟨_, _, rfl, rfl, by rw [hq]; exact hR.bq r16.2 r16.1⟩)
                  | (have hq : fSheet w z n a1 a2 a3 = (-1000001, w, z, n) := by
                       unfold fSheet
                       rw [if_neg h1, if_neg hb, if_pos hn0, if_neg hn4]
                     exact ⟨_, _, rfl, rfl, by rw [hq]; exact hR.bq r17.2 r17.1⟩)
                  | (have hq : fSheet w z n a1 a2 a3 = (-1000001, w, z, n) := by
                       unfold fSheet
                       rw [if_neg h1, if_neg hb, if_pos hn0, if_neg hn4]
                     exact ⟨_, _, rfl, rfl, by rw [hq]; exact hR.bq r18.2 r18.1⟩)
                  | (have hq : fSheet w z n a1 a2 a3 = (-1000001, w, z, n) := by
                       unfold fSheet
                       rw [if_neg h1, if_neg hb, if_pos hn0, if_neg hn4]
                     exact ⟨_, _, rfl, rfl, by rw [hq]; exact hR.bq r19.2 r19.1⟩)
                  | (have hq : fSheet w z n a1 a2 a3 = (-1000001, w, z, n) := by
                       unfold fSheet
                       rw [if_neg h1, if_neg hb, if_pos hn0, if_neg hn4]
                     exact ⟨_, _, rfl, rfl, by rw [hq]; exact hR.bq r20.2 r20.1⟩)
                  | (have hq : fSheet w z n a1 a2 a3 = (-1000001, w, z, n) := by
                       unfold fSheet
                       rw [if_neg h1, if_neg hb, if_pos hn0, if_neg hn4]
                     exact ⟨_, _, rfl, rfl, by rw [hq]; exact hR.bq r22.2 r22.1⟩)
                  | (have hq : fSheet w z n a1 a2 a3 = (-1000001, w, z, n) := by
                       unfold fSheet
                       rw [if_neg h1, if_neg hb, if_pos hn0, if_neg hn4]
                     exact ⟨_, _, rfl, rfl, by rw [hq]; exact hR.bq r23.2 r23.1⟩)
                  | (have hq : fSheet w z n a1 a2 a3 = (-1000001, w, z, n) := by
                       unfold fSheet
                       rw [if_neg h1, if_neg hb, if_pos hn0, if_neg hn4]
                     exact ⟨_, _, rfl, rfl, by rw [hq]; exact hR.bq r24.2 r24.1⟩)
                  | (have hq : fSheet w z n a1 a2 a3 = (-1000001, w, z, n) := by
                       unfold fSheet
                       rw [if_neg h1, if_neg hb, if_pos hn0, if_neg hn4]
                     exact ⟨_, _, rfl, rfl, by rw [hq]; exact hR.bq r25.2 r25.1⟩)
                  | (have hq : fSheet w z n a1 a2 a3 = (-1000001, w, z, n) := by
                       unfold fSheet
                       rw [if_neg h1, if_neg hb, if_pos hn0, if_neg hn4]
                     exact ⟨_, _, rfl, rfl, by rw [hq]; exact hR.bq r26.2 r26.1⟩)
                  | (have hq : fSheet w z n a1 a2 a3 = (-1000001, w, z, n) := by
                       unfold fSheet
                       rw [if_neg h1, if_neg hb, if_pos hn0, if_neg hn4]
                     exact ⟨_, _, rfl, rfl, by rw [hq]; exact hR.bq r27.2 r27.1⟩)
                  | (have hq : fSheet w z n a1 a2 a3 = (-1000001, w, z, n) := by
                       unfold fSheet
                       rw [if_neg h1, if_neg hb, if_pos hn0, if_neg hn4]
                     exact ⟨_, _, rfl, rfl, by rw [hq]; exact hR.bq r28.2 r28.1⟩)
                  | (have hq : fSheet w z n a1 a2 a3 = (-1000001, w, z, n) := by
                       unfold fSheet
                       rw [if_neg h1, if_neg hb, if_pos hn0, if_neg hn4]
                     exact ⟨_, _, rfl, rfl, by rw [hq]; exact hR.bq r29.2 r29.1⟩)
                  | (have hq : fSheet w z n a1 a2 a3 = (-1000001, w, z, n) := by
                       unfold fSheet
                       rw [if_neg h1, if_neg hb, if_pos hn0, if_neg hn4]
                     exact ⟨_, _, rfl, rfl, by rw [hq]; exact hR.bq r30.2 r30.1⟩)
                  | (have hq : fSheet w z n a1 a2 a3 = (-1000001, w, z, n) := by
                       unfold fSheet
                       rw [if_neg h1, if_neg hb, if_pos hn0, if_neg hn4]
                     exact ⟨_, _, rfl, rfl, by rw [hq]; exact hR.bq r31.2 r31.1⟩)
                  | (have hq : fSheet w z n a1 a2 a3 = (-1000001, w, z, n) := by
                       unfold fSheet
                       rw [if_neg h1, if_neg hb, if_pos hn0, if_neg hn4]
                     exact ⟨_, _, rfl, rfl, by rw [hq]; exact hR.bq r32.2 r32.1⟩)
                  | (have hq : fSheet w z n a1 a2 a3 = (-1000001, w, z, n) := by
                       unfold fSheet
                       rw [if_neg h1, if_neg hb, if_pos hn0, if_neg hn4]
                     exact ⟨_, _, rfl, rfl, by rw [hq]; exact hR.bq r33.2 r33.1⟩)
                  | (have hq : fSheet w z n a1 a2 a3 = (-1000001, w, z, n) := by
                       unfold fSheet
                       rw [if_neg h1, if_neg hb, if_pos hn0, if_neg hn4]
                     exact ⟨_, _, rfl, rfl, by rw [hq]; exact hR.bq r34.2 r34.1⟩)
                  | (have hq : fSheet w z n a1 a2 a3 = (-1000001, w, z, n) := by
                       unfold fSheet
                       rw [if_neg h1, if_neg hb, if_pos hn0, if_neg hn4]
                     exact ⟨_, _, rfl, rfl, by rw [hq]; exact hR.bq r35.2 r35.1⟩)
                  | (have hq : fSheet w z n a1 a2 a3 = (-1000001, w, z, n) := by
                       unfold fSheet
                       rw [if_neg h1, if_neg hb, if_pos hn0, if_neg hn4]
                     exact ⟨_, _, rfl, rfl, by rw [hq]; exact hR.bq r36.2 r36.1⟩)
                  | (have hq : fSheet w z n a1 a2 a3 = (-1000001, w, z, n) := by
                       unfold fSheet
                       rw [if_neg h1, if_neg hb, if_pos hn0, if_neg hn4]
                     exact ⟨_, _, rfl, rfl, by rw [hq]; exact hR.bq r37.2 r37.1⟩)
                  | (have hq : fSheet w z n a1 a2 a3 = (-1000001, w, z, n) := by
                       unfold fSheet
                       rw [if_neg h1, if_neg hb, if_pos hn0, if_neg hn4]
                     exact ⟨_, _, rfl, rfl, by rw [hq]; exact hR.bq r38.2 r38.1⟩)
                  | (have hq : fSheet w z n a1 a2 a3 = (-1000001, w, z, n) := by
                       unfold fSheet
                       rw [if_neg h1, if_neg hb, if_pos hn0, if_neg hn4]
                     exact ⟨_, _, rfl, rfl, by rw [hq]; exact hR.bq r39.2 r39.1⟩)
            · have hn0 := h19
              refine x_aload_n hm rfl rfl ?_
              refine x_ldcI hm rfl (v := (-1000007 : Int32)) (by decide +kernel) ?_
              refine x_cVi hm rfl rfl (t7 (by decide +kernel)) (fun v22 M22 r22 => ?_)
              refine x_iret hm rfl rfl (by first | rfl | exact bI_nar | decide) ?_
              first
                | (have hq : fSheet w z n a1 a2 a3 = (-1000007, w, z, n) := by
                     unfold fSheet
                     rw [if_neg h1, if_neg hb, if_neg hn0]
                   exact ⟨_, _, rfl, rfl, by rw [hq]; exact hR.bq r22.2 r22.1⟩)
                | (have hq : fSheet w z n a1 a2 a3 = (-1000007, w, z, n) := by
                     unfold fSheet
                     rw [if_neg h1, if_neg hb, if_neg hn0]
                   exact ⟨_, _, rfl, rfl, by rw [hq]; exact hR.bq r1.2 r1.1⟩)
                | (have hq : fSheet w z n a1 a2 a3 = (-1000007, w, z, n) := by
                     unfold fSheet
                     rw [if_neg h1, if_neg hb, if_neg hn0]
                   exact ⟨_, _, rfl, rfl, by rw [hq]; exact hR.bq r2.2 r2.1⟩)
                | (have hq : fSheet w z n a1 a2 a3 = (-1000007, w, z, n) := by
                     unfold fSheet
                     rw [if_neg h1, if_neg hb, if_neg hn0]
                   exact ⟨_, _, rfl, rfl, by rw [hq]; exact hR.bq r3.2 r3.1⟩)
                | (have hq : fSheet w z n a1 a2 a3 = (-1000007, w, z, n) := by
                     unfold fSheet
                     rw [if_neg h1, if_neg hb, if_neg hn0]
                   exact ⟨_, _, rfl, rfl, by rw [hq]; exact hR.bq r4.2 r4.1⟩)
                | (have hq : fSheet w z n a1 a2 a3 = (-1000007, w, z, n) := by
                     unfold fSheet
                     rw [if_neg h1, if_neg hb, if_neg hn0]
                   exact ⟨_, _, rfl, rfl, by rw [hq]; exact hR.bq r5.2 r5.1⟩)
                | (have hq : fSheet w z n a1 a2 a3 = (-1000007, w, z, n) := by
                     unfold fSheet
                     rw [if_neg h1, if_neg hb, if_neg hn0]
                   exact ⟨_, _, rfl, rfl, by rw [hq]; exact hR.bq r6.2 r6.1⟩)
                | (have hq : fSheet w z n a1 a2 a3 = (-1000007, w, z, n) := by
                     unfold fSheet
                     rw [if_neg h1, if_neg hb, if_neg hn0]
                   exact ⟨_, _, rfl, rfl, by rw [hq]; exact hR.bq r7.2 r7.1⟩)
                | (have hq : fSheet w z n a1 a2 a3 = (-1000007, w, z, n) := by
                     unfold fSheet
                     rw [if_neg h1, if_neg hb, if_neg hn0]
                   exact ⟨_, _, rfl, rfl, by rw [hq]; exact hR.bq r8.2 r8.1⟩)
                | (have hq : fSheet w z n a1 a2 a3 = (-1000007, w, z, n) := by
                     unfold fSheet
                     rw [if_neg h1, if_neg hb, if_neg hn0]
                   exact ⟨_, _, rfl, rfl, by rw [hq]; exact hR.bq r9.2 r9.1⟩)
                | (have hq : fSheet w z n a1 a2 a3 = (-1000007, w, z, n) := by
                     unfold fSheet
                     rw [if_neg h1, if_neg hb, if_neg hn0]
                   exact ⟨_, _, rfl, rfl, by rw [hq]; exact hR.bq r10.2 r10.1⟩)
                | (have hq : fSheet w z n a1 a2 a3 = (-1000007, w, z, n) := by
                     unfold fSheet
                     rw [if_neg h1, if_neg hb, if_neg hn0]
                   exact ⟨_, _, rfl, rfl, by rw [hq]; exact hR.bq r11.2 r11.1⟩)
                | (have hq : fSheet w z n a1 a2 a3 = (-1000007, w, z, n) := by
                     unfold fSheet
                     rw [if_neg h1, if_neg hb, if_neg hn0]
                   exact ⟨_, _, rfl, rfl, by rw [hq]; exact hR.bq r12.2 r12.1⟩)
                | (have hq : fSheet w z n a1 a2 a3 = (-1000007, w, z, n) := by
                     unfold fSheet
                     rw [if_neg h1, if_neg hb, if_neg hn0]
                   exact ⟨_, _, rfl, rfl, by rw [hq]; exact hR.bq r13.2 r13.1⟩)
                | (have hq : fSheet w z n a1 a2 a3 = (-1000007, w, z, n) := by
                     unfold fSheet
                     rw [if_neg h1, if_neg hb, if_neg hn0]
                   exact ⟨_, _, rfl, rfl, by rw [hq]; exact hR.bq r14.2 r14.1⟩)
                | (have hq : fSheet w z n a1 a2 a3 = (-1000007, w, z, n) := by
                     unfold fSheet
                     rw [if_neg h1, if_neg hb, if_neg hn0]
                   exact ⟨_, _, rfl, rfl, by rw [hq]; exact hR.bq r15.2 r15.1⟩)
                | (have hq : fSheet w z n a1 a2 a3 = (-1000007, w, z, n) := by
                     unfold fSheet
                     rw [if_neg h1, if_neg hb, if_neg hn0]
                   exact ⟨_, _, rfl, rfl, by rw [hq]; exact hR.bq r16.2 r16.1⟩)
                | (have hq : fSheet w z n a1 a2 a3 = (-1000007, w, z, n) := by
                     unfold fSheet
                     rw [if_neg h1, if_neg hb, if_neg hn0]
                   exact ⟨_, _, rfl, rfl, by rw [hq]; exact hR.bq r17.2 r17.1⟩)
                | (have hq : fSheet w z n a1 a2 a3 = (-1000007, w, z, n) := by
                     unfold fSheet
                     rw [if_neg h1, if_neg hb, if_neg hn0]
                   exact ⟨_, _, rfl, rfl, by rw [hq]; exact hR.bq r18.2 r18.1⟩)
                | (have hq : fSheet w z n a1 a2 a3 = (-1000007, w, z, n) := by
                     unfold fSheet
                     rw [if_neg h1, if_neg hb, if_neg hn0]
                   exact ⟨_, _, rfl, rfl, by rw [hq]; exact hR.bq r19.2 r19.1⟩)
                | (have hq : fSheet w z n a1 a2 a3 = (-1000007, w, z, n) := by
                     unfold fSheet
                     rw [if_neg h1, if_neg hb, if_neg hn0]
                   exact ⟨_, _, rfl, rfl, by rw [hq]; exact hR.bq r20.2 r20.1⟩)
                | (have hq : fSheet w z n a1 a2 a3 = (-1000007, w, z, n) := by
                     unfold fSheet
                     rw [if_neg h1, if_neg hb, if_neg hn0]
                   exact ⟨_, _, rfl, rfl, by rw [hq]; exact hR.bq r21.2 r21.1⟩)
                | (have hq : fSheet w z n a1 a2 a3 = (-1000007, w, z, n) := by
                     unfold fSheet
                     rw [if_neg h1, if_neg hb, if_neg hn0]
                   exact ⟨_, _, rfl, rfl, by rw [hq]; exact hR.bq r23.2 r23.1⟩)
                | (have hq : fSheet w z n a1 a2 a3 = (-1000007, w, z, n) := by
                     unfold fSheet
                     rw [if_neg h1, if_neg hb, if_neg hn0]
                   exact ⟨_, _, rfl, rfl, by rw [hq]; exact hR.bq r24.2 r24.1⟩)
                | (have hq : fSheet w z n a1 a2 a3 = (-1000007, w, z, n) := by
                     unfold fSheet
                     rw [if_neg h1, if_neg hb, if_neg hn0]
                   exact ⟨_, _, rfl, rfl, by rw [hq]; exact hR.bq r25.2 r25.1⟩)
                | (have hq : fSheet w z n a1 a2 a3 = (-1000007, w, z, n) := by
                     unfold fSheet
                     rw [if_neg h1, if_neg hb, if_neg hn0]
                   exact ⟨_, _, rfl, rfl, by rw [hq]; exact hR.bq r26.2 r26.1⟩)
                | (have hq : fSheet w z n a1 a2 a3 = (-1000007, w, z, n) := by
                     unfold fSheet
                     rw [if_neg h1, if_neg hb, if_neg hn0]
                   exact ⟨_, _, rfl, rfl, by rw [hq]; exact hR.bq r27.2 r27.1⟩)
                | (have hq : fSheet w z n a1 a2 a3 = (-1000007, w, z, n) := by
                     unfold fSheet
                     rw [if_neg h1, if_neg hb, if_neg hn0]
                   exact ⟨_, _, rfl, rfl, by rw [hq]; exact hR.bq r28.2 r28.1⟩)
                | (have hq : fSheet w z n a1 a2 a3 = (-1000007, w, z, n) := by
                     unfold fSheet
                     rw [if_neg h1, if_neg hb, if_neg hn0]
                   exact ⟨_, _, rfl, rfl, by rw [hq]; exact hR.bq r29.2 r29.1⟩)
                | (have hq : fSheet w z n a1 a2 a3 = (-1000007, w, z, n) := by
                     unfold fSheet
                     rw [if_neg h1, if_neg hb, if_neg hn0]
                   exact ⟨_, _, rfl, rfl, by rw [hq]; exact hR.bq r30.2 r30.1⟩)
                | (have hq : fSheet w z n a1 a2 a3 = (-1000007, w, z, n) := by
                     unfold fSheet
                     rw [if_neg h1, if_neg hb, if_neg hn0]
                   exact ⟨_, _, rfl, rfl, by rw [hq]; exact hR.bq r31.2 r31.1⟩)
                | (have hq : fSheet w z n a1 a2 a3 = (-1000007, w, z, n) := by
                     unfold fSheet
                     rw [if_neg h1, if_neg hb, if_neg hn0]
                   exact ⟨_, _, rfl, rfl, by rw [hq]; exact hR.bq r32.2 r32.1⟩)
                | (have hq : fSheet w z n a1 a2 a3 = (-1000007, w, z, n) := by
                     unfold fSheet
                     rw [if_neg h1, if_neg hb, if_neg hn0]
                   exact ⟨_, _, rfl, rfl, by rw [hq]; exact hR.bq r33.2 r33.1⟩)
                | (have hq : fSheet w z n a1 a2 a3 = (-1000007, w, z, n) := by
                     unfold fSheet
                     rw [if_neg h1, if_neg hb, if_neg hn0]
                   exact ⟨_, _, rfl, rfl, by rw [hq]; exact hR.bq r34.2 r34.1⟩)
                | (have hq : fSheet w z n a1 a2 a3 = (-1000007, w, z, n) := by
                     unfold fSheet
                     rw [if_neg h1, if_neg hb, if_neg hn0]
                   exact ⟨_, _, rfl, rfl, by rw [hq]; exact hR.bq r35.2 r35.1⟩)
                | (have hq : fSheet w z n a1 a2 a3 = (-1000007, w, z, n) := by
                     unfold fSheet
                     rw [if_neg h1, if_neg hb, if_neg hn0]
                   exact ⟨_, _, rfl, rfl, by rw [hq]; exact hR.bq r36.2 r36.1⟩)
                | (have hq : fSheet w z n a1 a2 a3 = (-1000007, w, z, n) := by
                     unfold fSheet
                     rw [if_neg h1, if_neg hb, if_neg hn0]
                   exact ⟨_, _, rfl, rfl, by rw [hq]; exact hR.bq r37.2 r37.1⟩)
                | (have hq : fSheet w z n a1 a2 a3 = (-1000007, w, z, n) := by
                     unfold fSheet
                     rw [if_neg h1, if_neg hb, if_neg hn0]
                   exact ⟨_, _, rfl, rfl, by rw [hq]; exact hR.bq r38.2 r38.1⟩)
                | (have hq : fSheet w z n a1 a2 a3 = (-1000007, w, z, n) := by
                     unfold fSheet
                     rw [if_neg h1, if_neg hb, if_neg hn0]
                   exact ⟨_, _, rfl, rfl, by rw [hq]; exact hR.bq r39.2 r39.1⟩)
          · refine x_aload_n hm rfl rfl ?_
            refine x_ldcI hm rfl (v := (-1000001 : Int32)) (by decide +kernel) ?_
            refine x_cVi hm rfl rfl (t7 (by decide +kernel)) (fun v23 M23 r23 => ?_)
            refine x_iret hm rfl rfl (by first | rfl | exact bI_nar | decide) ?_
            first
              | (have hq : fSheet w z n a1 a2 a3 = (-1000001, w, z, n) := by
                   unfold fSheet
                   rw [if_pos h1]
                 exact ⟨_, _, rfl, rfl, by rw [hq]; exact hR.bq r23.2 r23.1⟩)
              | (have hq : fSheet w z n a1 a2 a3 = (-1000001, w, z, n) := by
                   unfold fSheet
                   rw [if_neg h1, if_pos (okb_f (by assumption) (by assumption) (by assumption) (by assumption))]
                 exact ⟨_, _, rfl, rfl, by rw [hq]; exact hR.bq r23.2 r23.1⟩)
              | (have hq : fSheet w z n a1 a2 a3 = (-1000001, w, z, n) := by
                   unfold fSheet
                   rw [if_pos h1]
                 exact ⟨_, _, rfl, rfl, by rw [hq]; exact hR.bq r1.2 r1.1⟩)
              | (have hq : fSheet w z n a1 a2 a3 = (-1000001, w, z, n) := by
                   unfold fSheet
                   rw [if_pos h1]
                 exact ⟨_, _, rfl, rfl, by rw [hq]; exact hR.bq r2.2 r2.1⟩)
              | (have hq : fSheet w z n a1 a2 a3 = (-1000001, w, z, n) := by
                   unfold fSheet
                   rw [if_pos h1]
                 exact ⟨_, _, rfl, rfl, by rw [hq]; exact hR.bq r3.2 r3.1⟩)
              | (have hq : fSheet w z n a1 a2 a3 = (-1000001, w, z, n) := by
                   unfold fSheet
                   rw [if_pos h1]
                 exact ⟨_, _, rfl, rfl, by rw [hq]; exact hR.bq r4.2 r4.1⟩)
              | (have hq : fSheet w z n a1 a2 a3 = (-1000001, w, z, n) := by
                   unfold fSheet
                   rw [if_pos h1]
                 exact ⟨_, _, rfl, rfl, by rw [hq]; exact hR.bq r5.2 r5.1⟩)
              | (have hq : fSheet w z n a1 a2 a3 = (-1000001, w, z, n) := by
                   unfold fSheet
                   rw [if_pos h1]
                 exact ⟨_, _, rfl, rfl, by rw [hq]; exact hR.bq r6.2 r6.1⟩)
              | (have hq : fSheet w z n a1 a2 a3 = (-1000001, w, z, n) := by
                   unfold fSheet
                   rw [if_pos h1]
                 exact ⟨_, _, rfl, rfl, by rw [hq]; exact hR.bq r7.2 r7.1⟩)
              | (have hq : fSheet w z n a1 a2 a3 = (-1000001, w, z, n) := by
                   unfold fSheet
                   rw [if_pos h1]
                 exact ⟨_, _, rfl, rfl, by rw [hq]; exact hR.bq r8.2 r8.1⟩)
              | (have hq : fSheet w z n a1 a2 a3 = (-1000001, w, z, n) := by
                   unfold fSheet
                   rw [if_pos h1]
                 exact ⟨_, _, rfl, rfl, by rw [hq]; exact hR.bq r9.2 r9.1⟩)
              | (have hq : fSheet w z n a1 a2 a3 = (-1000001, w, z, n) := by
                   unfold fSheet
                   rw [if_pos h1]
                 exact ⟨_, _, rfl, rfl, by rw [hq]; exact hR.bq r10.2 r10.1⟩)
              | (have hq : fSheet w z n a1 a2 a3 = (-1000001, w, z, n) := by
                   unfold fSheet
                   rw [if_pos h1]
                 exact ⟨_, _, rfl, rfl, by rw [hq]; exact hR.bq r11.2 r11.1⟩)
              | (have hq : fSheet w z n a1 a2 a3 = (-1000001, w, z, n) := by
                   unfold fSheet
                   rw [if_pos h1]
                 exact ⟨_, _, rfl, rfl, by rw [hq]; exact hR.bq r12.2 r12.1⟩)
              | (have hq : fSheet w z n a1 a2 a3 = (-1000001, w, z, n) := by
                   unfold fSheet
                   rw [if_pos h1]
                 exact ⟨_, _, rfl, rfl, by rw [hq]; exact hR.bq r13.2 r13.1⟩)
              | (have hq : fSheet w z n a1 a2 a3 = (-1000001, w, z, n) := by
                   unfold fSheet
                   rw [if_pos h1]
                 exact ⟨_, _, rfl, rfl, by rw [hq]; exact hR.bq r14.2 r14.1⟩)
              | (have hq : fSheet w z n a1 a2 a3 = (-1000001, w, z, n) := by
                   unfold fSheet
                   rw [if_pos h1]
                 exact ⟨_, _, rfl, rfl, by rw [hq]; exact hR.bq r15.2 r15.1⟩)
              | (have hq : fSheet w z n a1 a2 a3 = (-1000001, w, z, n) := by
                   unfold fSheet
                   rw [if_pos h1]
                 exact ⟨_, _, rfl, rfl, by rw [hq]; exact hR.bq r16.2 r16.1⟩)
              | (have hq : fSheet w z n a1 a2 a3 = (-1000001, w, z, n) := by
                   unfold fSheet
                   rw [if_pos h1]
                 exact ⟨_, _, rfl, rfl, by rw [hq]; exact hR.bq r17.2 r17.1⟩)
              | (have hq : fSheet w z n a1 a2 a3 = (-1000001, w, z, n) := by
                   unfold fSheet
                   rw [if_pos h1]
                 exact ⟨_, _, rfl, rfl, by rw [hq]; exact hR.bq r18.2 r18.1⟩)
              | (have hq : fSheet w z n a1 a2 a3 = (-1000001, w, z, n) := by
                   unfold fSheet
                   rw [if_pos h1]
                 exact ⟨_, _, rfl, rfl, by rw [hq]; exact hR.bq r19.2 r19.1⟩)
              | (have hq : fSheet w z n a1 a2 a3 = (-1000001, w, z, n) := by
                   unfold fSheet
                   rw [if_pos h1]
                 exact ⟨_, _, rfl, rfl, by rw [hq]; exact hR.bq r20.2 r20.1⟩)
              | (have hq : fSheet w z n a1 a2 a3 = (-1000001, w, z, n) := by
                   unfold fSheet
                   rw [if_pos h1]
                 exact ⟨_, _, rfl, rfl, by rw [hq]; exact hR.bq r21.2 r21.1⟩)
              | (have hq : fSheet w z n a1 a2 a3 = (-1000001, w, z, n) := by
                   unfold fSheet
                   rw [if_pos h1]
                 exact ⟨_, _, rfl, rfl, by rw [hq]; exact hR.bq r22.2 r22.1⟩)
              | (have hq : fSheet w z n a1 a2 a3 = (-1000001, w, z, n) := by
                   unfold fSheet
                   rw [if_pos h1]
                 exact ⟨_, _, rfl, rfl, by rw [hq]; exact hR.bq r24.2 r24.1⟩)
              | (have hq : fSheet w z n a1 a2 a3 = (-1000001, w, z, n) := by
                   unfold fSheet
                   rw [if_pos h1]
                 exact ⟨_, _, rfl, rfl, by rw [hq]; exact hR.bq r25.2 r25.1⟩)
              | (have hq : fSheet w z n a1 a2 a3 = (-1000001, w, z, n) := by
                   unfold fSheet
                   rw [if_pos h1]
                 exact ⟨_, _, rfl, rfl, by rw [hq]; exact hR.bq r26.2 r26.1⟩)
              | (have hq : fSheet w z n a1 a2 a3 = (-1000001, w, z, n) := by
                   unfold fSheet
                   rw [if_pos h1]
                 exact ⟨_, _, rfl, rfl, by rw [hq]; exact hR.bq r27.2 r27.1⟩)
              | (have hq : fSheet w z n a1 a2 a3 = (-1000001, w, z, n) := by
                   unfold fSheet
                   rw [if_pos h1]
                 exact ⟨_, _, rfl, rfl, by rw [hq]; exact hR.bq r28.2 r28.1⟩)
              | (have hq : fSheet w z n a1 a2 a3 = (-1000001, w, z, n) := by
                   unfold fSheet
                   rw [if_pos h1]
                 exact ⟨_, _, rfl, rfl, by rw [hq]; exact hR.bq r29.2 r29.1⟩)
              | (have hq : fSheet w z n a1 a2 a3 = (-1000001, w, z, n) := by
                   unfold fSheet
                   rw [if_pos h1]
                 exact ⟨_, _, rfl, rfl, by rw [hq]; exact hR.bq r30.2 r30.1⟩)
              | (have hq : fSheet w z n a1 a2 a3 = (-1000001, w, z, n) := by
                   unfold fSheet
                   rw [if_pos h1]
                 exact ⟨_, _, rfl, rfl, by rw [hq]; exact hR.bq r31.2 r31.1⟩)
              | (have hq : fSheet w z n a1 a2 a3 = (-1000001, w, z, n) := by
                   unfold fSheet
                   rw [if_pos h1]
                 exact ⟨_, _, rfl, rfl, by rw [hq]; exact hR.bq r32.2 r32.1⟩)
              | (have hq : fSheet w z n a1 a2 a3 = (-1000001, w, z, n) := by
                   unfold fSheet
                   rw [if_pos h1]
                 exact ⟨_, _, rfl, rfl, by rw [hq]; exact hR.bq r33.2 r33.1⟩)
              | (have hq : fSheet w z n a1 a2 a3 = (-1000001, w, z, n) := by
                   unfold fSheet
                   rw [if_pos h1]
                 exact ⟨_, _, rfl, rfl, by rw [hq]; exact hR.bq r34.2 r34.1⟩)
              | (have hq : fSheet w z n a1 a2 a3 = (-1000001, w, z, n) := by
                   unfold fSheet
                   rw [if_pos h1]
                 exact ⟨_, _, rfl, rfl, by rw [hq]; exact hR.bq r35.2 r35.1⟩)
              | (have hq : fSheet w z n a1 a2 a3 = (-1000001, w, z, n) := by
                   unfold fSheet
                   rw [if_pos h1]
                 exact ⟨_, _, rfl, rfl, by rw [hq]; exact hR.bq r36.2 r36.1⟩)
              | (have hq : fSheet w z n a1 a2 a3 = (-1000001, w, z, n) := by
                   unfold fSheet
                   rw [if_pos h1]
                 exact ⟨_, _, rfl, rfl, by rw [hq]; exact hR.bq r37.2 r37.1⟩)
              | (have hq : fSheet w z n a1 a2 a3 = (-1000001, w, z, n) := by
                   unfold fSheet
                   rw [if_pos h1]
                 exact ⟨_, _, rfl, rfl, by rw [hq]; exact hR.bq r38.2 r38.1⟩)
              | (have hq : fSheet w z n a1 a2 a3 = (-1000001, w, z, n) := by
                   unfold fSheet
                   rw [if_pos h1]
                 exact ⟨_, _, rfl, rfl, by rw [hq]; exact hR.bq r39.2 r39.1⟩)
              | (have hq : fSheet w z n a1 a2 a3 = (-1000001, w, z, n) := by
                   unfold fSheet
                   rw [if_neg h1, if_pos (okb_f (by assumption) (by assumption) (by assumption) (by assumption))]
                 exact ⟨_, _, rfl, rfl, by rw [hq]; exact hR.bq r1.2 r1.1⟩)
              | (have hq : fSheet w z n a1 a2 a3 = (-1000001, w, z, n) := by
                   unfold fSheet
                   rw [if_neg h1, if_pos (okb_f (by assumption) (by assumption) (by assumption) (by assumption))]
                 exact ⟨_, _, rfl, rfl, by rw [hq]; exact hR.bq r2.2 r2.1⟩)
              | (have hq : fSheet w z n a1 a2 a3 = (-1000001, w, z, n) := by
                   unfold fSheet
                   rw [if_neg h1, if_pos (okb_f (by assumption) (by assumption) (by assumption) (by assumption))]
                 exact ⟨_, _, rfl, rfl, by rw [hq]; exact hR.bq r3.2 r3.1⟩)
              | (have hq : fSheet w z n a1 a2 a3 = (-1000001, w, z, n) := by
                   unfold fSheet
                   rw [if_neg h1, if_pos (okb_f (by assumption) (by assumption) (by assumption) (by assumption))]
                 exact ⟨_, _, rfl, rfl, by rw [hq]; exact hR.bq r4.2 r4.1⟩)
              | (have hq : fSheet w z n a1 a2 a3 = (-1000001, w, z, n) := by
                   unfold fSheet
                   rw [if_neg h1, if_pos (okb_f (by assumption) (by assumption) (by assumption) (by assumption))]
                 exact ⟨_, _, rfl, rfl, by rw [hq]; exact hR.bq r5.2 r5.1⟩)
              | (have hq : fSheet w z n a1 a2 a3 = (-1000001, w, z, n) := by
                   unfold fSheet
                   rw [if_neg h1, if_pos (okb_f (by assumption) (by assumption) (by assumption) (by assumption))]
                 exact ⟨_, _, rfl, rfl, by rw [hq]; exact hR.bq r6.2 r6.1⟩)
              | (have hq : fSheet w z n a1 a2 a3 = (-1000001, w, z, n) := by
                   unfold fSheet
                   rw [if_neg h1, if_pos (okb_f (by assumption) (by assumption) (by assumption) (by assumption))]
                 exact ⟨_, _, rfl, rfl, by rw [hq]; exact hR.bq r7.2 r7.1⟩)
              | (have hq : fSheet w z n a1 a2 a3 = (-1000001, w, z, n) := by
                   unfold fSheet
                   rw [if_neg h1, if_pos (okb_f (by assumption) (by assumption) (by assumption) (by assumption))]
                 exact ⟨_, _, rfl, rfl, by rw [hq]; exact hR.bq r8.2 r8.1⟩)
              | (have hq : fSheet w z n a1 a2 a3 = (-1000001, w, z, n) := by
                   unfold fSheet
                   rw [if_neg h1, if_pos (okb_f (by assumption) (by assumption) (by assumption) (by assumption))]
                 exact ⟨_, _, rfl, rfl, by rw [hq]; exact hR.bq r9.2 r9.1⟩)
              | (have hq : fSheet w z n a1 a2 a3 = (-1000001, w, z, n) := by
                   unfold fSheet
                   rw [if_neg h1, if_pos (okb_f (by assumption) (by assumption) (by assumption) (by assumption))]
                 exact ⟨_, _, rfl, rfl, by rw [hq]; exact hR.bq r10.2 r10.1⟩)
              | (have hq : fSheet w z n a1 a2 a3 = (-1000001, w, z, n) := by
                   unfold fSheet
                   rw [if_neg h1, if_pos (okb_f (by assumption) (by assumption) (by assumption) (by assumption))]
                 exact ⟨_, _, rfl, rfl, by rw [hq]; exact hR.bq r11.2 r11.1⟩)
              | (have hq : fSheet w z n a1 a2 a3 = (-1000001, w, z, n) := by
                   unfold fSheet
                   rw [if_neg h1, if_pos (okb_f (by assumption) (by assumption) (by assumption) (by assumption))]
                 exact ⟨_, _, rfl, rfl, by rw [hq]; exact hR.bq r12.2 r12.1⟩)
              | (have hq : fSheet w z n a1 a2 a3 = (-1000001, w, z, n) := by
                   unfold fSheet
                   rw [if_neg h1, if_pos (okb_f (by assumption) (by assumption) (by assumption) (by assumption))]
                 exact ⟨_, _, rfl, rfl, by rw [hq]; exact hR.bq r13.2 r13.1⟩)
              | (have hq : fSheet w z n a1 a2 a3 = (-1000001, w, z, n) := by
                   unfold fSheet
                   rw [if_neg h1, if_pos (okb_f (by assumption) (by assumption) (by assumption) (by assumption))]
                 exact ⟨_, _, rfl, rfl, by rw [hq]; exact hR.bq r14.2 r14.1⟩)
              | (have hq : fSheet w z n a1 a2 a3 = (-1000001, w, z, n) := by
                   unfold fSheet
                   rw [if_neg h1, if_pos (okb_f (by assumption) (by assumption) (by assumption) (by assumption))]
                 exact ⟨_, _, rfl, rfl, by rw [hq]; exact hR.bq r15.2 r15.1⟩)
              | (have hq : fSheet w z n a1 a2 a3 = (-1000001, w, z, n) := by
                   unfold fSheet
                   rw [if_neg h1, if_pos (okb_f (by assumption) (by assumption) (by assumption) (by assumption))]
                 exact ⟨_, _, rfl, rfl, by rw [hq]; exact hR.bq r16.2 r16.1⟩)
              | (have hq : fSheet w z n a1 a2 a3 = (-1000001, w, z, n) := by
                   unfold fSheet
                   rw [if_neg h1, if_pos (okb_f (by assumption) (by assumption) (by assumption) (by assumption))]
                 exact ⟨_, _, rfl, rfl, by rw [hq]; exact hR.bq r17.2 r17.1⟩)
              | (have hq : fSheet w z n a1 a2 a3 = (-1000001, w, z, n) := by
                   unfold fSheet
                   rw [if_neg h1, if_pos (okb_f (by assumption) (by assumption) (by assumption) (by assumption))]
                 exact ⟨_, _, rfl, rfl, by rw [hq]; exact hR.bq r18.2 r18.1⟩)
              | (have hq : fSheet w z n a1 a2 a3 = (-1000001, w, z, n) := by
                   unfold fSheet
                   rw [if_neg h1, if_pos (okb_f (by assumption) (by assumption) (by assumption) (by assumption))]
                 exact ⟨_, _, rfl, rfl, by rw [hq]; exact hR.bq r19.2 r19.1⟩)
              | (have hq : fSheet w z n a1 a2 a3 = (-1000001, w, z, n) := by
                   unfold fSheet
                   rw [if_neg h1, if_pos (okb_f (by assumption) (by assumption) (by assumption) (by assumption))]
                 exact ⟨_, _, rfl, rfl, by rw [hq]; exact hR.bq r20.2 r20.1⟩)
              | (have hq : fSheet w z n a1 a2 a3 = (-1000001, w, z, n) := by
                   unfold fSheet
                   rw [if_neg h1, if_pos (okb_f (by assumption) (by assumption) (by assumption) (by assumption))]
                 exact ⟨_, _, rfl, rfl, by rw [hq]; exact hR.bq r21.2 r21.1⟩)
              | (have hq : fSheet w z n a1 a2 a3 = (-1000001, w, z, n) := by
                   unfold fSheet
                   rw [if_neg h1, if_pos (okb_f (by assumption) (by assumption) (by assumption) (by assumption))]
                 exact ⟨_, _, rfl, rfl, by rw [hq]; exact hR.bq r22.2 r22.1⟩)
              | (have hq : fSheet w z n a1 a2 a3 = (-1000001, w, z, n) := by
                   unfold fSheet
                   rw [if_neg h1, if_pos (okb_f (by assumption) (by assumption) (by assumption) (by assumption))]
                 exact ⟨_, _, rfl, rfl, by rw [hq]; exact hR.bq r24.2 r24.1⟩)
              | (have hq : fSheet w z n a1 a2 a3 = (-1000001, w, z, n) := by
                   unfold fSheet
                   rw [if_neg h1, if_pos (okb_f (by assumption) (by assumption) (by assumption) (by assumption))]
                 exact ⟨_, _, rfl, rfl, by rw [hq]; exact hR.bq r25.2 r25.1⟩)
              | (have hq : fSheet w z n a1 a2 a3 = (-1000001, w, z, n) := by
                   unfold fSheet
                   rw [if_neg h1, if_pos (okb_f (by assumption) (by assumption) (by assumption) (by assumption))]
                 exact ⟨_, _, rfl, rfl, by rw [hq]; exact hR.bq r26.2 r26.1⟩)
              | (have hq : fSheet w z n a1 a2 a3 = (-1000001, w, z, n) := by
                   unfold fSheet
                   rw [if_neg h1, if_pos (okb_f (by assumption) (by assumption) (by assumption) (by assumption))]
                 exact ⟨_, _, rfl, rfl, by rw [hq]; exact hR.bq r27.2 r27.1⟩)
              | (have hq : fSheet w z n a1 a2 a3 = (-1000001, w, z, n) := by
                   unfold fSheet
                   rw [if_neg h1, if_pos (okb_f (by assumption) (by assumption) (by assumption) (by assumption))]
                 exact ⟨_, _, rfl, rfl, by rw [hq]; exact hR.bq r28.2 r28.1⟩)
              | (have hq : fSheet w z n a1 a2 a3 = (-1000001, w, z, n) := by
                   unfold fSheet
                   rw [if_neg h1, if_pos (okb_f (by assumption) (by assumption) (by assumption) (by assumption))]
                 exact ⟨_, _, rfl, rfl, by rw [hq]; exact hR.bq r29.2 r29.1⟩)
              | (have hq : fSheet w z n a1 a2 a3 = (-1000001, w, z, n) := by
                   unfold fSheet
                   rw [if_neg h1, if_pos (okb_f (by assumption) (by assumption) (by assumption) (by assumption))]
                 exact ⟨_, _, rfl, rfl, by rw [hq]; exact hR.bq r30.2 r30.1⟩)
              | (have hq : fSheet w z n a1 a2 a3 = (-1000001, w, z, n) := by
                   unfold fSheet
                   rw [if_neg h1, if_pos (okb_f (by assumption) (by assumption) (by assumption) (by assumption))]
                 exact ⟨_, _, rfl, rfl, by rw [hq]; exact hR.bq r31.2 r31.1⟩)
              | (have hq : fSheet w z n a1 a2 a3 = (-1000001, w, z, n) := by
                   unfold fSheet
                   rw [if_neg h1, if_pos (okb_f (by assumption) (by assumption) (by assumption) (by assumption))]
                 exact ⟨_, _, rfl, rfl, by rw [hq]; exact hR.bq r32.2 r32.1⟩)
              | (have hq : fSheet w z n a1 a2 a3 = (-1000001, w, z, n) := by
                   unfold fSheet
                   rw [if_neg h1, if_pos (okb_f (by assumption) (by assumption) (by assumption) (by assumption))]
                 exact ⟨_, _, rfl, rfl, by rw [hq]; exact hR.bq r33.2 r33.1⟩)
              | (have hq : fSheet w z n a1 a2 a3 = (-1000001, w, z, n) := by
                   unfold fSheet
                   rw [if_neg h1, if_pos (okb_f (by assumption) (by assumption) (by assumption) (by assumption))]
                 exact ⟨_, _, rfl, rfl, by rw [hq]; exact hR.bq r34.2 r34.1⟩)
              | (have hq : fSheet w z n a1 a2 a3 = (-1000001, w, z, n) := by
                   unfold fSheet
                   rw [if_neg h1, if_pos (okb_f (by assumption) (by assumption) (by assumption) (by assumption))]
                 exact ⟨_, _, rfl, rfl, by rw [hq]; exact hR.bq r35.2 r35.1⟩)
              | (have hq : fSheet w z n a1 a2 a3 = (-1000001, w, z, n) := by
                   unfold fSheet
                   rw [if_neg h1, if_pos (okb_f (by assumption) (by assumption) (by assumption) (by assumption))]
                 exact ⟨_, _, rfl, rfl, by rw [hq]; exact hR.bq r36.2 r36.1⟩)
              | (have hq : fSheet w z n a1 a2 a3 = (-1000001, w, z, n) := by
                   unfold fSheet
                   rw [if_neg h1, if_pos (okb_f (by assumption) (by assumption) (by assumption) (by assumption))]
                 exact ⟨_, _, rfl, rfl, by rw [hq]; exact hR.bq r37.2 r37.1⟩)
              | (have hq : fSheet w z n a1 a2 a3 = (-1000001, w, z, n) := by
                   unfold fSheet
                   rw [if_neg h1, if_pos (okb_f (by assumption) (by assumption) (by assumption) (by assumption))]
                 exact ⟨_, _, rfl, rfl, by rw [hq]; exact hR.bq r38.2 r38.1⟩)
              | (have hq : fSheet w z n a1 a2 a3 = (-1000001, w, z, n) := by
                   unfold fSheet
                   rw [if_neg h1, if_pos (okb_f (by assumption) (by assumption) (by assumption) (by assumption))]
                 exact ⟨_, _, rfl, rfl, by rw [hq]; exact hR.bq r39.2 r39.1⟩)
end EV
