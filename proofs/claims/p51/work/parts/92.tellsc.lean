/-! ===== which calls tell a finding ===== -/
def kThing (nt : Nat) (a1 a2 : Int32) : Int32 × Bool := if bI (nI 0 ≤ a1 ∧ a1 ≤ nI 3) = 0 then (-1000001, true) else if bI (nI 0 ≤ a2 ∧ a2 ≤ nI 15) = 0 then (-1000001, true) else if nt = 8 then (-1000002, true) else (0, false)
def kThO (nt : Nat) (a1 a2 : Int32) : Int32 × Bool := if bI (nI 0 ≤ a1 ∧ a1 ≤ nI nt - nI 1) = 0 then (-1000001, true) else if bI (nI 0 ≤ a2 ∧ a2 ≤ nI 6) = 0 then (-1000001, true) else (0, false)
noncomputable def kForge (r : Nat → Int32) (nt np : Nat) (a1 a2 a3 : Int32) : Int32 × Bool := if bI (nI 0 ≤ a1 ∧ a1 ≤ nI nt - nI 1) = 0 then (-1000001, true) else if bI (mayF nt np a1 a2 a3) = 0 then (-1000001, true) else @ite _ (fgC r a1 a2 a3) (Classical.propDecidable _) (-1000005, true) (0, false)
def kPerson (np : Nat) (a1 a2 : Int32) : Int32 × Bool := if bI (nI 0 ≤ a1 ∧ a1 ≤ nI 6) = 0 then (-1000001, true) else if bI (nI 0 ≤ a2 ∧ a2 ≤ nI 15) = 0 then (-1000001, true) else if np = 8 then (-1000002, true) else (0, false)
def kOf (np : Nat) (a1 a2 : Int32) : Int32 × Bool := if bI (nI 0 ≤ a1 ∧ a1 ≤ nI np - nI 1) = 0 then (-1000001, true) else if bI (nI 0 ≤ a2 ∧ a2 ≤ nI 7) = 0 then (-1000001, true) else (0, false)
def kChange (np : Nat) (a1 a2 a3 : Int32) : Int32 × Bool := if bI (nI 0 ≤ a1 ∧ a1 ≤ nI np - nI 1) = 0 then (-1000001, true) else if bI (mayC a2 a3) = 0 then (-1000001, true) else (0, false)
def kEnvy (nt np : Nat) (a1 a2 : Int32) : Int32 × Bool := if bI (nI 0 ≤ a1 ∧ a1 ≤ nI np - nI 1) = 0 then (-1000001, true) else if bI (nI 0 ≤ a2 ∧ a2 ≤ nI nt - nI 1) = 0 then (-1000001, true) else (0, false)
def kGo (r : Nat → Int32) (m : Nat) (a1 : Int32) : Int32 × Bool := if bI (nI 1 ≤ a1 ∧ a1 ≤ nI m) = 0 then (-1000001, true) else if nI 99999 < r 0 + a1 then (-1000005, true) else (0, false)
def kOut (m : Int) (a1 : Int32) : Int32 × Bool := if a1.toInt < 0 ∨ m < a1.toInt then (-1000001, true) else (0, false)
def kT (nt : Nat) (a1 : Int32) : Int32 × Bool := if bI (nI 0 ≤ a1 ∧ a1 ≤ nI nt - nI 1) = 0 then (-1000001, true) else (0, false)
def kWorth (nt np : Nat) (a1 a2 : Int32) : Int32 × Bool := if bI (nI 0 ≤ a1 ∧ a1 ≤ nI np - nI 1) = 0 then (-1000001, true) else if bI (nI 0 ≤ a2 ∧ a2 ≤ nI (2 ^ nt) - nI 1) = 0 then (-1000001, true) else (0, false)
def kCD (nt np : Nat) (a1 a2 a3 : Int32) : Int32 × Bool := if bI (CD nt np a1 a2 a3) = 0 then (-1000001, true) else (0, false)
def kDeal (r : Nat → Int32) (nt np : Nat) (a1 a2 a3 : Int32) : Int32 × Bool := if bI (CD nt np a1 a2 a3) = 0 then (-1000001, true) else orN (sDn r nt a1.toNatClampNeg a2.toNatClampNeg a3.toNatClampNeg (a3.toNatClampNeg + 1) 0)
noncomputable def kKey (r : Nat → Int32) (nt : Nat) : Int32 × Bool := orN (fo (sKs r nt) nt (-1, nI 0)).1
def kOdds (a1 a2 : Int32) : Int32 × Bool := if bI (nI 0 ≤ a1 ∧ a1 ≤ nI 14) = 0 then (-1000001, true) else if bI (nI 0 ≤ a2 ∧ a2 ≤ nI 1) = 0 then (-1000001, true) else (0, false)
def kFeed (c a1 a2 : Int32) : Int32 × Bool := if bI (nI 1 ≤ a2 ∧ a2 ≤ nI 4) = 0 then (-1000001, true) else if nI 120 < c + a2 then (-1000002, true) else (0, false)
def kHold (np : Nat) (a1 a2 : Int32) : Int32 × Bool := if bI (nI 0 ≤ a1 ∧ a1 ≤ nI 9) = 0 then (-1000001, true) else if a2 = -1 then (0, false) else if bI (nI 0 ≤ a2 ∧ a2 ≤ nI np - nI 1) = 0 then (-1000001, true) else (0, false)
def kAs (r : Nat → Int32) (a1 a2 : Int32) : Int32 × Bool := if bI (nI 0 ≤ a1 ∧ a1 ≤ nI 9) = 0 then (-1000001, true) else if bI (nI 0 ≤ a2 ∧ a2 ≤ nI 6) = 0 then (-1000001, true) else if r (4 + a1.toNatClampNeg) = -1 then (-1000006, true) else if uo 5 (r (62 + 7 * (r (4 + a1.toNatClampNeg)).toNatClampNeg + 0)) a2 = true then (0, false) else (-1000003, true)
def kSheet (a1 a2 a3 : Int32) : Int32 × Bool := if bI (nI 0 ≤ a1 ∧ a1 ≤ nI 3) = 0 then (-1000001, true) else if okb a2 = false then (-1000001, true) else if 0 ≤ a3 then (if a3 ≤ nI 40 then (0, false) else (-1000001, true)) else (-1000007, true)
def kWrite (w z : Nat → Int32) (a1 a2 : Int32) : Int32 × Bool := if ¬ lkS w a1 = 0 then (lkS w a1, true) else if bI (nI 0 ≤ a2 ∧ a2 ≤ z a1.toNatClampNeg - nI 1) = 0 then (-1000001, true) else (0, false)
def kLoad (w : Nat → Int32) (a1 : Int32) : Int32 × Bool := if ¬ lkS w a1 = 0 then (lkS w a1, true) else (0, false)
def kCopy (w z : Nat → Int32) (a1 a2 a3 a4 a5 : Int32) : Int32 × Bool := if bI (nI 0 ≤ a1 ∧ a1 ≤ nI 3) = 0 then (-1000001, true) else if bI (nI 0 ≤ a3 ∧ a3 ≤ nI 3) = 0 then (-1000001, true) else if w a1.toNatClampNeg = 0 then (-1000006, true) else if w a3.toNatClampNeg = 0 then (-1000006, true) else if ¬ w a1.toNatClampNeg = w a3.toNatClampNeg then (-1000003, true) else if ¬ (hsP (z a1.toNatClampNeg) a2 a5 ∧ hsP (z a3.toNatClampNeg) a4 a5) then (-1000001, true) else (0, false)
def kUndo (k : Int32) : Int32 × Bool := if k = 0 then (-1000004, true) else (0, false)
def kSt (a1 : Int32) : Int32 × Bool := if bI ((-1 : Int32) ≤ a1 ∧ a1 ≤ nI 6) = 0 then (-1000001, true) else (0, false)
def kZ  : Int32 × Bool := (0, false)
def fndC (M : mM) (v : Int32) : mM := mput M 55 ((-1000001 : Int32) - v).toNatClampNeg (M 55 ((-1000001 : Int32) - v).toNatClampNeg + nI 1)
/-- the counts behind a call that tells q -/
def tlC (f : Nat → Int32) (q : Int32 × Bool) : Nat → Int32 := if q.2 = true then fndC (fun _ => f) q.1 55 else f
def tlR (f : Nat → Int32) (q : Int32 × Bool) : Nat → Int32 := if q.2 = true then fndR (fun _ => f) q.1 70 else f
def qC (M : mM) (q : Int32 × Bool) (_ : Option Value) (D : mHp) : Prop := D[55]? = some (.inl (0, 7, .inl (tlC (M 55) q)) : va_E) ∧ (q.2 = true → FD q.1)
def qR (M : mM) (q : Int32 × Bool) (_ : Option Value) (D : mHp) : Prop := D[70]? = some (.inl (0, 8, .inl (tlR (M 70) q)) : va_E)
noncomputable def okC : List Nat := [6, 8, 10, 11, 12, 13, 14, 18, 19, 20, 21, 23, 25, 27, 30, 31, 32, 33, 34, 35, 36, 38, 39, 40, 42, 43, 49, 52, 56, 57, 58, 62, 64, 66, 67, 69, 70, 71, 74, 76, 77, 78, 79, 80, 83, 85, 86, 88, 89, 90, 91, 92, 93, 94, 95, 96, 97, 109, 110, 111, 112, 113, 117, 119, 121, 124, 125, 127, 129]
noncomputable def okR : List Nat := [133, 134, 136, 137, 139, 140, 141, 142, 143, 144, 145, 146, 147, 148, 150, 151, 152, 153, 154, 155, 157, 158, 160, 164, 165, 166, 167, 168, 170, 171, 173, 174, 175, 180, 183, 186, 190, 191, 194, 197, 199, 200, 202, 203, 205, 207, 209, 210, 211, 212, 215, 217, 219, 220, 221, 222, 223, 224, 225, 226, 227, 228, 229, 230, 232, 236, 240, 242]
theorem ckC : ckA okC 3 5 = true := by decide +kernel
theorem ckR : ckA okR 4 4 = true := by decide +kernel
theorem cnC : (mSp.all (ckT 55 3 5) && Nat.blt 55 80) = true := by decide +kernel
theorem cnR : (mSp.all (ckT 70 4 4) && Nat.blt 70 80) = true := by decide +kernel
section TE
variable {X : mSc} {M : mM} {nt np : Nat} {r w z nu : Nat → Int32} {c k6 : Int32}
theorem e7 {v : Int32} (hv : FD v) : mT X 7 [.ref 0, .int v] (con M) (some (.int v)) (con (fndC M v)) := by
  refine mT.of (row := _) rfl (Nat.le_of_ble_eq_true rfl) ?_
  have hm : mMet 7 = some _ := rfl
  obtain ⟨k, hk, he⟩ := FD_k0 hv
  have hn : ((-1000001 : Int32) - v).toNatClampNeg = k := by rw [he, jI_nat (by omega)]
  unfold fndC
  rw [hn]
  refine x_ldcI hm rfl (v := (-1000001 : Int32)) (by decide) ?_
  refine x_iload_n hm rfl rfl ?_
  refine x_isub hm rfl ?_
  rw [he]
  refine x_istore_n hm rfl rfl ?_
  refine x_iload_n hm rfl rfl ?_
  refine x_iconst hm rfl (v := nI 0) (by decide) ?_
  refine x_bipush hm rfl (v := nI 6) (by decide) ?_
  refine x_callS hm rfl rfl (t6) ?_
  refine x_if_eq hm rfl (t := 25) rfl (fun h1 => ?_) (fun h1 => ?_)
  · exact absurd ⟨(jI_le (by omega) (by omega)).mpr (Nat.zero_le _), (jI_le (by omega) (by omega)).mpr hk⟩ (bI_eq0.mp h1)
  · refine x_aload_n hm rfl rfl ?_
    refine x_getf hm rfl (gR rfl rfl) ?_
    refine x_iload_n hm rfl rfl ?_
    refine x_dup2 hm rfl rfl rfl ?_
    refine x_iald hm rfl (lI rfl (by omega) (by decide)) ?_
    refine x_iconst hm rfl (v := nI 1) (by decide) ?_
    refine x_iadd hm rfl ?_
    refine x_iast hm rfl (sI rfl (by omega) (by decide)) ?_
    refine x_iload_n hm rfl rfl ?_
    refine x_iret hm rfl rfl (by first | rfl | exact bI_nar | decide) ?_
    exact ⟨rfl, rfl⟩
theorem tC {K : Int32 × Bool} {v : Int32} {o : Option Value} (h : K = (v, true)) (hv : FD v) : qC M K o (con (fndC M v)) := by
  rw [h]
  exact ⟨con_get (q := (0, 7, [])) rfl, fun _ => hv⟩
theorem tR {K : Int32 × Bool} {v : Int32} {o : Option Value} (h : K = (v, true)) : qR M K o (con (fndR M v)) := by
  rw [h]
  exact con_get (q := (0, 8, [])) rfl
theorem tlC_n {f : Nat → Int32} {K : Int32 × Bool} (h : K.2 = false) : tlC f K = f := if_neg (by rw [h]; exact Bool.false_ne_true)
theorem tlR_n {f : Nat → Int32} {K : Int32 × Bool} (h : K.2 = false) : tlR f K = f := if_neg (by rw [h]; exact Bool.false_ne_true)
theorem nC {K : Int32 × Bool} {o : Option Value} (h : K.2 = false) : qC M K o (con M) := by
  unfold qC
  rw [tlC_n h]
  exact ⟨con_get (q := (0, 7, [])) rfl, fun e => absurd (h.symm.trans e) Bool.false_ne_true⟩
theorem nR {K : Int32 × Bool} {o : Option Value} (h : K.2 = false) : qR M K o (con M) := by
  unfold qR
  rw [tlR_n h]
  exact con_get (q := (0, 8, [])) rfl
theorem bodyC {m pc : Nat} {L : mLoc} {st : List Value} {K : Int32 × Bool} (g : Nat → Bool) (hK : K.2 = false) (hg : ckB m (okf okC) 3 5 g = true) (hp : g pc = true) (hL : nrLb 55 L = true) (hS : nrSb 55 st = true) : mAl X (qC M K) m pc L st (con M) := by
  intro n y hy
  obtain ⟨h1, -⟩ := fr_run (T := 55) (ca := 3) (cb := 5) (ok := okf okC) (ckA_spec ckC) n m g (ckB_spec hg) pc L st (con M) hp (nrL.of hL) (nrS.of hS) (con_nrD cnC) y hy
  unfold qC
  rw [h1]
  exact nC (o := none) hK
theorem bodyR {m pc : Nat} {L : mLoc} {st : List Value} {K : Int32 × Bool} (g : Nat → Bool) (hK : K.2 = false) (hg : ckB m (okf okR) 4 4 g = true) (hp : g pc = true) (hL : nrLb 70 L = true) (hS : nrSb 70 st = true) : mAl X (qR M K) m pc L st (con M) := by
  intro n y hy
  obtain ⟨h1, -⟩ := fr_run (T := 70) (ca := 4) (cb := 4) (ok := okf okR) (ckA_spec ckR) n m g (ckB_spec hg) pc L st (con M) hp (nrL.of hL) (nrS.of hS) (con_nrD cnR) y hy
  unfold qR
  rw [h1]
  exact nR (o := none) hK
theorem orN_2 {v : Int32} {k : Nat} (h : v = nI k) (hk : k < 2147483648) : (orN v).2 = false := by rw [h, orN_k hk]
theorem fC5 {a1 a2 : Int32} (hR : Rel 1 nt np M r) (hG : Gd nt np r) (hc : M 1 7 = -1) (hS : Rs w z nu M) (hz : ∀ s, s < 4 → ∃ k, k ≤ 40 ∧ z s = nI k) (hct : M 52 1 = c) (hk6 : M 0 6 = k6) : ∀ o D, mT X 5 [.ref 0, .int a1, .int a2] (con M) o D → qC M (kThing nt a1 a2) o D := by
  have hV := hG.2.2.1
  have hn8 := hV.1
  have hp8 := hV.2.1
  refine al_of (Q := qC M (kThing nt a1 a2)) (row := _) rfl ?_
  have hm : mMet 5 = some _ := rfl
  refine y_iload_n hm rfl rfl ?_
  refine y_iconst hm rfl (v := nI 0) (by decide) ?_
  refine y_iconst hm rfl (v := nI 3) (by decide) ?_
  refine y_callS hm rfl rfl (t6) ?_
  refine y_if_eq hm rfl (t := 19) rfl (fun h1 => ?_) (fun h1 => ?_)
  · refine y_aload_n hm rfl rfl ?_
    refine y_ldcI hm rfl (v := (-1000001 : Int32)) (by decide) ?_
    refine y_callV hm rfl rfl (e7 (by decide)) ?_
    refine y_iret hm rfl rfl (by first | rfl | exact bI_nar | decide) ?_
    first
      | (exact tC (by unfold kThing; rw [if_pos (by assumption)]) (by first | decide | assumption | exact lkS_fd (by assumption)))
      | (exact tC (by unfold kThing; rw [if_neg (by assumption), if_pos (by assumption)]) (by first | decide | assumption | exact lkS_fd (by assumption)))
  · refine y_iload_n hm rfl rfl ?_
    refine y_iconst hm rfl (v := nI 0) (by decide) ?_
    refine y_bipush hm rfl (v := nI 15) (by decide) ?_
    refine y_callS hm rfl rfl (t6) ?_
    refine y_if_ne hm rfl (t := 26) rfl (fun h2 => ?_) (fun h2 => ?_)
    · refine y_aload_n hm rfl rfl ?_
      refine y_getf hm rfl (gR rfl rfl) ?_
      refine y_getf hm rfl (gI rfl rfl) ?_
      rw [hR.1]
      refine y_bipush hm rfl (v := nI 8) (by decide) ?_
      refine y_icmp_lt hm rfl (t := 45) rfl (fun h3 => ?_) (fun h3 => ?_)
      · have hlt : nt < 8 := (jI_lt (by omega) (by decide)).mp h3
        have hne : ¬ nt = 8 := by omega
        exact bodyC (fun pc => Nat.ble 45 pc) (by unfold kThing; rw [if_neg (by assumption), if_neg (by assumption), if_neg (by assumption)]) (by decide +kernel) rfl rfl rfl
      · have heq : nt = 8 := Nat.le_antisymm hn8 (Nat.le_of_not_lt fun h => h3 ((jI_lt (by omega) (by decide)).mpr h))
        refine y_aload_n hm rfl rfl ?_
        refine y_ldcI hm rfl (v := (-1000002 : Int32)) (by decide) ?_
        refine y_callV hm rfl rfl (e7 (by decide)) ?_
        refine y_iret hm rfl rfl (by first | rfl | exact bI_nar | decide) ?_
        exact tC (by unfold kThing; rw [if_neg (by assumption), if_neg (by assumption), if_pos (by assumption)]) (by first | decide | assumption | exact lkS_fd (by assumption))
    · refine y_aload_n hm rfl rfl ?_
      refine y_ldcI hm rfl (v := (-1000001 : Int32)) (by decide) ?_
      refine y_callV hm rfl rfl (e7 (by decide)) ?_
      refine y_iret hm rfl rfl (by first | rfl | exact bI_nar | decide) ?_
      first
        | (exact tC (by unfold kThing; rw [if_pos (by assumption)]) (by first | decide | assumption | exact lkS_fd (by assumption)))
        | (exact tC (by unfold kThing; rw [if_neg (by assumption), if_pos (by assumption)]) (by first | decide | assumption | exact lkS_fd (by assumption)))
theorem fC9 {a1 a2 : Int32} (hR : Rel 1 nt np M r) (hG : Gd nt np r) (hc : M 1 7 = -1) (hS : Rs w z nu M) (hz : ∀ s, s < 4 → ∃ k, k ≤ 40 ∧ z s = nI k) (hct : M 52 1 = c) (hk6 : M 0 6 = k6) : ∀ o D, mT X 9 [.ref 0, .int a1, .int a2] (con M) o D → qC M (kThO nt a1 a2) o D := by
  have hV := hG.2.2.1
  have hn8 := hV.1
  have hp8 := hV.2.1
  refine al_of (Q := qC M (kThO nt a1 a2)) (row := _) rfl ?_
  have hm : mMet 9 = some _ := rfl
  refine y_aload_n hm rfl rfl ?_
  refine y_getf hm rfl (gR rfl rfl) ?_
  refine y_iload_n hm rfl rfl ?_
  refine y_callV hm rfl rfl (t10 (by decide)) ?_
  rw [hR.1]
  refine y_if_eq hm rfl (t := 21) rfl (fun h1 => ?_) (fun h1 => ?_)
  · refine y_aload_n hm rfl rfl ?_
    refine y_ldcI hm rfl (v := (-1000001 : Int32)) (by decide) ?_
    refine y_callV hm rfl rfl (e7 (by decide)) ?_
    refine y_iret hm rfl rfl (by first | rfl | exact bI_nar | decide) ?_
    first
      | (exact tC (by unfold kThO; rw [if_pos (by assumption)]) (by first | decide | assumption | exact lkS_fd (by assumption)))
      | (exact tC (by unfold kThO; rw [if_neg (by assumption), if_pos (by assumption)]) (by first | decide | assumption | exact lkS_fd (by assumption)))
  · refine y_iload_n hm rfl rfl ?_
    refine y_iconst hm rfl (v := nI 0) (by decide) ?_
    refine y_bipush hm rfl (v := nI 6) (by decide) ?_
    refine y_callS hm rfl rfl (t6) ?_
    refine y_if_ne hm rfl (t := 28) rfl (fun h2 => ?_) (fun h2 => ?_)
    · exact bodyC (fun pc => Nat.ble 28 pc) (by unfold kThO; rw [if_neg (by assumption), if_neg (by assumption)]) (by decide +kernel) rfl rfl rfl
    · refine y_aload_n hm rfl rfl ?_
      refine y_ldcI hm rfl (v := (-1000001 : Int32)) (by decide) ?_
      refine y_callV hm rfl rfl (e7 (by decide)) ?_
      refine y_iret hm rfl rfl (by first | rfl | exact bI_nar | decide) ?_
      first
        | (exact tC (by unfold kThO; rw [if_pos (by assumption)]) (by first | decide | assumption | exact lkS_fd (by assumption)))
        | (exact tC (by unfold kThO; rw [if_neg (by assumption), if_pos (by assumption)]) (by first | decide | assumption | exact lkS_fd (by assumption)))
theorem fC17 {a1 a2 a3 : Int32} (hR : Rel 1 nt np M r) (hG : Gd nt np r) (hc : M 1 7 = -1) (hS : Rs w z nu M) (hz : ∀ s, s < 4 → ∃ k, k ≤ 40 ∧ z s = nI k) (hct : M 52 1 = c) (hk6 : M 0 6 = k6) : ∀ o D, mT X 17 [.ref 0, .int a1, .int a2, .int a3] (con M) o D → qC M (kForge r nt np a1 a2 a3) o D := by
  have hV := hG.2.2.1
  have hn8 := hV.1
  have hp8 := hV.2.1
  refine al_of (Q := qC M (kForge r nt np a1 a2 a3)) (row := _) rfl ?_
  have hm : mMet 17 = some _ := rfl
  refine y_aload_n hm rfl rfl ?_
  refine y_getf hm rfl (gR rfl rfl) ?_
  refine y_iload_n hm rfl rfl ?_
  refine y_callV hm rfl rfl (t10 (by decide)) ?_
  rw [hR.1]
  refine y_if_eq hm rfl (t := 21) rfl (fun h1 => ?_) (fun h1 => ?_)
  · refine y_aload_n hm rfl rfl ?_
    refine y_ldcI hm rfl (v := (-1000001 : Int32)) (by decide) ?_
    refine y_callV hm rfl rfl (e7 (by decide)) ?_
    refine y_iret hm rfl rfl (by first | rfl | exact bI_nar | decide) ?_
    first
      | (exact tC (by unfold kForge; rw [if_pos (by assumption)]) (by first | decide | assumption | exact lkS_fd (by assumption)))
      | (exact tC (by unfold kForge; rw [if_neg (by assumption), if_pos (by assumption)]) (by first | decide | assumption | exact lkS_fd (by assumption)))
  · obtain ⟨t, ht, rfl⟩ := in_k rfl (by omega) (bI_ne0 h1)
    refine y_aload_n hm rfl rfl ?_
    refine y_iload_n hm rfl rfl ?_
    refine y_iload_n hm rfl rfl ?_
    refine y_iload_n hm rfl rfl ?_
    refine y_callV hm rfl rfl (g18 hR) ?_
    refine y_if_ne hm rfl (t := 28) rfl (fun h2 => ?_) (fun h2 => ?_)
    · have hmf := bI_ne0 h2
      have hz9 : bI (mayF nt np (nI t) a2 a3) ≠ 0 := h2
      obtain ⟨f, hf, rfl⟩ := mayF_f hmf
      refine y_iload_n hm rfl rfl ?_
      refine y_iconst hm rfl (v := nI 5) (by decide) ?_
      refine y_icmp_ne hm rfl (t := 60) rfl (fun h3 => ?_) (fun h3 => ?_)
      · have hnc : ¬ fgC r (nI t) (nI f) a3 := fun z => h3 z.1
        exact bodyC (fun pc => Nat.ble 60 pc) (by unfold kForge; rw [if_neg (by assumption), if_neg (by assumption), if_neg hnc]) (by decide +kernel) rfl rfl rfl
      · obtain rfl : f = 5 := jI_inj (by omega) (by decide) h3
        refine y_iload_n hm rfl rfl ?_
        refine y_iconst hm rfl (v := (-1 : Int32)) (by decide) ?_
        refine y_icmp_eq hm rfl (t := 60) rfl (fun h4 => ?_) (fun h4 => ?_)
        · have hnc : ¬ fgC r (nI t) (nI 5) a3 := fun z => z.2.1 h4
          exact bodyC (fun pc => Nat.ble 60 pc) (by unfold kForge; rw [if_neg (by assumption), if_neg (by assumption), if_neg hnc]) (by decide +kernel) rfl rfl rfl
        · have hv5 := ((mayF_5 rfl).mpr hmf).resolve_left h4
          obtain ⟨w, hw, rfl⟩ := in_k rfl (by omega) hv5.1
          refine y_aload_n hm rfl rfl ?_
          refine y_getf hm rfl (gR rfl rfl) ?_
          refine y_iload_n hm rfl rfl ?_
          refine y_callV hm rfl rfl (g20 (by decide) hR hV ht) ?_
          refine y_iload_n hm rfl rfl ?_
          refine y_callS hm rfl rfl (g21 (wS_lt hn8) (by omega)) ?_
          refine y_if_eq hm rfl (t := 60) rfl (fun h5 => ?_) (fun h5 => ?_)
          · have hnc : ¬ fgC r (nI t) (nI 5) (nI w) := fun z => by
              have z3 := z.2.2
              rw [jI_nat (by omega), jI_nat (by omega)] at z3
              exact bI_eq0.mp h5 (wS_tb.mpr ⟨hw, z3⟩)
            exact bodyC (fun pc => Nat.ble 60 pc) (by unfold kForge; rw [if_neg (by assumption), if_neg (by assumption), if_neg hnc]) (by decide +kernel) rfl rfl rfl
          · have hcy : fgC r (nI t) (nI 5) (nI w) := ⟨rfl, fun q => absurd (Int32.not_lt.mp (jI_nn (show w < 2147483648 by omega))) (by rw [q]; decide), by rw [jI_nat (by omega), jI_nat (by omega)]; exact (wS_tb.mp (bI_ne0 h5)).2⟩
            refine y_aload_n hm rfl rfl ?_
            refine y_ldcI hm rfl (v := (-1000005 : Int32)) (by decide) ?_
            refine y_callV hm rfl rfl (e7 (by decide)) ?_
            refine y_iret hm rfl rfl (by first | rfl | exact bI_nar | decide) ?_
            exact tC (by unfold kForge; rw [if_neg (by assumption), if_neg (by assumption), if_pos hcy]) (by first | decide | assumption | exact lkS_fd (by assumption))
    · refine y_aload_n hm rfl rfl ?_
      refine y_ldcI hm rfl (v := (-1000001 : Int32)) (by decide) ?_
      refine y_callV hm rfl rfl (e7 (by decide)) ?_
      refine y_iret hm rfl rfl (by first | rfl | exact bI_nar | decide) ?_
      first
        | (exact tC (by unfold kForge; rw [if_pos (by assumption)]) (by first | decide | assumption | exact lkS_fd (by assumption)))
        | (exact tC (by unfold kForge; rw [if_neg (by assumption), if_pos (by assumption)]) (by first | decide | assumption | exact lkS_fd (by assumption)))
theorem fC22 {a1 a2 : Int32} (hR : Rel 1 nt np M r) (hG : Gd nt np r) (hc : M 1 7 = -1) (hS : Rs w z nu M) (hz : ∀ s, s < 4 → ∃ k, k ≤ 40 ∧ z s = nI k) (hct : M 52 1 = c) (hk6 : M 0 6 = k6) : ∀ o D, mT X 22 [.ref 0, .int a1, .int a2] (con M) o D → qC M (kPerson np a1 a2) o D := by
  have hV := hG.2.2.1
  have hn8 := hV.1
  have hp8 := hV.2.1
  refine al_of (Q := qC M (kPerson np a1 a2)) (row := _) rfl ?_
  have hm : mMet 22 = some _ := rfl
  refine y_iload_n hm rfl rfl ?_
  refine y_iconst hm rfl (v := nI 0) (by decide) ?_
  refine y_bipush hm rfl (v := nI 6) (by decide) ?_
  refine y_callS hm rfl rfl (t6) ?_
  refine y_if_eq hm rfl (t := 20) rfl (fun h1 => ?_) (fun h1 => ?_)
  · refine y_aload_n hm rfl rfl ?_
    refine y_ldcI hm rfl (v := (-1000001 : Int32)) (by decide) ?_
    refine y_callV hm rfl rfl (e7 (by decide)) ?_
    refine y_iret hm rfl rfl (by first | rfl | exact bI_nar | decide) ?_
    first
      | (exact tC (by unfold kPerson; rw [if_pos (by assumption)]) (by first | decide | assumption | exact lkS_fd (by assumption)))
      | (exact tC (by unfold kPerson; rw [if_neg (by assumption), if_pos (by assumption)]) (by first | decide | assumption | exact lkS_fd (by assumption)))
  · refine y_iload_n hm rfl rfl ?_
    refine y_iconst hm rfl (v := nI 0) (by decide) ?_
    refine y_bipush hm rfl (v := nI 15) (by decide) ?_
    refine y_callS hm rfl rfl (t6) ?_
    refine y_if_ne hm rfl (t := 27) rfl (fun h2 => ?_) (fun h2 => ?_)
    · refine y_aload_n hm rfl rfl ?_
      refine y_getf hm rfl (gR rfl rfl) ?_
      refine y_getf hm rfl (gI rfl rfl) ?_
      rw [hR.2.1]
      refine y_bipush hm rfl (v := nI 8) (by decide) ?_
      refine y_icmp_lt hm rfl (t := 46) rfl (fun h3 => ?_) (fun h3 => ?_)
      · have hlt : np < 8 := (jI_lt (by omega) (by decide)).mp h3
        have hne : ¬ np = 8 := by omega
        exact bodyC (fun pc => Nat.ble 46 pc) (by unfold kPerson; rw [if_neg (by assumption), if_neg (by assumption), if_neg (by assumption)]) (by decide +kernel) rfl rfl rfl
      · have heq : np = 8 := Nat.le_antisymm hp8 (Nat.le_of_not_lt fun h => h3 ((jI_lt (by omega) (by decide)).mpr h))
        refine y_aload_n hm rfl rfl ?_
        refine y_ldcI hm rfl (v := (-1000002 : Int32)) (by decide) ?_
        refine y_callV hm rfl rfl (e7 (by decide)) ?_
        refine y_iret hm rfl rfl (by first | rfl | exact bI_nar | decide) ?_
        exact tC (by unfold kPerson; rw [if_neg (by assumption), if_neg (by assumption), if_pos (by assumption)]) (by first | decide | assumption | exact lkS_fd (by assumption))
    · refine y_aload_n hm rfl rfl ?_
      refine y_ldcI hm rfl (v := (-1000001 : Int32)) (by decide) ?_
      refine y_callV hm rfl rfl (e7 (by decide)) ?_
      refine y_iret hm rfl rfl (by first | rfl | exact bI_nar | decide) ?_
      first
        | (exact tC (by unfold kPerson; rw [if_pos (by assumption)]) (by first | decide | assumption | exact lkS_fd (by assumption)))
        | (exact tC (by unfold kPerson; rw [if_neg (by assumption), if_pos (by assumption)]) (by first | decide | assumption | exact lkS_fd (by assumption)))
theorem fC24 {a1 a2 : Int32} (hR : Rel 1 nt np M r) (hG : Gd nt np r) (hc : M 1 7 = -1) (hS : Rs w z nu M) (hz : ∀ s, s < 4 → ∃ k, k ≤ 40 ∧ z s = nI k) (hct : M 52 1 = c) (hk6 : M 0 6 = k6) : ∀ o D, mT X 24 [.ref 0, .int a1, .int a2] (con M) o D → qC M (kOf np a1 a2) o D := by
  have hV := hG.2.2.1
  have hn8 := hV.1
  have hp8 := hV.2.1
  refine al_of (Q := qC M (kOf np a1 a2)) (row := _) rfl ?_
  have hm : mMet 24 = some _ := rfl
  refine y_aload_n hm rfl rfl ?_
  refine y_getf hm rfl (gR rfl rfl) ?_
  refine y_iload_n hm rfl rfl ?_
  refine y_callV hm rfl rfl (t19 (by decide)) ?_
  rw [hR.2.1]
  refine y_if_eq hm rfl (t := 21) rfl (fun h1 => ?_) (fun h1 => ?_)
  · refine y_aload_n hm rfl rfl ?_
    refine y_ldcI hm rfl (v := (-1000001 : Int32)) (by decide) ?_
    refine y_callV hm rfl rfl (e7 (by decide)) ?_
    refine y_iret hm rfl rfl (by first | rfl | exact bI_nar | decide) ?_
    first
      | (exact tC (by unfold kOf; rw [if_pos (by assumption)]) (by first | decide | assumption | exact lkS_fd (by assumption)))
      | (exact tC (by unfold kOf; rw [if_neg (by assumption), if_pos (by assumption)]) (by first | decide | assumption | exact lkS_fd (by assumption)))
  · refine y_iload_n hm rfl rfl ?_
    refine y_iconst hm rfl (v := nI 0) (by decide) ?_
    refine y_bipush hm rfl (v := nI 7) (by decide) ?_
    refine y_callS hm rfl rfl (t6) ?_
    refine y_if_ne hm rfl (t := 28) rfl (fun h2 => ?_) (fun h2 => ?_)
    · exact bodyC (fun pc => Nat.ble 28 pc) (by unfold kOf; rw [if_neg (by assumption), if_neg (by assumption)]) (by decide +kernel) rfl rfl rfl
    · refine y_aload_n hm rfl rfl ?_
      refine y_ldcI hm rfl (v := (-1000001 : Int32)) (by decide) ?_
      refine y_callV hm rfl rfl (e7 (by decide)) ?_
      refine y_iret hm rfl rfl (by first | rfl | exact bI_nar | decide) ?_
      first
        | (exact tC (by unfold kOf; rw [if_pos (by assumption)]) (by first | decide | assumption | exact lkS_fd (by assumption)))
        | (exact tC (by unfold kOf; rw [if_neg (by assumption), if_pos (by assumption)]) (by first | decide | assumption | exact lkS_fd (by assumption)))
theorem fC26 {a1 a2 a3 : Int32} (hR : Rel 1 nt np M r) (hG : Gd nt np r) (hc : M 1 7 = -1) (hS : Rs w z nu M) (hz : ∀ s, s < 4 → ∃ k, k ≤ 40 ∧ z s = nI k) (hct : M 52 1 = c) (hk6 : M 0 6 = k6) : ∀ o D, mT X 26 [.ref 0, .int a1, .int a2, .int a3] (con M) o D → qC M (kChange np a1 a2 a3) o D := by
  have hV := hG.2.2.1
  have hn8 := hV.1
  have hp8 := hV.2.1
  refine al_of (Q := qC M (kChange np a1 a2 a3)) (row := _) rfl ?_
  have hm : mMet 26 = some _ := rfl
  refine y_aload_n hm rfl rfl ?_
  refine y_getf hm rfl (gR rfl rfl) ?_
  refine y_iload_n hm rfl rfl ?_
  refine y_callV hm rfl rfl (t19 (by decide)) ?_
  rw [hR.2.1]
  refine y_if_eq hm rfl (t := 19) rfl (fun h1 => ?_) (fun h1 => ?_)
  · refine y_aload_n hm rfl rfl ?_
    refine y_ldcI hm rfl (v := (-1000001 : Int32)) (by decide) ?_
    refine y_callV hm rfl rfl (e7 (by decide)) ?_
    refine y_iret hm rfl rfl (by first | rfl | exact bI_nar | decide) ?_
    first
      | (exact tC (by unfold kChange; rw [if_pos (by assumption)]) (by first | decide | assumption | exact lkS_fd (by assumption)))
      | (exact tC (by unfold kChange; rw [if_neg (by assumption), if_pos (by assumption)]) (by first | decide | assumption | exact lkS_fd (by assumption)))
  · refine y_iload_n hm rfl rfl ?_
    refine y_iload_n hm rfl rfl ?_
    refine y_callS hm rfl rfl (g27) ?_
    refine y_if_ne hm rfl (t := 26) rfl (fun h2 => ?_) (fun h2 => ?_)
    · exact bodyC (fun pc => Nat.ble 26 pc) (by unfold kChange; rw [if_neg (by assumption), if_neg (by assumption)]) (by decide +kernel) rfl rfl rfl
    · refine y_aload_n hm rfl rfl ?_
      refine y_ldcI hm rfl (v := (-1000001 : Int32)) (by decide) ?_
      refine y_callV hm rfl rfl (e7 (by decide)) ?_
      refine y_iret hm rfl rfl (by first | rfl | exact bI_nar | decide) ?_
      first
        | (exact tC (by unfold kChange; rw [if_pos (by assumption)]) (by first | decide | assumption | exact lkS_fd (by assumption)))
        | (exact tC (by unfold kChange; rw [if_neg (by assumption), if_pos (by assumption)]) (by first | decide | assumption | exact lkS_fd (by assumption)))
theorem fC28 {a1 a2 : Int32} (hR : Rel 1 nt np M r) (hG : Gd nt np r) (hc : M 1 7 = -1) (hS : Rs w z nu M) (hz : ∀ s, s < 4 → ∃ k, k ≤ 40 ∧ z s = nI k) (hct : M 52 1 = c) (hk6 : M 0 6 = k6) : ∀ o D, mT X 28 [.ref 0, .int a1, .int a2] (con M) o D → qC M (kEnvy nt np a1 a2) o D := by
  have hV := hG.2.2.1
  have hn8 := hV.1
  have hp8 := hV.2.1
  refine al_of (Q := qC M (kEnvy nt np a1 a2)) (row := _) rfl ?_
  have hm : mMet 28 = some _ := rfl
  refine y_aload_n hm rfl rfl ?_
  refine y_getf hm rfl (gR rfl rfl) ?_
  refine y_iload_n hm rfl rfl ?_
  refine y_callV hm rfl rfl (t19 (by decide)) ?_
  rw [hR.2.1]
  refine y_if_eq hm rfl (t := 22) rfl (fun h1 => ?_) (fun h1 => ?_)
  · refine y_aload_n hm rfl rfl ?_
    refine y_ldcI hm rfl (v := (-1000001 : Int32)) (by decide) ?_
    refine y_callV hm rfl rfl (e7 (by decide)) ?_
    refine y_iret hm rfl rfl (by first | rfl | exact bI_nar | decide) ?_
    first
      | (exact tC (by unfold kEnvy; rw [if_pos (by assumption)]) (by first | decide | assumption | exact lkS_fd (by assumption)))
      | (exact tC (by unfold kEnvy; rw [if_neg (by assumption), if_pos (by assumption)]) (by first | decide | assumption | exact lkS_fd (by assumption)))
  · refine y_aload_n hm rfl rfl ?_
    refine y_getf hm rfl (gR rfl rfl) ?_
    refine y_iload_n hm rfl rfl ?_
    refine y_callV hm rfl rfl (t10 (by decide)) ?_
    rw [hR.1]
    refine y_if_ne hm rfl (t := 29) rfl (fun h2 => ?_) (fun h2 => ?_)
    · exact bodyC (fun pc => Nat.ble 29 pc) (by unfold kEnvy; rw [if_neg (by assumption), if_neg (by assumption)]) (by decide +kernel) rfl rfl rfl
    · refine y_aload_n hm rfl rfl ?_
      refine y_ldcI hm rfl (v := (-1000001 : Int32)) (by decide) ?_
      refine y_callV hm rfl rfl (e7 (by decide)) ?_
      refine y_iret hm rfl rfl (by first | rfl | exact bI_nar | decide) ?_
      first
        | (exact tC (by unfold kEnvy; rw [if_pos (by assumption)]) (by first | decide | assumption | exact lkS_fd (by assumption)))
        | (exact tC (by unfold kEnvy; rw [if_neg (by assumption), if_pos (by assumption)]) (by first | decide | assumption | exact lkS_fd (by assumption)))
theorem fC29 {a1 : Int32} (hR : Rel 1 nt np M r) (hG : Gd nt np r) (hc : M 1 7 = -1) (hS : Rs w z nu M) (hz : ∀ s, s < 4 → ∃ k, k ≤ 40 ∧ z s = nI k) (hct : M 52 1 = c) (hk6 : M 0 6 = k6) : ∀ o D, mT X 29 [.ref 0, .int a1] (con M) o D → qC M (kGo r 60 a1) o D := by
  have hV := hG.2.2.1
  have hn8 := hV.1
  have hp8 := hV.2.1
  refine al_of (Q := qC M (kGo r 60 a1)) (row := _) rfl ?_
  have hm : mMet 29 = some _ := rfl
  refine y_iload_n hm rfl rfl ?_
  refine y_iconst hm rfl (v := nI 1) (by decide) ?_
  refine y_bipush hm rfl (v := nI 60) (by decide) ?_
  refine y_callS hm rfl rfl (t6) ?_
  refine y_if_ne hm rfl (t := 17) rfl (fun h1 => ?_) (fun h1 => ?_)
  · refine y_aload_n hm rfl rfl ?_
    refine y_getf hm rfl (gR rfl rfl) ?_
    refine y_getf hm rfl (gI rfl rfl) ?_
    rw [hR.2.2.1]
    refine y_iload_n hm rfl rfl ?_
    refine y_iadd hm rfl ?_
    refine y_ldcI hm rfl (v := nI 99999) (by decide) ?_
    refine y_icmp_le hm rfl (t := 38) rfl (fun h2 => ?_) (fun h2 => ?_)
    · have hng : ¬ nI 99999 < r 0 + a1 := Int32.not_lt.mpr h2
      exact bodyC (fun pc => Nat.ble 38 pc) (by unfold kGo; rw [if_neg (by assumption), if_neg (by assumption)]) (by decide +kernel) rfl rfl rfl
    · have hps : nI 99999 < r 0 + a1 := Int32.not_le.mp h2
      refine y_aload_n hm rfl rfl ?_
      refine y_ldcI hm rfl (v := (-1000005 : Int32)) (by decide) ?_
      refine y_callV hm rfl rfl (e7 (by decide)) ?_
      refine y_iret hm rfl rfl (by first | rfl | exact bI_nar | decide) ?_
      exact tC (by unfold kGo; rw [if_neg (by assumption), if_pos (by assumption)]) (by first | decide | assumption | exact lkS_fd (by assumption))
  · refine y_aload_n hm rfl rfl ?_
    refine y_ldcI hm rfl (v := (-1000001 : Int32)) (by decide) ?_
    refine y_callV hm rfl rfl (e7 (by decide)) ?_
    refine y_iret hm rfl rfl (by first | rfl | exact bI_nar | decide) ?_
    exact tC (by unfold kGo; rw [if_pos (by assumption)]) (by first | decide | assumption | exact lkS_fd (by assumption))
theorem fC82 {a1 : Int32} (hR : Rel 1 nt np M r) (hG : Gd nt np r) (hc : M 1 7 = -1) (hS : Rs w z nu M) (hz : ∀ s, s < 4 → ∃ k, k ≤ 40 ∧ z s = nI k) (hct : M 52 1 = c) (hk6 : M 0 6 = k6) : ∀ o D, mT X 82 [.ref 0, .int a1] (con M) o D → qC M (kGo r 20 a1) o D := by
  have hV := hG.2.2.1
  have hn8 := hV.1
  have hp8 := hV.2.1
  refine al_of (Q := qC M (kGo r 20 a1)) (row := _) rfl ?_
  have hm : mMet 82 = some _ := rfl
  refine y_iload_n hm rfl rfl ?_
  refine y_iconst hm rfl (v := nI 1) (by decide) ?_
  refine y_bipush hm rfl (v := nI 20) (by decide) ?_
  refine y_callS hm rfl rfl (t6) ?_
  refine y_if_ne hm rfl (t := 17) rfl (fun h1 => ?_) (fun h1 => ?_)
  · refine y_aload_n hm rfl rfl ?_
    refine y_getf hm rfl (gR rfl rfl) ?_
    refine y_getf hm rfl (gI rfl rfl) ?_
    rw [hR.2.2.1]
    refine y_iload_n hm rfl rfl ?_
    refine y_iadd hm rfl ?_
    refine y_ldcI hm rfl (v := nI 99999) (by decide) ?_
    refine y_icmp_le hm rfl (t := 38) rfl (fun h2 => ?_) (fun h2 => ?_)
    · have hng : ¬ nI 99999 < r 0 + a1 := Int32.not_lt.mpr h2
      exact bodyC (fun pc => Nat.ble 38 pc) (by unfold kGo; rw [if_neg (by assumption), if_neg (by assumption)]) (by decide +kernel) rfl rfl rfl
    · have hps : nI 99999 < r 0 + a1 := Int32.not_le.mp h2
      refine y_aload_n hm rfl rfl ?_
      refine y_ldcI hm rfl (v := (-1000005 : Int32)) (by decide) ?_
      refine y_callV hm rfl rfl (e7 (by decide)) ?_
      refine y_iret hm rfl rfl (by first | rfl | exact bI_nar | decide) ?_
      exact tC (by unfold kGo; rw [if_neg (by assumption), if_pos (by assumption)]) (by first | decide | assumption | exact lkS_fd (by assumption))
  · refine y_aload_n hm rfl rfl ?_
    refine y_ldcI hm rfl (v := (-1000001 : Int32)) (by decide) ?_
    refine y_callV hm rfl rfl (e7 (by decide)) ?_
    refine y_iret hm rfl rfl (by first | rfl | exact bI_nar | decide) ?_
    exact tC (by unfold kGo; rw [if_pos (by assumption)]) (by first | decide | assumption | exact lkS_fd (by assumption))
theorem fC37 {a1 : Int32} (hR : Rel 1 nt np M r) (hG : Gd nt np r) (hc : M 1 7 = -1) (hS : Rs w z nu M) (hz : ∀ s, s < 4 → ∃ k, k ≤ 40 ∧ z s = nI k) (hct : M 52 1 = c) (hk6 : M 0 6 = k6) : ∀ o D, mT X 37 [.ref 0, .int a1] (con M) o D → qC M (kOut 4 a1) o D := by
  have hV := hG.2.2.1
  have hn8 := hV.1
  have hp8 := hV.2.1
  refine al_of (Q := qC M (kOut 4 a1)) (row := _) rfl ?_
  have hm : mMet 37 = some _ := rfl
  refine y_iload_n hm rfl rfl ?_
  refine y_ts hm rfl (fun h1 => ⟨76, rfl, ?_⟩) (fun i1 h1 g1 => ?_)
  · refine y_aload_n hm rfl rfl ?_
    refine y_ldcI hm rfl (v := (-1000001 : Int32)) (by decide) ?_
    refine y_callV hm rfl rfl (e7 (by decide)) ?_
    refine y_iret hm rfl rfl (by first | rfl | exact bI_nar | decide) ?_
    exact tC (by unfold kOut; rw [if_pos (by assumption)]) (by first | decide | assumption | exact lkS_fd (by assumption))
  · have k1 : i1 = 0 ∨ i1 = 1 ∨ i1 = 2 ∨ i1 = 3 ∨ i1 = 4 := by omega
    rcases k1 with rfl | rfl | rfl | rfl | rfl
    · refine ⟨_, 36, rfl, rfl, ?_⟩
      exact bodyC (fun pc => Nat.ble 36 pc && Nat.ble pc 75) (by unfold kOut; rw [if_neg (by omega)]) (by decide +kernel) rfl rfl rfl
    · refine ⟨_, 44, rfl, rfl, ?_⟩
      exact bodyC (fun pc => Nat.ble 36 pc && Nat.ble pc 75) (by unfold kOut; rw [if_neg (by omega)]) (by decide +kernel) rfl rfl rfl
    · refine ⟨_, 52, rfl, rfl, ?_⟩
      exact bodyC (fun pc => Nat.ble 36 pc && Nat.ble pc 75) (by unfold kOut; rw [if_neg (by omega)]) (by decide +kernel) rfl rfl rfl
    · refine ⟨_, 60, rfl, rfl, ?_⟩
      exact bodyC (fun pc => Nat.ble 36 pc && Nat.ble pc 75) (by unfold kOut; rw [if_neg (by omega)]) (by decide +kernel) rfl rfl rfl
    · refine ⟨_, 68, rfl, rfl, ?_⟩
      exact bodyC (fun pc => Nat.ble 36 pc && Nat.ble pc 75) (by unfold kOut; rw [if_neg (by omega)]) (by decide +kernel) rfl rfl rfl
theorem fC128 {a1 : Int32} (hR : Rel 1 nt np M r) (hG : Gd nt np r) (hc : M 1 7 = -1) (hS : Rs w z nu M) (hz : ∀ s, s < 4 → ∃ k, k ≤ 40 ∧ z s = nI k) (hct : M 52 1 = c) (hk6 : M 0 6 = k6) : ∀ o D, mT X 128 [.ref 0, .int a1] (con M) o D → qC M (kOut 7 a1) o D := by
  have hV := hG.2.2.1
  have hn8 := hV.1
  have hp8 := hV.2.1
  refine al_of (Q := qC M (kOut 7 a1)) (row := _) rfl ?_
  have hm : mMet 128 = some _ := rfl
  refine y_iload_n hm rfl rfl ?_
  refine y_ts hm rfl (fun h1 => ⟨115, rfl, ?_⟩) (fun i1 h1 g1 => ?_)
  · refine y_aload_n hm rfl rfl ?_
    refine y_ldcI hm rfl (v := (-1000001 : Int32)) (by decide) ?_
    refine y_callV hm rfl rfl (e7 (by decide)) ?_
    refine y_iret hm rfl rfl (by first | rfl | exact bI_nar | decide) ?_
    exact tC (by unfold kOut; rw [if_pos (by assumption)]) (by first | decide | assumption | exact lkS_fd (by assumption))
  · have k1 : i1 = 0 ∨ i1 = 1 ∨ i1 = 2 ∨ i1 = 3 ∨ i1 = 4 ∨ i1 = 5 ∨ i1 = 6 ∨ i1 = 7 := by omega
    rcases k1 with rfl | rfl | rfl | rfl | rfl | rfl | rfl | rfl
    · refine ⟨_, 48, rfl, rfl, ?_⟩
      exact bodyC (fun pc => Nat.ble 48 pc && Nat.ble pc 114) (by unfold kOut; rw [if_neg (by omega)]) (by decide +kernel) rfl rfl rfl
    · refine ⟨_, 56, rfl, rfl, ?_⟩
      exact bodyC (fun pc => Nat.ble 48 pc && Nat.ble pc 114) (by unfold kOut; rw [if_neg (by omega)]) (by decide +kernel) rfl rfl rfl
    · refine ⟨_, 64, rfl, rfl, ?_⟩
      exact bodyC (fun pc => Nat.ble 48 pc && Nat.ble pc 114) (by unfold kOut; rw [if_neg (by omega)]) (by decide +kernel) rfl rfl rfl
    · refine ⟨_, 72, rfl, rfl, ?_⟩
      exact bodyC (fun pc => Nat.ble 48 pc && Nat.ble pc 114) (by unfold kOut; rw [if_neg (by omega)]) (by decide +kernel) rfl rfl rfl
    · refine ⟨_, 83, rfl, rfl, ?_⟩
      exact bodyC (fun pc => Nat.ble 48 pc && Nat.ble pc 114) (by unfold kOut; rw [if_neg (by omega)]) (by decide +kernel) rfl rfl rfl
    · refine ⟨_, 91, rfl, rfl, ?_⟩
      exact bodyC (fun pc => Nat.ble 48 pc && Nat.ble pc 114) (by unfold kOut; rw [if_neg (by omega)]) (by decide +kernel) rfl rfl rfl
    · refine ⟨_, 99, rfl, rfl, ?_⟩
      exact bodyC (fun pc => Nat.ble 48 pc && Nat.ble pc 114) (by unfold kOut; rw [if_neg (by omega)]) (by decide +kernel) rfl rfl rfl
    · refine ⟨_, 107, rfl, rfl, ?_⟩
      exact bodyC (fun pc => Nat.ble 48 pc && Nat.ble pc 114) (by unfold kOut; rw [if_neg (by omega)]) (by decide +kernel) rfl rfl rfl
theorem fC41 {a1 a2 : Int32} (hR : Rel 1 nt np M r) (hG : Gd nt np r) (hc : M 1 7 = -1) (hS : Rs w z nu M) (hz : ∀ s, s < 4 → ∃ k, k ≤ 40 ∧ z s = nI k) (hct : M 52 1 = c) (hk6 : M 0 6 = k6) : ∀ o D, mT X 41 [.ref 0, .int a1, .int a2] (con M) o D → qC M (qAhead r nt np a1 a2) o D := by
  have hV := hG.2.2.1
  have hn8 := hV.1
  have hp8 := hV.2.1
  refine al_of (Q := qC M (qAhead r nt np a1 a2)) (row := _) rfl ?_
  have hm : mMet 41 = some _ := rfl
  refine y_aload_n hm rfl rfl ?_
  refine y_getf hm rfl (gR rfl rfl) ?_
  refine y_iload_n hm rfl rfl ?_
  refine y_callV hm rfl rfl (t10 (by decide)) ?_
  rw [hR.1]
  refine y_if_eq hm rfl (t := 21) rfl (fun h1 => ?_) (fun h1 => ?_)
  · refine y_aload_n hm rfl rfl ?_
    refine y_ldcI hm rfl (v := (-1000001 : Int32)) (by decide) ?_
    refine y_callV hm rfl rfl (e7 (by decide)) ?_
    refine y_iret hm rfl rfl (by first | rfl | exact bI_nar | decide) ?_
    first
      | (exact tC (by unfold qAhead; rw [if_pos (by assumption)]) (by first | decide | assumption | exact lkS_fd (by assumption)))
      | (exact tC (by unfold qAhead; rw [if_neg (by assumption), if_pos (by assumption)]) (by first | decide | assumption | exact lkS_fd (by assumption)))
  · refine y_iload_n hm rfl rfl ?_
    refine y_iconst hm rfl (v := nI 0) (by decide) ?_
    refine y_bipush hm rfl (v := nI 100) (by decide) ?_
    refine y_callS hm rfl rfl (t6) ?_
    refine y_if_ne hm rfl (t := 28) rfl (fun h2 => ?_) (fun h2 => ?_)
    · exact bodyC (fun pc => Nat.ble 28 pc) (by unfold qAhead; rw [if_neg (by assumption), if_neg (by assumption)]) (by decide +kernel) rfl rfl rfl
    · refine y_aload_n hm rfl rfl ?_
      refine y_ldcI hm rfl (v := (-1000001 : Int32)) (by decide) ?_
      refine y_callV hm rfl rfl (e7 (by decide)) ?_
      refine y_iret hm rfl rfl (by first | rfl | exact bI_nar | decide) ?_
      first
        | (exact tC (by unfold qAhead; rw [if_pos (by assumption)]) (by first | decide | assumption | exact lkS_fd (by assumption)))
        | (exact tC (by unfold qAhead; rw [if_neg (by assumption), if_pos (by assumption)]) (by first | decide | assumption | exact lkS_fd (by assumption)))
theorem fC45 {a1 : Int32} (hR : Rel 1 nt np M r) (hG : Gd nt np r) (hc : M 1 7 = -1) (hS : Rs w z nu M) (hz : ∀ s, s < 4 → ∃ k, k ≤ 40 ∧ z s = nI k) (hct : M 52 1 = c) (hk6 : M 0 6 = k6) : ∀ o D, mT X 45 [.ref 0, .int a1] (con M) o D → qC M (qGone r nt np a1) o D := by
  have hV := hG.2.2.1
  have hn8 := hV.1
  have hp8 := hV.2.1
  refine al_of (Q := qC M (qGone r nt np a1)) (row := _) rfl ?_
  have hm : mMet 45 = some _ := rfl
  refine y_iload_n hm rfl rfl ?_
  refine y_iconst hm rfl (v := nI 0) (by decide) ?_
  refine y_bipush hm rfl (v := nI 100) (by decide) ?_
  refine y_callS hm rfl rfl (t6) ?_
  refine y_if_ne hm rfl (t := 17) rfl (fun h1 => ?_) (fun h1 => ?_)
  · exact bodyC (fun pc => Nat.ble 17 pc) (by unfold qGone; rw [if_neg (by assumption)]) (by decide +kernel) rfl rfl rfl
  · refine y_aload_n hm rfl rfl ?_
    refine y_ldcI hm rfl (v := (-1000001 : Int32)) (by decide) ?_
    refine y_callV hm rfl rfl (e7 (by decide)) ?_
    refine y_iret hm rfl rfl (by first | rfl | exact bI_nar | decide) ?_
    exact tC (by unfold qGone; rw [if_pos (by assumption)]) (by first | decide | assumption | exact lkS_fd (by assumption))
theorem fC46 {a1 : Int32} (hR : Rel 1 nt np M r) (hG : Gd nt np r) (hc : M 1 7 = -1) (hS : Rs w z nu M) (hz : ∀ s, s < 4 → ∃ k, k ≤ 40 ∧ z s = nI k) (hct : M 52 1 = c) (hk6 : M 0 6 = k6) : ∀ o D, mT X 46 [.ref 0, .int a1] (con M) o D → qC M (qWorn r nt np a1) o D := by
  have hV := hG.2.2.1
  have hn8 := hV.1
  have hp8 := hV.2.1
  refine al_of (Q := qC M (qWorn r nt np a1)) (row := _) rfl ?_
  have hm : mMet 46 = some _ := rfl
  refine y_iload_n hm rfl rfl ?_
  refine y_iconst hm rfl (v := nI 0) (by decide) ?_
  refine y_bipush hm rfl (v := nI 100) (by decide) ?_
  refine y_callS hm rfl rfl (t6) ?_
  refine y_if_ne hm rfl (t := 17) rfl (fun h1 => ?_) (fun h1 => ?_)
  · exact bodyC (fun pc => Nat.ble 17 pc) (by unfold qWorn; rw [if_neg (by assumption)]) (by decide +kernel) rfl rfl rfl
  · refine y_aload_n hm rfl rfl ?_
    refine y_ldcI hm rfl (v := (-1000001 : Int32)) (by decide) ?_
    refine y_callV hm rfl rfl (e7 (by decide)) ?_
    refine y_iret hm rfl rfl (by first | rfl | exact bI_nar | decide) ?_
    exact tC (by unfold qWorn; rw [if_pos (by assumption)]) (by first | decide | assumption | exact lkS_fd (by assumption))
theorem fC48 {a1 a2 : Int32} (hR : Rel 1 nt np M r) (hG : Gd nt np r) (hc : M 1 7 = -1) (hS : Rs w z nu M) (hz : ∀ s, s < 4 → ∃ k, k ≤ 40 ∧ z s = nI k) (hct : M 52 1 = c) (hk6 : M 0 6 = k6) : ∀ o D, mT X 48 [.ref 0, .int a1, .int a2] (con M) o D → qC M (qKind r nt np a1 a2) o D := by
  have hV := hG.2.2.1
  have hn8 := hV.1
  have hp8 := hV.2.1
  refine al_of (Q := qC M (qKind r nt np a1 a2)) (row := _) rfl ?_
  have hm : mMet 48 = some _ := rfl
  refine y_aload_n hm rfl rfl ?_
  refine y_getf hm rfl (gR rfl rfl) ?_
  refine y_iload_n hm rfl rfl ?_
  refine y_callV hm rfl rfl (t19 (by decide)) ?_
  rw [hR.2.1]
  refine y_if_eq hm rfl (t := 21) rfl (fun h1 => ?_) (fun h1 => ?_)
  · refine y_aload_n hm rfl rfl ?_
    refine y_ldcI hm rfl (v := (-1000001 : Int32)) (by decide) ?_
    refine y_callV hm rfl rfl (e7 (by decide)) ?_
    refine y_iret hm rfl rfl (by first | rfl | exact bI_nar | decide) ?_
    first
      | (exact tC (by unfold qKind; rw [if_pos (by assumption)]) (by first | decide | assumption | exact lkS_fd (by assumption)))
      | (exact tC (by unfold qKind; rw [if_neg (by assumption), if_pos (by assumption)]) (by first | decide | assumption | exact lkS_fd (by assumption)))
  · refine y_iload_n hm rfl rfl ?_
    refine y_iconst hm rfl (v := nI 0) (by decide) ?_
    refine y_bipush hm rfl (v := nI 60) (by decide) ?_
    refine y_callS hm rfl rfl (t6) ?_
    refine y_if_ne hm rfl (t := 28) rfl (fun h2 => ?_) (fun h2 => ?_)
    · exact bodyC (fun pc => Nat.ble 28 pc) (by unfold qKind; rw [if_neg (by assumption), if_neg (by assumption)]) (by decide +kernel) rfl rfl rfl
    · refine y_aload_n hm rfl rfl ?_
      refine y_ldcI hm rfl (v := (-1000001 : Int32)) (by decide) ?_
      refine y_callV hm rfl rfl (e7 (by decide)) ?_
      refine y_iret hm rfl rfl (by first | rfl | exact bI_nar | decide) ?_
      first
        | (exact tC (by unfold qKind; rw [if_pos (by assumption)]) (by first | decide | assumption | exact lkS_fd (by assumption)))
        | (exact tC (by unfold qKind; rw [if_neg (by assumption), if_pos (by assumption)]) (by first | decide | assumption | exact lkS_fd (by assumption)))
theorem fC50 {a1 a2 : Int32} (hR : Rel 1 nt np M r) (hG : Gd nt np r) (hc : M 1 7 = -1) (hS : Rs w z nu M) (hz : ∀ s, s < 4 → ∃ k, k ≤ 40 ∧ z s = nI k) (hct : M 52 1 = c) (hk6 : M 0 6 = k6) : ∀ o D, mT X 50 [.ref 0, .int a1, .int a2] (con M) o D → qC M (qWalk r nt np a1 a2) o D := by
  have hV := hG.2.2.1
  have hn8 := hV.1
  have hp8 := hV.2.1
  refine al_of (Q := qC M (qWalk r nt np a1 a2)) (row := _) rfl ?_
  have hm : mMet 50 = some _ := rfl
  refine y_aload_n hm rfl rfl ?_
  refine y_getf hm rfl (gR rfl rfl) ?_
  refine y_iload_n hm rfl rfl ?_
  refine y_callV hm rfl rfl (t19 (by decide)) ?_
  rw [hR.2.1]
  refine y_if_eq hm rfl (t := 21) rfl (fun h1 => ?_) (fun h1 => ?_)
  · refine y_aload_n hm rfl rfl ?_
    refine y_ldcI hm rfl (v := (-1000001 : Int32)) (by decide) ?_
    refine y_callV hm rfl rfl (e7 (by decide)) ?_
    refine y_iret hm rfl rfl (by first | rfl | exact bI_nar | decide) ?_
    first
      | (exact tC (by unfold qWalk; rw [if_pos (by assumption)]) (by first | decide | assumption | exact lkS_fd (by assumption)))
      | (exact tC (by unfold qWalk; rw [if_neg (by assumption), if_pos (by assumption)]) (by first | decide | assumption | exact lkS_fd (by assumption)))
  · refine y_iload_n hm rfl rfl ?_
    refine y_iconst hm rfl (v := nI 0) (by decide) ?_
    refine y_bipush hm rfl (v := nI 60) (by decide) ?_
    refine y_callS hm rfl rfl (t6) ?_
    refine y_if_ne hm rfl (t := 28) rfl (fun h2 => ?_) (fun h2 => ?_)
    · exact bodyC (fun pc => Nat.ble 28 pc) (by unfold qWalk; rw [if_neg (by assumption), if_neg (by assumption)]) (by decide +kernel) rfl rfl rfl
    · refine y_aload_n hm rfl rfl ?_
      refine y_ldcI hm rfl (v := (-1000001 : Int32)) (by decide) ?_
      refine y_callV hm rfl rfl (e7 (by decide)) ?_
      refine y_iret hm rfl rfl (by first | rfl | exact bI_nar | decide) ?_
      first
        | (exact tC (by unfold qWalk; rw [if_pos (by assumption)]) (by first | decide | assumption | exact lkS_fd (by assumption)))
        | (exact tC (by unfold qWalk; rw [if_neg (by assumption), if_pos (by assumption)]) (by first | decide | assumption | exact lkS_fd (by assumption)))
theorem fC51 {a1 a2 : Int32} (hR : Rel 1 nt np M r) (hG : Gd nt np r) (hc : M 1 7 = -1) (hS : Rs w z nu M) (hz : ∀ s, s < 4 → ∃ k, k ≤ 40 ∧ z s = nI k) (hct : M 52 1 = c) (hk6 : M 0 6 = k6) : ∀ o D, mT X 51 [.ref 0, .int a1, .int a2] (con M) o D → qC M (qPlace r nt np a1 a2) o D := by
  have hV := hG.2.2.1
  have hn8 := hV.1
  have hp8 := hV.2.1
  refine al_of (Q := qC M (qPlace r nt np a1 a2)) (row := _) rfl ?_
  have hm : mMet 51 = some _ := rfl
  refine y_aload_n hm rfl rfl ?_
  refine y_getf hm rfl (gR rfl rfl) ?_
  refine y_iload_n hm rfl rfl ?_
  refine y_callV hm rfl rfl (t10 (by decide)) ?_
  rw [hR.1]
  refine y_if_eq hm rfl (t := 21) rfl (fun h1 => ?_) (fun h1 => ?_)
  · refine y_aload_n hm rfl rfl ?_
    refine y_ldcI hm rfl (v := (-1000001 : Int32)) (by decide) ?_
    refine y_callV hm rfl rfl (e7 (by decide)) ?_
    refine y_iret hm rfl rfl (by first | rfl | exact bI_nar | decide) ?_
    first
      | (exact tC (by unfold qPlace; rw [if_pos (by assumption)]) (by first | decide | assumption | exact lkS_fd (by assumption)))
      | (exact tC (by unfold qPlace; rw [if_neg (by assumption), if_pos (by assumption)]) (by first | decide | assumption | exact lkS_fd (by assumption)))
  · refine y_iload_n hm rfl rfl ?_
    refine y_iconst hm rfl (v := nI 0) (by decide) ?_
    refine y_bipush hm rfl (v := nI 60) (by decide) ?_
    refine y_callS hm rfl rfl (t6) ?_
    refine y_if_ne hm rfl (t := 28) rfl (fun h2 => ?_) (fun h2 => ?_)
    · exact bodyC (fun pc => Nat.ble 28 pc) (by unfold qPlace; rw [if_neg (by assumption), if_neg (by assumption)]) (by decide +kernel) rfl rfl rfl
    · refine y_aload_n hm rfl rfl ?_
      refine y_ldcI hm rfl (v := (-1000001 : Int32)) (by decide) ?_
      refine y_callV hm rfl rfl (e7 (by decide)) ?_
      refine y_iret hm rfl rfl (by first | rfl | exact bI_nar | decide) ?_
      first
        | (exact tC (by unfold qPlace; rw [if_pos (by assumption)]) (by first | decide | assumption | exact lkS_fd (by assumption)))
        | (exact tC (by unfold qPlace; rw [if_neg (by assumption), if_pos (by assumption)]) (by first | decide | assumption | exact lkS_fd (by assumption)))
theorem fC55 {a1 a2 : Int32} (hR : Rel 1 nt np M r) (hG : Gd nt np r) (hc : M 1 7 = -1) (hS : Rs w z nu M) (hz : ∀ s, s < 4 → ∃ k, k ≤ 40 ∧ z s = nI k) (hct : M 52 1 = c) (hk6 : M 0 6 = k6) : ∀ o D, mT X 55 [.ref 0, .int a1, .int a2] (con M) o D → qC M (qPaint r nt np a1 a2) o D := by
  have hV := hG.2.2.1
  have hn8 := hV.1
  have hp8 := hV.2.1
  refine al_of (Q := qC M (qPaint r nt np a1 a2)) (row := _) rfl ?_
  have hm : mMet 55 = some _ := rfl
  refine y_iload_n hm rfl rfl ?_
  refine y_iconst hm rfl (v := nI 0) (by decide) ?_
  refine y_bipush hm rfl (v := nI 8) (by decide) ?_
  refine y_callS hm rfl rfl (t6) ?_
  refine y_if_eq hm rfl (t := 20) rfl (fun h1 => ?_) (fun h1 => ?_)
  · refine y_aload_n hm rfl rfl ?_
    refine y_ldcI hm rfl (v := (-1000001 : Int32)) (by decide) ?_
    refine y_callV hm rfl rfl (e7 (by decide)) ?_
    refine y_iret hm rfl rfl (by first | rfl | exact bI_nar | decide) ?_
    first
      | (exact tC (by unfold qPaint; rw [if_pos (by assumption)]) (by first | decide | assumption | exact lkS_fd (by assumption)))
      | (exact tC (by unfold qPaint; rw [if_neg (by assumption), if_pos (by assumption)]) (by first | decide | assumption | exact lkS_fd (by assumption)))
  · refine y_iload_n hm rfl rfl ?_
    refine y_iconst hm rfl (v := nI 0) (by decide) ?_
    refine y_bipush hm rfl (v := nI 60) (by decide) ?_
    refine y_callS hm rfl rfl (t6) ?_
    refine y_if_ne hm rfl (t := 27) rfl (fun h2 => ?_) (fun h2 => ?_)
    · exact bodyC (fun pc => Nat.ble 27 pc) (by unfold qPaint; rw [if_neg (by assumption), if_neg (by assumption)]) (by decide +kernel) rfl rfl rfl
    · refine y_aload_n hm rfl rfl ?_
      refine y_ldcI hm rfl (v := (-1000001 : Int32)) (by decide) ?_
      refine y_callV hm rfl rfl (e7 (by decide)) ?_
      refine y_iret hm rfl rfl (by first | rfl | exact bI_nar | decide) ?_
      first
        | (exact tC (by unfold qPaint; rw [if_pos (by assumption)]) (by first | decide | assumption | exact lkS_fd (by assumption)))
        | (exact tC (by unfold qPaint; rw [if_neg (by assumption), if_pos (by assumption)]) (by first | decide | assumption | exact lkS_fd (by assumption)))
theorem fC60 {a1 : Int32} (hR : Rel 1 nt np M r) (hG : Gd nt np r) (hc : M 1 7 = -1) (hS : Rs w z nu M) (hz : ∀ s, s < 4 → ∃ k, k ≤ 40 ∧ z s = nI k) (hct : M 52 1 = c) (hk6 : M 0 6 = k6) : ∀ o D, mT X 60 [.ref 0, .int a1] (con M) o D → qC M (kT nt a1) o D := by
  have hV := hG.2.2.1
  have hn8 := hV.1
  have hp8 := hV.2.1
  refine al_of (Q := qC M (kT nt a1)) (row := _) rfl ?_
  have hm : mMet 60 = some _ := rfl
  refine y_aload_n hm rfl rfl ?_
  refine y_getf hm rfl (gR rfl rfl) ?_
  refine y_iload_n hm rfl rfl ?_
  refine y_callV hm rfl rfl (t10 (by decide)) ?_
  rw [hR.1]
  refine y_if_eq hm rfl (t := 22) rfl (fun h1 => ?_) (fun h1 => ?_)
  · refine y_aload_n hm rfl rfl ?_
    refine y_ldcI hm rfl (v := (-1000001 : Int32)) (by decide) ?_
    refine y_callV hm rfl rfl (e7 (by decide)) ?_
    refine y_iret hm rfl rfl (by first | rfl | exact bI_nar | decide) ?_
    exact tC (by unfold kT; rw [if_pos (by assumption)]) (by first | decide | assumption | exact lkS_fd (by assumption))
  · exact bodyC (fun pc => (Nat.ble 11 pc && Nat.ble pc 19) || Nat.beq pc 28) (by unfold kT; rw [if_neg (by assumption)]) (by decide +kernel) rfl rfl rfl
theorem fC61 {a1 : Int32} (hR : Rel 1 nt np M r) (hG : Gd nt np r) (hc : M 1 7 = -1) (hS : Rs w z nu M) (hz : ∀ s, s < 4 → ∃ k, k ≤ 40 ∧ z s = nI k) (hct : M 52 1 = c) (hk6 : M 0 6 = k6) : ∀ o D, mT X 61 [.ref 0, .int a1] (con M) o D → qC M (kT nt a1) o D := by
  have hV := hG.2.2.1
  have hn8 := hV.1
  have hp8 := hV.2.1
  refine al_of (Q := qC M (kT nt a1)) (row := _) rfl ?_
  have hm : mMet 61 = some _ := rfl
  refine y_aload_n hm rfl rfl ?_
  refine y_getf hm rfl (gR rfl rfl) ?_
  refine y_iload_n hm rfl rfl ?_
  refine y_callV hm rfl rfl (t10 (by decide)) ?_
  rw [hR.1]
  refine y_if_eq hm rfl (t := 22) rfl (fun h1 => ?_) (fun h1 => ?_)
  · refine y_aload_n hm rfl rfl ?_
    refine y_ldcI hm rfl (v := (-1000001 : Int32)) (by decide) ?_
    refine y_callV hm rfl rfl (e7 (by decide)) ?_
    refine y_iret hm rfl rfl (by first | rfl | exact bI_nar | decide) ?_
    exact tC (by unfold kT; rw [if_pos (by assumption)]) (by first | decide | assumption | exact lkS_fd (by assumption))
  · exact bodyC (fun pc => (Nat.ble 11 pc && Nat.ble pc 19) || Nat.beq pc 28) (by unfold kT; rw [if_neg (by assumption)]) (by decide +kernel) rfl rfl rfl
theorem fC63 (hR : Rel 1 nt np M r) (hG : Gd nt np r) (hc : M 1 7 = -1) (hS : Rs w z nu M) (hz : ∀ s, s < 4 → ∃ k, k ≤ 40 ∧ z s = nI k) (hct : M 52 1 = c) (hk6 : M 0 6 = k6) : ∀ o D, mT X 63 [.ref 0] (con M) o D → qC M (kKey r nt) o D := by
  have hV := hG.2.2.1
  have hn8 := hV.1
  have hp8 := hV.2.1
  refine al_of (Q := qC M (kKey r nt)) (row := _) rfl ?_
  have hm : mMet 63 = some _ := rfl
  refine y_aload_n hm rfl rfl ?_
  refine y_getf hm rfl (gR rfl rfl) ?_
  refine y_getf hm rfl (gI rfl rfl) ?_
  rw [hR.1]
  refine y_if_ne hm rfl (t := 17) rfl (fun h1 => ?_) (fun h1 => ?_)
  · have hnt0 : 0 < nt := Nat.pos_of_ne_zero fun e => h1 (by rw [e]; rfl)
    have hq : (kKey r nt).2 = false := by
      unfold kKey
      rcases key_k (r := r) hn8 nt (Nat.le_refl _) with ⟨e, -⟩ | ⟨j, hj, e⟩
      · omega
      · exact orN_2 e (by omega)
    exact bodyC (fun pc => Nat.ble 17 pc) hq (by decide +kernel) rfl rfl rfl
  · have hnt0 : nt = 0 := jI_inj (by omega) (by decide) h1
    refine y_aload_n hm rfl rfl ?_
    refine y_ldcI hm rfl (v := (-1000004 : Int32)) (by decide) ?_
    refine y_callV hm rfl rfl (e7 (by decide)) ?_
    refine y_iret hm rfl rfl (by first | rfl | exact bI_nar | decide) ?_
    have hq : kKey r nt = (-1000004, true) := by
      unfold kKey
      rw [show fo (sKs r nt) nt (-1, nI 0) = (-1, nI 0) by rw [hnt0]; rfl]
      exact orN_m
    exact tC hq (by first | decide | assumption | exact lkS_fd (by assumption))
theorem fC65 {a1 a2 : Int32} (hR : Rel 1 nt np M r) (hG : Gd nt np r) (hc : M 1 7 = -1) (hS : Rs w z nu M) (hz : ∀ s, s < 4 → ∃ k, k ≤ 40 ∧ z s = nI k) (hct : M 52 1 = c) (hk6 : M 0 6 = k6) : ∀ o D, mT X 65 [.ref 0, .int a1, .int a2] (con M) o D → qC M (kWorth nt np a1 a2) o D := by
  have hV := hG.2.2.1
  have hn8 := hV.1
  have hp8 := hV.2.1
  refine al_of (Q := qC M (kWorth nt np a1 a2)) (row := _) rfl ?_
  have hm : mMet 65 = some _ := rfl
  refine y_aload_n hm rfl rfl ?_
  refine y_getf hm rfl (gR rfl rfl) ?_
  refine y_iload_n hm rfl rfl ?_
  refine y_callV hm rfl rfl (t19 (by decide)) ?_
  rw [hR.2.1]
  refine y_if_eq hm rfl (t := 22) rfl (fun h1 => ?_) (fun h1 => ?_)
  · refine y_aload_n hm rfl rfl ?_
    refine y_ldcI hm rfl (v := (-1000001 : Int32)) (by decide) ?_
    refine y_callV hm rfl rfl (e7 (by decide)) ?_
    refine y_iret hm rfl rfl (by first | rfl | exact bI_nar | decide) ?_
    first
      | (exact tC (by unfold kWorth; rw [if_pos (by assumption)]) (by first | decide | assumption | exact lkS_fd (by assumption)))
      | (exact tC (by unfold kWorth; rw [if_neg (by assumption), if_pos (by assumption)]) (by first | decide | assumption | exact lkS_fd (by assumption)))
  · refine y_aload_n hm rfl rfl ?_
    refine y_getf hm rfl (gR rfl rfl) ?_
    refine y_iload_n hm rfl rfl ?_
    refine y_callV hm rfl rfl (t66 (by decide) hR.1 hn8) ?_
    refine y_if_ne hm rfl (t := 29) rfl (fun h2 => ?_) (fun h2 => ?_)
    · exact bodyC (fun pc => Nat.ble 29 pc) (by unfold kWorth; rw [if_neg (by assumption), if_neg (by assumption)]) (by decide +kernel) rfl rfl rfl
    · refine y_aload_n hm rfl rfl ?_
      refine y_ldcI hm rfl (v := (-1000001 : Int32)) (by decide) ?_
      refine y_callV hm rfl rfl (e7 (by decide)) ?_
      refine y_iret hm rfl rfl (by first | rfl | exact bI_nar | decide) ?_
      first
        | (exact tC (by unfold kWorth; rw [if_pos (by assumption)]) (by first | decide | assumption | exact lkS_fd (by assumption)))
        | (exact tC (by unfold kWorth; rw [if_neg (by assumption), if_pos (by assumption)]) (by first | decide | assumption | exact lkS_fd (by assumption)))
theorem fC72 {a1 a2 a3 : Int32} (hR : Rel 1 nt np M r) (hG : Gd nt np r) (hc : M 1 7 = -1) (hS : Rs w z nu M) (hz : ∀ s, s < 4 → ∃ k, k ≤ 40 ∧ z s = nI k) (hct : M 52 1 = c) (hk6 : M 0 6 = k6) : ∀ o D, mT X 72 [.ref 0, .int a1, .int a2, .int a3] (con M) o D → qC M (kCD nt np a1 a2 a3) o D := by
  have hV := hG.2.2.1
  have hn8 := hV.1
  have hp8 := hV.2.1
  refine al_of (Q := qC M (kCD nt np a1 a2 a3)) (row := _) rfl ?_
  have hm : mMet 72 = some _ := rfl
  refine y_aload_n hm rfl rfl ?_
  refine y_iload_n hm rfl rfl ?_
  refine y_iload_n hm rfl rfl ?_
  refine y_iload_n hm rfl rfl ?_
  refine y_callV hm rfl rfl (gv69 hR hn8) ?_
  refine y_if_ne hm rfl (t := 17) rfl (fun h1 => ?_) (fun h1 => ?_)
  · exact bodyC (fun pc => Nat.ble 17 pc) (by unfold kCD; rw [if_neg (by assumption)]) (by decide +kernel) rfl rfl rfl
  · refine y_aload_n hm rfl rfl ?_
    refine y_ldcI hm rfl (v := (-1000001 : Int32)) (by decide) ?_
    refine y_callV hm rfl rfl (e7 (by decide)) ?_
    refine y_iret hm rfl rfl (by first | rfl | exact bI_nar | decide) ?_
    exact tC (by unfold kCD; rw [if_pos (by assumption)]) (by first | decide | assumption | exact lkS_fd (by assumption))
theorem fC73 {a1 a2 a3 : Int32} (hR : Rel 1 nt np M r) (hG : Gd nt np r) (hc : M 1 7 = -1) (hS : Rs w z nu M) (hz : ∀ s, s < 4 → ∃ k, k ≤ 40 ∧ z s = nI k) (hct : M 52 1 = c) (hk6 : M 0 6 = k6) : ∀ o D, mT X 73 [.ref 0, .int a1, .int a2, .int a3] (con M) o D → qC M (kCD nt np a1 a2 a3) o D := by
  have hV := hG.2.2.1
  have hn8 := hV.1
  have hp8 := hV.2.1
  refine al_of (Q := qC M (kCD nt np a1 a2 a3)) (row := _) rfl ?_
  have hm : mMet 73 = some _ := rfl
  refine y_aload_n hm rfl rfl ?_
  refine y_iload_n hm rfl rfl ?_
  refine y_iload_n hm rfl rfl ?_
  refine y_iload_n hm rfl rfl ?_
  refine y_callV hm rfl rfl (gv69 hR hn8) ?_
  refine y_if_ne hm rfl (t := 17) rfl (fun h1 => ?_) (fun h1 => ?_)
  · exact bodyC (fun pc => Nat.ble 17 pc) (by unfold kCD; rw [if_neg (by assumption)]) (by decide +kernel) rfl rfl rfl
  · refine y_aload_n hm rfl rfl ?_
    refine y_ldcI hm rfl (v := (-1000001 : Int32)) (by decide) ?_
    refine y_callV hm rfl rfl (e7 (by decide)) ?_
    refine y_iret hm rfl rfl (by first | rfl | exact bI_nar | decide) ?_
    exact tC (by unfold kCD; rw [if_pos (by assumption)]) (by first | decide | assumption | exact lkS_fd (by assumption))
theorem fC84 {a1 a2 : Int32} (hR : Rel 1 nt np M r) (hG : Gd nt np r) (hc : M 1 7 = -1) (hS : Rs w z nu M) (hz : ∀ s, s < 4 → ∃ k, k ≤ 40 ∧ z s = nI k) (hct : M 52 1 = c) (hk6 : M 0 6 = k6) : ∀ o D, mT X 84 [.ref 0, .int a1, .int a2] (con M) o D → qC M (kOdds a1 a2) o D := by
  have hV := hG.2.2.1
  have hn8 := hV.1
  have hp8 := hV.2.1
  refine al_of (Q := qC M (kOdds a1 a2)) (row := _) rfl ?_
  have hm : mMet 84 = some _ := rfl
  refine y_iload_n hm rfl rfl ?_
  refine y_iconst hm rfl (v := nI 0) (by decide) ?_
  refine y_bipush hm rfl (v := nI 14) (by decide) ?_
  refine y_callS hm rfl rfl (t6) ?_
  refine y_if_eq hm rfl (t := 19) rfl (fun h1 => ?_) (fun h1 => ?_)
  · refine y_aload_n hm rfl rfl ?_
    refine y_ldcI hm rfl (v := (-1000001 : Int32)) (by decide) ?_
    refine y_callV hm rfl rfl (e7 (by decide)) ?_
    refine y_i2l hm rfl ?_
    refine y_lret hm rfl rfl ?_
    first
      | (exact tC (by unfold kOdds; rw [if_pos (by assumption)]) (by first | decide | assumption | exact lkS_fd (by assumption)))
      | (exact tC (by unfold kOdds; rw [if_neg (by assumption), if_pos (by assumption)]) (by first | decide | assumption | exact lkS_fd (by assumption)))
  · refine y_iload_n hm rfl rfl ?_
    refine y_iconst hm rfl (v := nI 0) (by decide) ?_
    refine y_iconst hm rfl (v := nI 1) (by decide) ?_
    refine y_callS hm rfl rfl (t6) ?_
    refine y_if_ne hm rfl (t := 27) rfl (fun h2 => ?_) (fun h2 => ?_)
    · exact bodyC (fun pc => Nat.ble 27 pc) (by unfold kOdds; rw [if_neg (by assumption), if_neg (by assumption)]) (by decide +kernel) rfl rfl rfl
    · refine y_aload_n hm rfl rfl ?_
      refine y_ldcI hm rfl (v := (-1000001 : Int32)) (by decide) ?_
      refine y_callV hm rfl rfl (e7 (by decide)) ?_
      refine y_i2l hm rfl ?_
      refine y_lret hm rfl rfl ?_
      first
        | (exact tC (by unfold kOdds; rw [if_pos (by assumption)]) (by first | decide | assumption | exact lkS_fd (by assumption)))
        | (exact tC (by unfold kOdds; rw [if_neg (by assumption), if_pos (by assumption)]) (by first | decide | assumption | exact lkS_fd (by assumption)))
theorem fC87 {a1 a2 : Int32} (hR : Rel 1 nt np M r) (hG : Gd nt np r) (hc : M 1 7 = -1) (hS : Rs w z nu M) (hz : ∀ s, s < 4 → ∃ k, k ≤ 40 ∧ z s = nI k) (hct : M 52 1 = c) (hk6 : M 0 6 = k6) : ∀ o D, mT X 87 [.ref 0, .int a1, .int a2] (con M) o D → qC M (kFeed c a1 a2) o D := by
  have hV := hG.2.2.1
  have hn8 := hV.1
  have hp8 := hV.2.1
  refine al_of (Q := qC M (kFeed c a1 a2)) (row := _) rfl ?_
  have hm : mMet 87 = some _ := rfl
  refine y_iload_n hm rfl rfl ?_
  refine y_iconst hm rfl (v := nI 1) (by decide) ?_
  refine y_iconst hm rfl (v := nI 4) (by decide) ?_
  refine y_callS hm rfl rfl (t6) ?_
  refine y_if_ne hm rfl (t := 16) rfl (fun h1 => ?_) (fun h1 => ?_)
  · refine y_aload_n hm rfl rfl ?_
    refine y_getf hm rfl (gR rfl rfl) ?_
    refine y_getf hm rfl (gI rfl rfl) ?_
    rw [hct]
    refine y_iload_n hm rfl rfl ?_
    refine y_iadd hm rfl ?_
    refine y_bipush hm rfl (v := nI 120) (by decide) ?_
    refine y_icmp_le hm rfl (t := 37) rfl (fun h2 => ?_) (fun h2 => ?_)
    · have hng : ¬ nI 120 < c + a2 := Int32.not_lt.mpr h2
      exact bodyC (fun pc => Nat.ble 37 pc) (by unfold kFeed; rw [if_neg (by assumption), if_neg (by assumption)]) (by decide +kernel) rfl rfl rfl
    · have hps : nI 120 < c + a2 := Int32.not_le.mp h2
      refine y_aload_n hm rfl rfl ?_
      refine y_ldcI hm rfl (v := (-1000002 : Int32)) (by decide) ?_
      refine y_callV hm rfl rfl (e7 (by decide)) ?_
      refine y_iret hm rfl rfl (by first | rfl | exact bI_nar | decide) ?_
      exact tC (by unfold kFeed; rw [if_neg (by assumption), if_pos (by assumption)]) (by first | decide | assumption | exact lkS_fd (by assumption))
  · refine y_aload_n hm rfl rfl ?_
    refine y_ldcI hm rfl (v := (-1000001 : Int32)) (by decide) ?_
    refine y_callV hm rfl rfl (e7 (by decide)) ?_
    refine y_iret hm rfl rfl (by first | rfl | exact bI_nar | decide) ?_
    exact tC (by unfold kFeed; rw [if_pos (by assumption)]) (by first | decide | assumption | exact lkS_fd (by assumption))
theorem fC114 {a1 a2 : Int32} (hR : Rel 1 nt np M r) (hG : Gd nt np r) (hc : M 1 7 = -1) (hS : Rs w z nu M) (hz : ∀ s, s < 4 → ∃ k, k ≤ 40 ∧ z s = nI k) (hct : M 52 1 = c) (hk6 : M 0 6 = k6) : ∀ o D, mT X 114 [.ref 0, .int a1, .int a2] (con M) o D → qC M (kHold np a1 a2) o D := by
  have hV := hG.2.2.1
  have hn8 := hV.1
  have hp8 := hV.2.1
  refine al_of (Q := qC M (kHold np a1 a2)) (row := _) rfl ?_
  have hm : mMet 114 = some _ := rfl
  refine y_iload_n hm rfl rfl ?_
  refine y_iconst hm rfl (v := nI 0) (by decide) ?_
  refine y_bipush hm rfl (v := nI 9) (by decide) ?_
  refine y_callS hm rfl rfl (t6) ?_
  refine y_if_eq hm rfl (t := 26) rfl (fun h1 => ?_) (fun h1 => ?_)
  · refine y_aload_n hm rfl rfl ?_
    refine y_ldcI hm rfl (v := (-1000001 : Int32)) (by decide) ?_
    refine y_callV hm rfl rfl (e7 (by decide)) ?_
    refine y_iret hm rfl rfl (by first | rfl | exact bI_nar | decide) ?_
    first
      | (exact tC (by unfold kHold; rw [if_pos (by assumption)]) (by first | decide | assumption | exact lkS_fd (by assumption)))
      | (exact tC (by unfold kHold; rw [if_neg (by assumption), if_neg (by assumption), if_pos (by assumption)]) (by first | decide | assumption | exact lkS_fd (by assumption)))
  · refine y_iload_n hm rfl rfl ?_
    refine y_iconst hm rfl (v := (-1 : Int32)) (by decide) ?_
    refine y_icmp_eq hm rfl (t := 33) rfl (fun h2 => ?_) (fun h2 => ?_)
    · first
        | (exact bodyC (fun pc => Nat.ble 33 pc) (by unfold kHold; rw [if_neg (by assumption), if_pos (by assumption)]) (by decide +kernel) rfl rfl rfl)
        | (exact bodyC (fun pc => Nat.ble 33 pc) (by unfold kHold; rw [if_neg (by assumption), if_neg (by assumption), if_neg (by assumption)]) (by decide +kernel) rfl rfl rfl)
    · refine y_aload_n hm rfl rfl ?_
      refine y_getf hm rfl (gR rfl rfl) ?_
      refine y_iload_n hm rfl rfl ?_
      refine y_callV hm rfl rfl (t19 (by decide)) ?_
      rw [hR.2.1]
      refine y_if_ne hm rfl (t := 33) rfl (fun h3 => ?_) (fun h3 => ?_)
      · first
          | (exact bodyC (fun pc => Nat.ble 33 pc) (by unfold kHold; rw [if_neg (by assumption), if_pos (by assumption)]) (by decide +kernel) rfl rfl rfl)
          | (exact bodyC (fun pc => Nat.ble 33 pc) (by unfold kHold; rw [if_neg (by assumption), if_neg (by assumption), if_neg (by assumption)]) (by decide +kernel) rfl rfl rfl)
      · refine y_aload_n hm rfl rfl ?_
        refine y_ldcI hm rfl (v := (-1000001 : Int32)) (by decide) ?_
        refine y_callV hm rfl rfl (e7 (by decide)) ?_
        refine y_iret hm rfl rfl (by first | rfl | exact bI_nar | decide) ?_
        first
          | (exact tC (by unfold kHold; rw [if_pos (by assumption)]) (by first | decide | assumption | exact lkS_fd (by assumption)))
          | (exact tC (by unfold kHold; rw [if_neg (by assumption), if_neg (by assumption), if_pos (by assumption)]) (by first | decide | assumption | exact lkS_fd (by assumption)))
theorem fC115 {a1 a2 : Int32} (hR : Rel 1 nt np M r) (hG : Gd nt np r) (hc : M 1 7 = -1) (hS : Rs w z nu M) (hz : ∀ s, s < 4 → ∃ k, k ≤ 40 ∧ z s = nI k) (hct : M 52 1 = c) (hk6 : M 0 6 = k6) : ∀ o D, mT X 115 [.ref 0, .int a1, .int a2] (con M) o D → qC M (kAs r a1 a2) o D := by
  have hV := hG.2.2.1
  have hn8 := hV.1
  have hp8 := hV.2.1
  refine al_of (Q := qC M (kAs r a1 a2)) (row := _) rfl ?_
  have hm : mMet 115 = some _ := rfl
  refine y_iload_n hm rfl rfl ?_
  refine y_iconst hm rfl (v := nI 0) (by decide) ?_
  refine y_bipush hm rfl (v := nI 9) (by decide) ?_
  refine y_callS hm rfl rfl (t6) ?_
  refine y_if_eq hm rfl (t := 20) rfl (fun h1 => ?_) (fun h1 => ?_)
  · refine y_aload_n hm rfl rfl ?_
    refine y_ldcI hm rfl (v := (-1000001 : Int32)) (by decide) ?_
    refine y_callV hm rfl rfl (e7 (by decide)) ?_
    refine y_iret hm rfl rfl (by first | rfl | exact bI_nar | decide) ?_
    first
      | (exact tC (by unfold kAs; rw [if_pos (by assumption)]) (by first | decide | assumption | exact lkS_fd (by assumption)))
      | (exact tC (by unfold kAs; rw [if_neg (by assumption), if_pos (by assumption)]) (by first | decide | assumption | exact lkS_fd (by assumption)))
  · obtain ⟨s, hs, rfl⟩ := le_k (by omega) (bI_ne0 h1)
    refine y_iload_n hm rfl rfl ?_
    refine y_iconst hm rfl (v := nI 0) (by decide) ?_
    refine y_bipush hm rfl (v := nI 6) (by decide) ?_
    refine y_callS hm rfl rfl (t6) ?_
    refine y_if_ne hm rfl (t := 27) rfl (fun h2 => ?_) (fun h2 => ?_)
    · refine y_aload_n hm rfl rfl ?_
      refine y_getf hm rfl (gR rfl rfl) ?_
      refine y_getf hm rfl (gR rfl rfl) ?_
      refine y_iload_n hm rfl rfl ?_
      refine y_iald hm rfl (lI rfl (by omega) (by decide)) ?_
      rw [show M 17 s = _ from hR.2.2.2.2.1 s (by omega)]
      refine y_istore_n hm rfl rfl ?_
      refine y_iload_n hm rfl rfl ?_
      refine y_iconst hm rfl (v := (-1 : Int32)) (by decide) ?_
      refine y_icmp_ne hm rfl (t := 49) rfl (fun h3 => ?_) (fun h3 => ?_)
      · have ny := h3
        obtain ⟨p, hp, ep⟩ := (hG.2.2.2.2.1 s (by omega)).resolve_left ny
        rw [ep]
        obtain ⟨kd, hkd, ekd⟩ := hV.kind hp
        refine y_aload_n hm rfl rfl ?_
        refine y_getf hm rfl (gR rfl rfl) ?_
        refine y_getf hm rfl (gR rfl rfl) ?_
        refine y_iconst hm rfl (v := nI 0) (by decide) ?_
        refine y_aald hm rfl (lQ _ (by decide) rfl rfl (by omega) (by decide)) ?_
        refine y_iload_n hm rfl rfl ?_
        refine y_iald hm rfl (lI rfl (by omega) (by decide)) ?_
        rw [show M 10 p = _ from hR.kind hp, ekd]
        refine y_iload_n hm rfl rfl ?_
        refine y_callS hm rfl rfl (e14 (by assumption)) ?_
        rw [← ekd]
        refine y_if_eq hm rfl (t := 71) rfl (fun h4 => ?_) (fun h4 => ?_)
        · have nu9 := bI_eq0.mp h4
          refine y_aload_n hm rfl rfl ?_
          refine y_ldcI hm rfl (v := (-1000003 : Int32)) (by decide) ?_
          refine y_callV hm rfl rfl (e7 (by decide)) ?_
          refine y_iret hm rfl rfl (by first | rfl | exact bI_nar | decide) ?_
          first
            | (have q9 := yu
               exact nC (by unfold kAs; rw [if_neg (by assumption), if_neg (by assumption), jI_nat (k := s) (by omega), if_neg ny, ep, jI_nat (k := p) (by omega), if_pos yu]))
            | (have q9 := nu9
               exact tC (by unfold kAs; rw [if_neg (by assumption), if_neg (by assumption), jI_nat (k := s) (by omega), if_neg ny, ep, jI_nat (k := p) (by omega), if_neg nu9]) (by first | decide | assumption | exact lkS_fd (by assumption)))
        · have yu := bI_ne0 h4
          refine y_iload_n hm rfl rfl ?_
          refine y_goto hm rfl (t := 77) rfl ?_
          refine y_iret hm rfl rfl (by first | rfl | exact bI_nar | decide) ?_
          first
            | (have q9 := yu
               exact nC (by unfold kAs; rw [if_neg (by assumption), if_neg (by assumption), jI_nat (k := s) (by omega), if_neg ny, ep, jI_nat (k := p) (by omega), if_pos yu]))
            | (have q9 := nu9
               exact tC (by unfold kAs; rw [if_neg (by assumption), if_neg (by assumption), jI_nat (k := s) (by omega), if_neg ny, ep, jI_nat (k := p) (by omega), if_neg nu9]) (by first | decide | assumption | exact lkS_fd (by assumption)))
      · have ym := h3
        refine y_aload_n hm rfl rfl ?_
        refine y_ldcI hm rfl (v := (-1000006 : Int32)) (by decide) ?_
        refine y_callV hm rfl rfl (e7 (by decide)) ?_
        refine y_iret hm rfl rfl (by first | rfl | exact bI_nar | decide) ?_
        exact tC (by unfold kAs; rw [if_neg (by assumption), if_neg (by assumption), jI_nat (k := s) (by omega), if_pos ym]) (by first | decide | assumption | exact lkS_fd (by assumption))
    · refine y_aload_n hm rfl rfl ?_
      refine y_ldcI hm rfl (v := (-1000001 : Int32)) (by decide) ?_
      refine y_callV hm rfl rfl (e7 (by decide)) ?_
      refine y_iret hm rfl rfl (by first | rfl | exact bI_nar | decide) ?_
      first
        | (exact tC (by unfold kAs; rw [if_pos (by assumption)]) (by first | decide | assumption | exact lkS_fd (by assumption)))
        | (exact tC (by unfold kAs; rw [if_neg (by assumption), if_pos (by assumption)]) (by first | decide | assumption | exact lkS_fd (by assumption)))
theorem fC116 {a1 a2 a3 : Int32} (hR : Rel 1 nt np M r) (hG : Gd nt np r) (hc : M 1 7 = -1) (hS : Rs w z nu M) (hz : ∀ s, s < 4 → ∃ k, k ≤ 40 ∧ z s = nI k) (hct : M 52 1 = c) (hk6 : M 0 6 = k6) : ∀ o D, mT X 116 [.ref 0, .int a1, .int a2, .int a3] (con M) o D → qC M (kSheet a1 a2 a3) o D := by
  have hV := hG.2.2.1
  have hn8 := hV.1
  have hp8 := hV.2.1
  refine al_of (Q := qC M (kSheet a1 a2 a3)) (row := _) rfl ?_
  have hm : mMet 116 = some _ := rfl
  refine y_iload_n hm rfl rfl ?_
  refine y_callS hm rfl rfl (t78) ?_
  refine y_if_eq hm rfl (t := 29) rfl (fun h1 => ?_) (fun h1 => ?_)
  · refine y_aload_n hm rfl rfl ?_
    refine y_ldcI hm rfl (v := (-1000001 : Int32)) (by decide) ?_
    refine y_callV hm rfl rfl (e7 (by decide)) ?_
    refine y_iret hm rfl rfl (by first | rfl | exact bI_nar | decide) ?_
    first
      | (exact tC (by unfold kSheet; rw [if_pos h1]) (by first | decide | assumption | exact lkS_fd (by assumption)))
      | (exact tC (by unfold kSheet; rw [if_neg h1, if_pos (okb_f (by assumption) (by assumption) (by assumption) (by assumption))]) (by first | decide | assumption | exact lkS_fd (by assumption)))
  · refine y_iload_n hm rfl rfl ?_
    refine y_if_eq hm rfl (t := 36) rfl (fun h2 => ?_) (fun h2 => ?_)
    · have hb := okb_t (Or.inl h2)
      refine y_iload_n hm rfl rfl ?_
      refine y_if_ge hm rfl (t := 47) rfl (fun h3 => ?_) (fun h3 => ?_)
      · have hn0 := h3
        refine y_iload_n hm rfl rfl ?_
        refine y_bipush hm rfl (v := nI 40) (by decide) ?_
        refine y_icmp_le hm rfl (t := 60) rfl (fun h4 => ?_) (fun h4 => ?_)
        · have hn4 := h4
          exact bodyC (fun pc => Nat.ble 60 pc) (by unfold kSheet; rw [if_neg h1, if_neg hb, if_pos hn0, if_pos hn4]) (by decide +kernel) rfl rfl rfl
        · have hn4 := h4
          refine y_aload_n hm rfl rfl ?_
          refine y_ldcI hm rfl (v := (-1000001 : Int32)) (by decide) ?_
          refine y_callV hm rfl rfl (e7 (by decide)) ?_
          refine y_iret hm rfl rfl (by first | rfl | exact bI_nar | decide) ?_
          exact tC (by unfold kSheet; rw [if_neg h1, if_neg hb, if_pos hn0, if_neg hn4]) (by first | decide | assumption | exact lkS_fd (by assumption))
      · have hn0 := h3
        refine y_aload_n hm rfl rfl ?_
        refine y_ldcI hm rfl (v := (-1000007 : Int32)) (by decide) ?_
        refine y_callV hm rfl rfl (e7 (by decide)) ?_
        refine y_iret hm rfl rfl (by first | rfl | exact bI_nar | decide) ?_
        exact tC (by unfold kSheet; rw [if_neg h1, if_neg hb, if_neg hn0]) (by first | decide | assumption | exact lkS_fd (by assumption))
    · refine y_iload_n hm rfl rfl ?_
      refine y_bipush hm rfl (v := nI 8) (by decide) ?_
      refine y_icmp_eq hm rfl (t := 36) rfl (fun h5 => ?_) (fun h5 => ?_)
      · have hb := okb_t (Or.inr (Or.inl h5))
        refine y_iload_n hm rfl rfl ?_
        refine y_if_ge hm rfl (t := 47) rfl (fun h6 => ?_) (fun h6 => ?_)
        · have hn0 := h6
          refine y_iload_n hm rfl rfl ?_
          refine y_bipush hm rfl (v := nI 40) (by decide) ?_
          refine y_icmp_le hm rfl (t := 60) rfl (fun h7 => ?_) (fun h7 => ?_)
          · have hn4 := h7
            exact bodyC (fun pc => Nat.ble 60 pc) (by unfold kSheet; rw [if_neg h1, if_neg hb, if_pos hn0, if_pos hn4]) (by decide +kernel) rfl rfl rfl
          · have hn4 := h7
            refine y_aload_n hm rfl rfl ?_
            refine y_ldcI hm rfl (v := (-1000001 : Int32)) (by decide) ?_
            refine y_callV hm rfl rfl (e7 (by decide)) ?_
            refine y_iret hm rfl rfl (by first | rfl | exact bI_nar | decide) ?_
            exact tC (by unfold kSheet; rw [if_neg h1, if_neg hb, if_pos hn0, if_neg hn4]) (by first | decide | assumption | exact lkS_fd (by assumption))
        · have hn0 := h6
          refine y_aload_n hm rfl rfl ?_
          refine y_ldcI hm rfl (v := (-1000007 : Int32)) (by decide) ?_
          refine y_callV hm rfl rfl (e7 (by decide)) ?_
          refine y_iret hm rfl rfl (by first | rfl | exact bI_nar | decide) ?_
          exact tC (by unfold kSheet; rw [if_neg h1, if_neg hb, if_neg hn0]) (by first | decide | assumption | exact lkS_fd (by assumption))
      · refine y_iload_n hm rfl rfl ?_
        refine y_bipush hm rfl (v := nI 16) (by decide) ?_
        refine y_icmp_eq hm rfl (t := 36) rfl (fun h8 => ?_) (fun h8 => ?_)
        · have hb := okb_t (Or.inr (Or.inr (Or.inl h8)))
          refine y_iload_n hm rfl rfl ?_
          refine y_if_ge hm rfl (t := 47) rfl (fun h9 => ?_) (fun h9 => ?_)
          · have hn0 := h9
            refine y_iload_n hm rfl rfl ?_
            refine y_bipush hm rfl (v := nI 40) (by decide) ?_
            refine y_icmp_le hm rfl (t := 60) rfl (fun h10 => ?_) (fun h10 => ?_)
            · have hn4 := h10
              exact bodyC (fun pc => Nat.ble 60 pc) (by unfold kSheet; rw [if_neg h1, if_neg hb, if_pos hn0, if_pos hn4]) (by decide +kernel) rfl rfl rfl
            · have hn4 := h10
              refine y_aload_n hm rfl rfl ?_
              refine y_ldcI hm rfl (v := (-1000001 : Int32)) (by decide) ?_
              refine y_callV hm rfl rfl (e7 (by decide)) ?_
              refine y_iret hm rfl rfl (by first | rfl | exact bI_nar | decide) ?_
              exact tC (by unfold kSheet; rw [if_neg h1, if_neg hb, if_pos hn0, if_neg hn4]) (by first | decide | assumption | exact lkS_fd (by assumption))
          · have hn0 := h9
            refine y_aload_n hm rfl rfl ?_
            refine y_ldcI hm rfl (v := (-1000007 : Int32)) (by decide) ?_
            refine y_callV hm rfl rfl (e7 (by decide)) ?_
            refine y_iret hm rfl rfl (by first | rfl | exact bI_nar | decide) ?_
            exact tC (by unfold kSheet; rw [if_neg h1, if_neg hb, if_neg hn0]) (by first | decide | assumption | exact lkS_fd (by assumption))
        · refine y_iload_n hm rfl rfl ?_
          refine y_bipush hm rfl (v := nI 32) (by decide) ?_
          refine y_icmp_eq hm rfl (t := 36) rfl (fun h11 => ?_) (fun h11 => ?_)
          · have hb := okb_t (Or.inr (Or.inr (Or.inr h11)))
            refine y_iload_n hm rfl rfl ?_
            refine y_if_ge hm rfl (t := 47) rfl (fun h12 => ?_) (fun h12 => ?_)
            · have hn0 := h12
              refine y_iload_n hm rfl rfl ?_
              refine y_bipush hm rfl (v := nI 40) (by decide) ?_
              refine y_icmp_le hm rfl (t := 60) rfl (fun h13 => ?_) (fun h13 => ?_)
              · have hn4 := h13
                exact bodyC (fun pc => Nat.ble 60 pc) (by unfold kSheet; rw [if_neg h1, if_neg hb, if_pos hn0, if_pos hn4]) (by decide +kernel) rfl rfl rfl
              · have hn4 := h13
                refine y_aload_n hm rfl rfl ?_
                refine y_ldcI hm rfl (v := (-1000001 : Int32)) (by decide) ?_
                refine y_callV hm rfl rfl (e7 (by decide)) ?_
                refine y_iret hm rfl rfl (by first | rfl | exact bI_nar | decide) ?_
                exact tC (by unfold kSheet; rw [if_neg h1, if_neg hb, if_pos hn0, if_neg hn4]) (by first | decide | assumption | exact lkS_fd (by assumption))
            · have hn0 := h12
              refine y_aload_n hm rfl rfl ?_
              refine y_ldcI hm rfl (v := (-1000007 : Int32)) (by decide) ?_
              refine y_callV hm rfl rfl (e7 (by decide)) ?_
              refine y_iret hm rfl rfl (by first | rfl | exact bI_nar | decide) ?_
              exact tC (by unfold kSheet; rw [if_neg h1, if_neg hb, if_neg hn0]) (by first | decide | assumption | exact lkS_fd (by assumption))
          · refine y_aload_n hm rfl rfl ?_
            refine y_ldcI hm rfl (v := (-1000001 : Int32)) (by decide) ?_
            refine y_callV hm rfl rfl (e7 (by decide)) ?_
            refine y_iret hm rfl rfl (by first | rfl | exact bI_nar | decide) ?_
            first
              | (exact tC (by unfold kSheet; rw [if_pos h1]) (by first | decide | assumption | exact lkS_fd (by assumption)))
              | (exact tC (by unfold kSheet; rw [if_neg h1, if_pos (okb_f (by assumption) (by assumption) (by assumption) (by assumption))]) (by first | decide | assumption | exact lkS_fd (by assumption)))
theorem fC118 {a1 a2 a3 : Int32} (hR : Rel 1 nt np M r) (hG : Gd nt np r) (hc : M 1 7 = -1) (hS : Rs w z nu M) (hz : ∀ s, s < 4 → ∃ k, k ≤ 40 ∧ z s = nI k) (hct : M 52 1 = c) (hk6 : M 0 6 = k6) : ∀ o D, mT X 118 [.ref 0, .int a1, .int a2, .int a3] (con M) o D → qC M (kWrite w z a1 a2) o D := by
  have hV := hG.2.2.1
  have hn8 := hV.1
  have hp8 := hV.2.1
  refine al_of (Q := qC M (kWrite w z a1 a2)) (row := _) rfl ?_
  have hm : mMet 118 = some _ := rfl
  refine y_aload_n hm rfl rfl ?_
  refine y_iload_n hm rfl rfl ?_
  refine y_callV hm rfl rfl (g77 hS) ?_
  refine y_istore hm rfl rfl ?_
  refine y_iload hm rfl rfl ?_
  refine y_if_eq hm rfl (t := 19) rfl (fun h1 => ?_) (fun h1 => ?_)
  · have hlk := h1
    obtain ⟨s, hs, hs3, hw0⟩ := lkS_0 hlk
    subst hs3
    have hRs := hS s (by omega)
    refine y_iload_n hm rfl rfl ?_
    refine y_iconst hm rfl (v := nI 0) (by decide) ?_
    refine y_aload_n hm rfl rfl ?_
    refine y_getf hm rfl (gR rfl rfl) ?_
    refine y_iload_n hm rfl rfl ?_
    refine y_aald hm rfl (by first | exact lQ 2 (Or.inl rfl) rfl (shk hs) (by omega) (by decide) | exact lQ 3 (Or.inr (Or.inl rfl)) rfl rfl (by omega) (by decide)) ?_
    refine y_getf hm rfl (by first | exact gI (sO hs) rfl) ?_
    rw [hRs.2.1]
    refine y_iconst hm rfl (v := nI 1) (by decide) ?_
    refine y_isub hm rfl ?_
    refine y_callS hm rfl rfl (t6) ?_
    refine y_if_ne hm rfl (t := 45) rfl (fun h2 => ?_) (fun h2 => ?_)
    · exact bodyC (fun pc => Nat.ble 45 pc) (by unfold kWrite; rw [if_neg (not_not_intro hlk), jI_nat (by omega), if_neg (by assumption)]) (by decide +kernel) rfl rfl rfl
    · refine y_aload_n hm rfl rfl ?_
      refine y_ldcI hm rfl (v := (-1000001 : Int32)) (by decide) ?_
      refine y_callV hm rfl rfl (e7 (by decide)) ?_
      refine y_iret hm rfl rfl (by first | rfl | exact bI_nar | decide) ?_
      exact tC (by unfold kWrite; rw [if_neg (not_not_intro hlk), jI_nat (by omega), if_pos (by assumption)]) (by first | decide | assumption | exact lkS_fd (by assumption))
  · refine y_aload_n hm rfl rfl ?_
    refine y_iload hm rfl rfl ?_
    refine y_callV hm rfl rfl (e7 (lkS_fd h1)) ?_
    refine y_iret hm rfl rfl (by first | rfl | exact bI_nar | decide) ?_
    exact tC (by unfold kWrite; rw [if_pos h1]) (by first | decide | assumption | exact lkS_fd (by assumption))
theorem fC122 {a1 : Int32} (hR : Rel 1 nt np M r) (hG : Gd nt np r) (hc : M 1 7 = -1) (hS : Rs w z nu M) (hz : ∀ s, s < 4 → ∃ k, k ≤ 40 ∧ z s = nI k) (hct : M 52 1 = c) (hk6 : M 0 6 = k6) : ∀ o D, mT X 122 [.ref 0, .int a1] (con M) o D → qC M (kLoad w a1) o D := by
  have hV := hG.2.2.1
  have hn8 := hV.1
  have hp8 := hV.2.1
  refine al_of (Q := qC M (kLoad w a1)) (row := _) rfl ?_
  have hm : mMet 122 = some _ := rfl
  refine y_aload_n hm rfl rfl ?_
  refine y_iload_n hm rfl rfl ?_
  refine y_callV hm rfl rfl (g77 hS) ?_
  refine y_istore_n hm rfl rfl ?_
  refine y_iload_n hm rfl rfl ?_
  refine y_if_eq hm rfl (t := 16) rfl (fun h1 => ?_) (fun h1 => ?_)
  · exact bodyC (fun pc => Nat.ble 16 pc) (by unfold kLoad; rw [if_neg (not_not_intro h1)]) (by decide +kernel) rfl rfl rfl
  · refine y_aload_n hm rfl rfl ?_
    refine y_iload_n hm rfl rfl ?_
    refine y_callV hm rfl rfl (e7 (lkS_fd h1)) ?_
    refine y_iret hm rfl rfl (by first | rfl | exact bI_nar | decide) ?_
    exact tC (by unfold kLoad; rw [if_pos h1]) (by first | decide | assumption | exact lkS_fd (by assumption))
theorem fC123 {a1 : Int32} (hR : Rel 1 nt np M r) (hG : Gd nt np r) (hc : M 1 7 = -1) (hS : Rs w z nu M) (hz : ∀ s, s < 4 → ∃ k, k ≤ 40 ∧ z s = nI k) (hct : M 52 1 = c) (hk6 : M 0 6 = k6) : ∀ o D, mT X 123 [.ref 0, .int a1] (con M) o D → qC M (kLoad w a1) o D := by
  have hV := hG.2.2.1
  have hn8 := hV.1
  have hp8 := hV.2.1
  refine al_of (Q := qC M (kLoad w a1)) (row := _) rfl ?_
  have hm : mMet 123 = some _ := rfl
  refine y_aload_n hm rfl rfl ?_
  refine y_iload_n hm rfl rfl ?_
  refine y_callV hm rfl rfl (g77 hS) ?_
  refine y_istore_n hm rfl rfl ?_
  refine y_iload_n hm rfl rfl ?_
  refine y_if_eq hm rfl (t := 16) rfl (fun h1 => ?_) (fun h1 => ?_)
  · exact bodyC (fun pc => Nat.ble 16 pc) (by unfold kLoad; rw [if_neg (not_not_intro h1)]) (by decide +kernel) rfl rfl rfl
  · refine y_aload_n hm rfl rfl ?_
    refine y_iload_n hm rfl rfl ?_
    refine y_callV hm rfl rfl (e7 (lkS_fd h1)) ?_
    refine y_iret hm rfl rfl (by first | rfl | exact bI_nar | decide) ?_
    exact tC (by unfold kLoad; rw [if_pos h1]) (by first | decide | assumption | exact lkS_fd (by assumption))
theorem fC120 {a1 a2 a3 a4 a5 : Int32} (hR : Rel 1 nt np M r) (hG : Gd nt np r) (hc : M 1 7 = -1) (hS : Rs w z nu M) (hz : ∀ s, s < 4 → ∃ k, k ≤ 40 ∧ z s = nI k) (hct : M 52 1 = c) (hk6 : M 0 6 = k6) : ∀ o D, mT X 120 [.ref 0, .int a1, .int a2, .int a3, .int a4, .int a5] (con M) o D → qC M (kCopy w z a1 a2 a3 a4 a5) o D := by
  have hV := hG.2.2.1
  have hn8 := hV.1
  have hp8 := hV.2.1
  refine al_of (Q := qC M (kCopy w z a1 a2 a3 a4 a5)) (row := _) rfl ?_
  have hm : mMet 120 = some _ := rfl
  refine y_iload_n hm rfl rfl ?_
  refine y_callS hm rfl rfl (t78) ?_
  refine y_if_eq hm rfl (t := 14) rfl (fun h1 => ?_) (fun h1 => ?_)
  · refine y_aload_n hm rfl rfl ?_
    refine y_ldcI hm rfl (v := (-1000001 : Int32)) (by decide) ?_
    refine y_callV hm rfl rfl (e7 (by decide)) ?_
    refine y_iret hm rfl rfl (by first | rfl | exact bI_nar | decide) ?_
    first
      | (exact tC (by unfold kCopy; rw [if_pos h1]) (by first | decide | assumption | exact lkS_fd (by assumption)))
      | (exact tC (by unfold kCopy; rw [if_neg h1, if_pos (by assumption)]) (by first | decide | assumption | exact lkS_fd (by assumption)))
  · obtain ⟨s, hs, hs3⟩ := le_k (by omega) (bI_ne0 h1)
    subst hs3
    refine y_iload_n hm rfl rfl ?_
    refine y_callS hm rfl rfl (t78) ?_
    refine y_if_ne hm rfl (t := 21) rfl (fun h2 => ?_) (fun h2 => ?_)
    · have hh3 := h2
      obtain ⟨u, hu, hu3⟩ := le_k (by omega) (bI_ne0 h2)
      subst hu3
      obtain ⟨ls, hls, hzs⟩ := hz s (by omega)
      obtain ⟨lu, hlu, hzu⟩ := hz u (by omega)
      have hRs := hS s (by omega)
      have hRu := hS u (by omega)
      refine y_aload_n hm rfl rfl ?_
      refine y_getf hm rfl (gR rfl rfl) ?_
      refine y_iload_n hm rfl rfl ?_
      refine y_aald hm rfl (by first | exact lQ 2 (Or.inl rfl) rfl (shk hs) (by omega) (by decide) | exact lQ 2 (Or.inl rfl) rfl (shk hu) (by omega) (by decide) | exact lQ 3 (Or.inr (Or.inl rfl)) rfl rfl (by omega) (by decide)) ?_
      refine y_callV hm rfl (by first | exact mCallSh hs (by decide) rfl rfl rfl rfl rfl | exact mCallSh hu (by decide) rfl rfl rfl rfl rfl) (by first | exact t79 hs | exact t79 hu) ?_
      rw [hRs.1]
      refine y_if_ne hm rfl (t := 45) rfl (fun h3 => ?_) (fun h3 => ?_)
      · have ws : w s = 0 := bI_ne0 h3
        refine y_aload_n hm rfl rfl ?_
        refine y_ldcI hm rfl (v := (-1000006 : Int32)) (by decide) ?_
        refine y_callV hm rfl rfl (e7 (by decide)) ?_
        refine y_iret hm rfl rfl (by first | rfl | exact bI_nar | decide) ?_
        first
          | (exact tC (by unfold kCopy; rw [if_neg h1, if_neg hh3, jI_nat (by omega), jI_nat (by omega), if_pos ws]) (by first | decide | assumption | exact lkS_fd (by assumption)))
          | (exact tC (by unfold kCopy; rw [if_neg h1, if_neg hh3, jI_nat (by omega), jI_nat (by omega), if_neg ws, if_pos wu]) (by first | decide | assumption | exact lkS_fd (by assumption)))
      · have ws : ¬ w s = 0 := bI_eq0.mp h3
        refine y_aload_n hm rfl rfl ?_
        refine y_getf hm rfl (gR rfl rfl) ?_
        refine y_iload_n hm rfl rfl ?_
        refine y_aald hm rfl (by first | exact lQ 2 (Or.inl rfl) rfl (shk hs) (by omega) (by decide) | exact lQ 2 (Or.inl rfl) rfl (shk hu) (by omega) (by decide) | exact lQ 3 (Or.inr (Or.inl rfl)) rfl rfl (by omega) (by decide)) ?_
        refine y_callV hm rfl (by first | exact mCallSh hs (by decide) rfl rfl rfl rfl rfl | exact mCallSh hu (by decide) rfl rfl rfl rfl rfl) (by first | exact t79 hs | exact t79 hu) ?_
        rw [hRu.1]
        refine y_if_eq hm rfl (t := 52) rfl (fun h4 => ?_) (fun h4 => ?_)
        · have wu : ¬ w u = 0 := bI_eq0.mp h4
          refine y_aload_n hm rfl rfl ?_
          refine y_getf hm rfl (gR rfl rfl) ?_
          refine y_iload_n hm rfl rfl ?_
          refine y_aald hm rfl (by first | exact lQ 2 (Or.inl rfl) rfl (shk hs) (by omega) (by decide) | exact lQ 2 (Or.inl rfl) rfl (shk hu) (by omega) (by decide) | exact lQ 3 (Or.inr (Or.inl rfl)) rfl rfl (by omega) (by decide)) ?_
          refine y_getf hm rfl (by first | exact gI (sO hs) rfl | exact gI (sO hu) rfl) ?_
          rw [hRs.1]
          refine y_aload_n hm rfl rfl ?_
          refine y_getf hm rfl (gR rfl rfl) ?_
          refine y_iload_n hm rfl rfl ?_
          refine y_aald hm rfl (by first | exact lQ 2 (Or.inl rfl) rfl (shk hs) (by omega) (by decide) | exact lQ 2 (Or.inl rfl) rfl (shk hu) (by omega) (by decide) | exact lQ 3 (Or.inr (Or.inl rfl)) rfl rfl (by omega) (by decide)) ?_
          refine y_getf hm rfl (by first | exact gI (sO hs) rfl | exact gI (sO hu) rfl) ?_
          rw [hRu.1]
          refine y_icmp_eq hm rfl (t := 80) rfl (fun h5 => ?_) (fun h5 => ?_)
          · have we : w s = w u := h5
            refine y_aload_n hm rfl rfl ?_
            refine y_getf hm rfl (gR rfl rfl) ?_
            refine y_iload_n hm rfl rfl ?_
            refine y_aald hm rfl (by first | exact lQ 2 (Or.inl rfl) rfl (shk hs) (by omega) (by decide) | exact lQ 2 (Or.inl rfl) rfl (shk hu) (by omega) (by decide) | exact lQ 3 (Or.inr (Or.inl rfl)) rfl rfl (by omega) (by decide)) ?_
            refine y_iload_n hm rfl rfl ?_
            refine y_iload hm rfl rfl ?_
            refine y_callV hm rfl (by first | exact mCallSh hs (by decide) rfl rfl rfl rfl rfl | exact mCallSh hu (by decide) rfl rfl rfl rfl rfl) (g121 hs (hRs.2.1.trans hzs)) ?_
            refine y_if_eq hm rfl (t := 111) rfl (fun h6 => ?_) (fun h6 => ?_)
            · have hbad : ¬ (hsP (z s) a2 a5 ∧ hsP (z u) a4 a5) := fun q => bI_eq0.mp h6 (by rw [← hzs]; exact q.1)
              refine y_aload_n hm rfl rfl ?_
              refine y_ldcI hm rfl (v := (-1000001 : Int32)) (by decide) ?_
              refine y_callV hm rfl rfl (e7 (by decide)) ?_
              refine y_iret hm rfl rfl (by first | rfl | exact bI_nar | decide) ?_
              exact tC (by unfold kCopy; rw [if_neg h1, if_neg hh3, jI_nat (by omega), jI_nat (by omega), if_neg ws, if_neg wu, if_neg (not_not_intro we), if_pos hbad]) (by first | decide | assumption | exact lkS_fd (by assumption))
            · have hp1 := bI_ne0 h6
              refine y_aload_n hm rfl rfl ?_
              refine y_getf hm rfl (gR rfl rfl) ?_
              refine y_iload_n hm rfl rfl ?_
              refine y_aald hm rfl (by first | exact lQ 2 (Or.inl rfl) rfl (shk hs) (by omega) (by decide) | exact lQ 2 (Or.inl rfl) rfl (shk hu) (by omega) (by decide) | exact lQ 3 (Or.inr (Or.inl rfl)) rfl rfl (by omega) (by decide)) ?_
              refine y_iload hm rfl rfl ?_
              refine y_iload hm rfl rfl ?_
              refine y_callV hm rfl (by first | exact mCallSh hs (by decide) rfl rfl rfl rfl rfl | exact mCallSh hu (by decide) rfl rfl rfl rfl rfl) (g121 hu (hRu.2.1.trans hzu)) ?_
              refine y_if_ne hm rfl (t := 118) rfl (fun h7 => ?_) (fun h7 => ?_)
              · have hp2 := bI_ne0 h7
                exact bodyC (fun pc => Nat.ble 118 pc) (by unfold kCopy; rw [if_neg h1, if_neg hh3, jI_nat (by omega), jI_nat (by omega), if_neg ws, if_neg wu, if_neg (not_not_intro we), if_neg (not_not_intro (And.intro (by rw [hzs]; exact hp1) (by rw [hzu]; exact hp2)))]) (by decide +kernel) rfl rfl rfl
              · have hbad : ¬ (hsP (z s) a2 a5 ∧ hsP (z u) a4 a5) := fun q => bI_eq0.mp h7 (by rw [← hzu]; exact q.2)
                refine y_aload_n hm rfl rfl ?_
                refine y_ldcI hm rfl (v := (-1000001 : Int32)) (by decide) ?_
                refine y_callV hm rfl rfl (e7 (by decide)) ?_
                refine y_iret hm rfl rfl (by first | rfl | exact bI_nar | decide) ?_
                exact tC (by unfold kCopy; rw [if_neg h1, if_neg hh3, jI_nat (by omega), jI_nat (by omega), if_neg ws, if_neg wu, if_neg (not_not_intro we), if_pos hbad]) (by first | decide | assumption | exact lkS_fd (by assumption))
          · have we : ¬ w s = w u := h5
            refine y_aload_n hm rfl rfl ?_
            refine y_ldcI hm rfl (v := (-1000003 : Int32)) (by decide) ?_
            refine y_callV hm rfl rfl (e7 (by decide)) ?_
            refine y_iret hm rfl rfl (by first | rfl | exact bI_nar | decide) ?_
            exact tC (by unfold kCopy; rw [if_neg h1, if_neg hh3, jI_nat (by omega), jI_nat (by omega), if_neg ws, if_neg wu, if_pos we]) (by first | decide | assumption | exact lkS_fd (by assumption))
        · have wu : w u = 0 := bI_ne0 h4
          refine y_aload_n hm rfl rfl ?_
          refine y_ldcI hm rfl (v := (-1000006 : Int32)) (by decide) ?_
          refine y_callV hm rfl rfl (e7 (by decide)) ?_
          refine y_iret hm rfl rfl (by first | rfl | exact bI_nar | decide) ?_
          first
            | (exact tC (by unfold kCopy; rw [if_neg h1, if_neg hh3, jI_nat (by omega), jI_nat (by omega), if_pos ws]) (by first | decide | assumption | exact lkS_fd (by assumption)))
            | (exact tC (by unfold kCopy; rw [if_neg h1, if_neg hh3, jI_nat (by omega), jI_nat (by omega), if_neg ws, if_pos wu]) (by first | decide | assumption | exact lkS_fd (by assumption)))
    · refine y_aload_n hm rfl rfl ?_
      refine y_ldcI hm rfl (v := (-1000001 : Int32)) (by decide) ?_
      refine y_callV hm rfl rfl (e7 (by decide)) ?_
      refine y_iret hm rfl rfl (by first | rfl | exact bI_nar | decide) ?_
      first
        | (exact tC (by unfold kCopy; rw [if_pos h1]) (by first | decide | assumption | exact lkS_fd (by assumption)))
        | (exact tC (by unfold kCopy; rw [if_neg h1, if_pos (by assumption)]) (by first | decide | assumption | exact lkS_fd (by assumption)))
theorem fC126 (hR : Rel 1 nt np M r) (hG : Gd nt np r) (hc : M 1 7 = -1) (hS : Rs w z nu M) (hz : ∀ s, s < 4 → ∃ k, k ≤ 40 ∧ z s = nI k) (hct : M 52 1 = c) (hk6 : M 0 6 = k6) : ∀ o D, mT X 126 [.ref 0] (con M) o D → qC M (kUndo k6) o D := by
  have hV := hG.2.2.1
  have hn8 := hV.1
  have hp8 := hV.2.1
  refine al_of (Q := qC M (kUndo k6)) (row := _) rfl ?_
  have hm : mMet 126 = some _ := rfl
  refine y_aload_n hm rfl rfl ?_
  refine y_getf hm rfl (gI rfl rfl) ?_
  rw [hk6]
  refine y_if_ne hm rfl (t := 14) rfl (fun h1 => ?_) (fun h1 => ?_)
  · exact bodyC (fun pc => Nat.ble 14 pc) (by unfold kUndo; rw [if_neg (by assumption)]) (by decide +kernel) rfl rfl rfl
  · refine y_aload_n hm rfl rfl ?_
    refine y_ldcI hm rfl (v := (-1000004 : Int32)) (by decide) ?_
    refine y_callV hm rfl rfl (e7 (by decide)) ?_
    refine y_iret hm rfl rfl (by first | rfl | exact bI_nar | decide) ?_
    exact tC (by unfold kUndo; rw [if_pos (by assumption)]) (by first | decide | assumption | exact lkS_fd (by assumption))
theorem fnf_d {a1 a2 a3 : Int32} : (FD (fnf w nt np a1 a2 a3) ∧ ¬ fnf w nt np a1 a2 a3 = 0 ∧ qFits (lkS w a1) z nu r nt np a1 a2 a3 = (fnf w nt np a1 a2 a3, true) ∧ qLikes (lkS w a1) z nu r nt np a1 a2 a3 = (fnf w nt np a1 a2 a3, true)) ∨ (fnf w nt np a1 a2 a3 = 0 ∧ (qFits (lkS w a1) z nu r nt np a1 a2 a3).2 = false ∧ lkS w a1 = 0 ∧ ¬ bI (nI 0 ≤ a2 ∧ a2 ≤ nI np - nI 1) = 0 ∧ ¬ bI (nI 0 ≤ a3 ∧ a3 ≤ nI nt - nI 1) = 0) := by
  unfold fnf
  by_cases h0 : lkS w a1 = 0
  · by_cases h1 : bI (nI 0 ≤ a2 ∧ a2 ≤ nI np - nI 1) = 0
    · rw [if_neg (fun q => q h0), if_pos h1]
      refine Or.inl ⟨by decide, by decide, ?_, ?_⟩
      · unfold qFits; rw [if_neg (fun q => q h0), if_pos h1]
      · unfold qLikes; rw [if_neg (fun q => q h0), if_pos h1]
    · by_cases h2 : bI (nI 0 ≤ a3 ∧ a3 ≤ nI nt - nI 1) = 0
      · rw [if_neg (fun q => q h0), if_neg h1, if_pos h2]
        refine Or.inl ⟨by decide, by decide, ?_, ?_⟩
        · unfold qFits; rw [if_neg (fun q => q h0), if_neg h1, if_pos h2]
        · unfold qLikes; rw [if_neg (fun q => q h0), if_neg h1, if_pos h2]
      · rw [if_neg (fun q => q h0), if_neg h1, if_neg h2]
        exact Or.inr ⟨rfl, by unfold qFits; rw [if_neg (fun q => q h0), if_neg h1, if_neg h2], h0, h1, h2⟩
  · rw [if_pos h0]
    refine Or.inl ⟨lkS_fd2 h0, h0, ?_, ?_⟩
    · unfold qFits; rw [if_pos h0]
    · unfold qLikes; rw [if_pos h0]
theorem fC75 {a1 a2 a3 : Int32} (hR : Rel 1 nt np M r) (hG : Gd nt np r) (hc : M 1 7 = -1) (hS : Rs w z nu M) (hz : ∀ s, s < 4 → ∃ k, k ≤ 40 ∧ z s = nI k) (hct : M 52 1 = c) (hk6 : M 0 6 = k6) : ∀ o D, mT X 75 [.ref 0, .int a1, .int a2, .int a3] (con M) o D → qC M (qFits (lkS w a1) z nu r nt np a1 a2 a3) o D := by
  have hV := hG.2.2.1
  have hn8 := hV.1
  have hp8 := hV.2.1
  refine al_of (Q := qC M (qFits (lkS w a1) z nu r nt np a1 a2 a3)) (row := _) rfl ?_
  have hm : mMet 75 = some _ := rfl
  refine y_aload_n hm rfl rfl ?_
  refine y_iload_n hm rfl rfl ?_
  refine y_iload_n hm rfl rfl ?_
  refine y_iload_n hm rfl rfl ?_
  refine y_callV hm rfl rfl (gv76 hR hS) ?_
  refine y_istore hm rfl rfl ?_
  refine y_iload hm rfl rfl ?_
  refine y_if_eq hm rfl (t := 21) rfl (fun h1 => ?_) (fun h1 => ?_)
  · have hq := ((fnf_d (r := r) (w := w) (z := z) (nu := nu) (nt := nt) (np := np) (a1 := a1) (a2 := a2) (a3 := a3)).resolve_left (fun q : _ ∧ _ => q.2.1 h1)).2.1
    exact bodyC (fun pc => Nat.ble 21 pc) hq (by decide +kernel) rfl rfl rfl
  · obtain ⟨hFD, -, hf1, -⟩ := (fnf_d (r := r) (w := w) (z := z) (nu := nu) (nt := nt) (np := np) (a1 := a1) (a2 := a2) (a3 := a3)).resolve_right (fun q : _ ∧ _ => h1 q.1)
    refine y_aload_n hm rfl rfl ?_
    refine y_iload hm rfl rfl ?_
    refine y_callV hm rfl rfl (e7 hFD) ?_
    refine y_iret hm rfl rfl (by first | rfl | exact bI_nar | decide) ?_
    exact tC hf1 hFD
theorem fC64 (hR : Rel 1 nt np M r) (hG : Gd nt np r) (hc : M 1 7 = -1) (hS : Rs w z nu M) (hz : ∀ s, s < 4 → ∃ k, k ≤ 40 ∧ z s = nI k) (hct : M 52 1 = c) (hk6 : M 0 6 = k6) : ∀ o D, mT X 64 [.ref 0] (con M) o D → qC M (kZ) o D := by
  have hV := hG.2.2.1
  have hn8 := hV.1
  have hp8 := hV.2.1
  refine al_of (Q := qC M (kZ)) (row := _) rfl ?_
  have hm : mMet 64 = some _ := rfl
  exact bodyC (fun _ => true) rfl (by decide +kernel) rfl rfl rfl
theorem fC74 (hR : Rel 1 nt np M r) (hG : Gd nt np r) (hc : M 1 7 = -1) (hS : Rs w z nu M) (hz : ∀ s, s < 4 → ∃ k, k ≤ 40 ∧ z s = nI k) (hct : M 52 1 = c) (hk6 : M 0 6 = k6) : ∀ o D, mT X 74 [.ref 0] (con M) o D → qC M (kZ) o D := by
  have hV := hG.2.2.1
  have hn8 := hV.1
  have hp8 := hV.2.1
  refine al_of (Q := qC M (kZ)) (row := _) rfl ?_
  have hm : mMet 74 = some _ := rfl
  exact bodyC (fun _ => true) rfl (by decide +kernel) rfl rfl rfl
theorem fC86 {a1 : Int32} (hR : Rel 1 nt np M r) (hG : Gd nt np r) (hc : M 1 7 = -1) (hS : Rs w z nu M) (hz : ∀ s, s < 4 → ∃ k, k ≤ 40 ∧ z s = nI k) (hct : M 52 1 = c) (hk6 : M 0 6 = k6) : ∀ o D, mT X 86 [.ref 0, .int a1] (con M) o D → qC M (kZ) o D := by
  have hV := hG.2.2.1
  have hn8 := hV.1
  have hp8 := hV.2.1
  refine al_of (Q := qC M (kZ)) (row := _) rfl ?_
  have hm : mMet 86 = some _ := rfl
  exact bodyC (fun _ => true) rfl (by decide +kernel) rfl rfl rfl
theorem fC89 (hR : Rel 1 nt np M r) (hG : Gd nt np r) (hc : M 1 7 = -1) (hS : Rs w z nu M) (hz : ∀ s, s < 4 → ∃ k, k ≤ 40 ∧ z s = nI k) (hct : M 52 1 = c) (hk6 : M 0 6 = k6) : ∀ o D, mT X 89 [.ref 0] (con M) o D → qC M (kZ) o D := by
  have hV := hG.2.2.1
  have hn8 := hV.1
  have hp8 := hV.2.1
  refine al_of (Q := qC M (kZ)) (row := _) rfl ?_
  have hm : mMet 89 = some _ := rfl
  exact bodyC (fun _ => true) rfl (by decide +kernel) rfl rfl rfl
theorem fC90 (hR : Rel 1 nt np M r) (hG : Gd nt np r) (hc : M 1 7 = -1) (hS : Rs w z nu M) (hz : ∀ s, s < 4 → ∃ k, k ≤ 40 ∧ z s = nI k) (hct : M 52 1 = c) (hk6 : M 0 6 = k6) : ∀ o D, mT X 90 [.ref 0] (con M) o D → qC M (kZ) o D := by
  have hV := hG.2.2.1
  have hn8 := hV.1
  have hp8 := hV.2.1
  refine al_of (Q := qC M (kZ)) (row := _) rfl ?_
  have hm : mMet 90 = some _ := rfl
  exact bodyC (fun _ => true) rfl (by decide +kernel) rfl rfl rfl
theorem fC125 (hR : Rel 1 nt np M r) (hG : Gd nt np r) (hc : M 1 7 = -1) (hS : Rs w z nu M) (hz : ∀ s, s < 4 → ∃ k, k ≤ 40 ∧ z s = nI k) (hct : M 52 1 = c) (hk6 : M 0 6 = k6) : ∀ o D, mT X 125 [.ref 0] (con M) o D → qC M (kZ) o D := by
  have hV := hG.2.2.1
  have hn8 := hV.1
  have hp8 := hV.2.1
  refine al_of (Q := qC M (kZ)) (row := _) rfl ?_
  have hm : mMet 125 = some _ := rfl
  exact bodyC (fun _ => true) rfl (by decide +kernel) rfl rfl rfl
theorem fC127 (hR : Rel 1 nt np M r) (hG : Gd nt np r) (hc : M 1 7 = -1) (hS : Rs w z nu M) (hz : ∀ s, s < 4 → ∃ k, k ≤ 40 ∧ z s = nI k) (hct : M 52 1 = c) (hk6 : M 0 6 = k6) : ∀ o D, mT X 127 [.ref 0] (con M) o D → qC M (kZ) o D := by
  have hV := hG.2.2.1
  have hn8 := hV.1
  have hp8 := hV.2.1
  refine al_of (Q := qC M (kZ)) (row := _) rfl ?_
  have hm : mMet 127 = some _ := rfl
  exact bodyC (fun _ => true) rfl (by decide +kernel) rfl rfl rfl
theorem fC53 {a1 a2 : Int32} (hR : Rel 1 nt np M r) (hG : Gd nt np r) (hc : M 1 7 = -1) (hS : Rs w z nu M) (hz : ∀ s, s < 4 → ∃ k, k ≤ 40 ∧ z s = nI k) (hct : M 52 1 = c) (hk6 : M 0 6 = k6) : ∀ o D, mT X 53 [.ref 0, .int a1, .int a2] (con M) o D → qC M (qOwner r nt np a1 a2) o D := by
  have hV := hG.2.2.1
  have hn8 := hV.1
  have hp8 := hV.2.1
  refine al_of (Q := qC M (qOwner r nt np a1 a2)) (row := _) rfl ?_
  have hm : mMet 53 = some _ := rfl
  refine y_aload_n hm rfl rfl ?_
  refine y_getf hm rfl (gR rfl rfl) ?_
  refine y_iload_n hm rfl rfl ?_
  refine y_callV hm rfl rfl (t10 (by decide)) ?_
  rw [hR.1]
  refine y_if_eq hm rfl (t := 21) rfl (fun h1 => ?_) (fun h1 => ?_)
  · refine y_aload_n hm rfl rfl ?_
    refine y_ldcI hm rfl (v := (-1000001 : Int32)) (by decide) ?_
    refine y_callV hm rfl rfl (e7 (by decide)) ?_
    refine y_iret hm rfl rfl (by first | rfl | exact bI_nar | decide) ?_
    first
      | (exact tC (by unfold qOwner; rw [if_pos (by assumption)]) (by first | decide | assumption | exact lkS_fd (by assumption)))
      | (exact tC (by unfold qOwner; rw [if_neg (by assumption), if_pos (by assumption)]) (by first | decide | assumption | exact lkS_fd (by assumption)))
  · obtain ⟨t, ht, rfl⟩ := in_k rfl (by omega) (bI_ne0 h1)
    refine y_iload_n hm rfl rfl ?_
    refine y_iconst hm rfl (v := nI 0) (by decide) ?_
    refine y_bipush hm rfl (v := nI 60) (by decide) ?_
    refine y_callS hm rfl rfl (t6) ?_
    refine y_if_ne hm rfl (t := 28) rfl (fun h2 => ?_) (fun h2 => ?_)
    · obtain ⟨a, ha, rfl⟩ := le_k (by omega) (bI_ne0 h2)
      refine y_aload_n hm rfl rfl ?_
      refine y_getf hm rfl (gR rfl rfl) ?_
      refine y_getf hm rfl (gI rfl rfl) ?_
      rw [hR.2.1]
      refine y_if_ne hm rfl (t := 45) rfl (fun h3 => ?_) (fun h3 => ?_)
      · have hnp0 : 0 < np := Nat.pos_of_ne_zero fun e => h3 (by rw [e]; rfl)
        have hq : qOwner r nt np (nI t) (nI a) = orN (fo (sTk r (-1) nt np a t (14 + 6 * t + 4)) np (-1, -1)).1 := by
          unfold qOwner
          rw [if_neg (by assumption), if_neg (by assumption)]
          rw [jI_nat (k := t) (by omega)]
          rw [jI_nat (k := a) (by omega)]
        obtain ⟨j, hj, e⟩ := sCl_k (L := (fun k => sDays (-1) nt np a (put1 r (14 + 6 * t + 4) (nI k)) (14 + 6 * t + 2))) (g := -1) np
        have e2 := (pick_most (F := sTk r (-1) nt np a t (14 + 6 * t + 4)) (b0 := -1) (b1 := nI 0) (c := np) (L := (fun k => sDays (-1) nt np a (put1 r (14 + 6 * t + 4) (nI k)) (14 + 6 * t + 2))) (fun k hk => le_8000 (days_le (owner_gd hG ht hk) (by omega) ht)) (fun k z hk => rfl) hnp0).trans e
        have hq9 : (qOwner r nt np (nI t) (nI a)).2 = false := by rw [hq]; exact orN_2 e2 (by omega)
        exact bodyC (fun pc => Nat.ble 45 pc) hq9 (by decide +kernel) rfl rfl rfl
      · have hnp0 : np = 0 := jI_inj (by omega) (by decide) h3
        refine y_aload_n hm rfl rfl ?_
        refine y_ldcI hm rfl (v := (-1000004 : Int32)) (by decide) ?_
        refine y_callV hm rfl rfl (e7 (by decide)) ?_
        refine y_iret hm rfl rfl (by first | rfl | exact bI_nar | decide) ?_
        have hq : qOwner r nt np (nI t) (nI a) = orN (fo (sTk r (-1) nt np a t (14 + 6 * t + 4)) np (-1, -1)).1 := by
          unfold qOwner
          rw [if_neg (by assumption), if_neg (by assumption)]
          rw [jI_nat (k := t) (by omega)]
          rw [jI_nat (k := a) (by omega)]
        have hq9 : qOwner r nt np (nI t) (nI a) = (-1000004, true) := by
          rw [hq]
          subst hnp0
          exact orN_m
        exact tC hq9 (by first | decide | assumption | exact lkS_fd (by assumption))
    · refine y_aload_n hm rfl rfl ?_
      refine y_ldcI hm rfl (v := (-1000001 : Int32)) (by decide) ?_
      refine y_callV hm rfl rfl (e7 (by decide)) ?_
      refine y_iret hm rfl rfl (by first | rfl | exact bI_nar | decide) ?_
      first
        | (exact tC (by unfold qOwner; rw [if_pos (by assumption)]) (by first | decide | assumption | exact lkS_fd (by assumption)))
        | (exact tC (by unfold qOwner; rw [if_neg (by assumption), if_pos (by assumption)]) (by first | decide | assumption | exact lkS_fd (by assumption)))
theorem fC54 {a1 : Int32} (hR : Rel 1 nt np M r) (hG : Gd nt np r) (hc : M 1 7 = -1) (hS : Rs w z nu M) (hz : ∀ s, s < 4 → ∃ k, k ≤ 40 ∧ z s = nI k) (hct : M 52 1 = c) (hk6 : M 0 6 = k6) : ∀ o D, mT X 54 [.ref 0, .int a1] (con M) o D → qC M (qWorst r nt np a1) o D := by
  have hV := hG.2.2.1
  have hn8 := hV.1
  have hp8 := hV.2.1
  refine al_of (Q := qC M (qWorst r nt np a1)) (row := _) rfl ?_
  have hm : mMet 54 = some _ := rfl
  refine y_iload_n hm rfl rfl ?_
  refine y_iconst hm rfl (v := nI 0) (by decide) ?_
  refine y_bipush hm rfl (v := nI 60) (by decide) ?_
  refine y_callS hm rfl rfl (t6) ?_
  refine y_if_ne hm rfl (t := 17) rfl (fun h1 => ?_) (fun h1 => ?_)
  · obtain ⟨a, ha, rfl⟩ := le_k (by omega) (bI_ne0 h1)
    refine y_aload_n hm rfl rfl ?_
    refine y_getf hm rfl (gR rfl rfl) ?_
    refine y_getf hm rfl (gI rfl rfl) ?_
    rw [hR.2.1]
    refine y_if_ne hm rfl (t := 34) rfl (fun h2 => ?_) (fun h2 => ?_)
    · have hnp0 : 0 < np := Nat.pos_of_ne_zero fun e => h2 (by rw [e]; rfl)
      have hq : qWorst r nt np (nI a) = orN (fo (sWo r nt np a) np (-1, 2147483647)).1 := by
        unfold qWorst
        rw [if_neg (by assumption)]
        rw [jI_nat (k := a) (by omega)]
      obtain ⟨j, hj, e⟩ := sCl_k (L := (fun k => sThick (sDays (nI k) nt np a r) nt)) (g := -1) np
      have e2 := (pick_lost (F := sWo r nt np a) (T := sThick r nt) (b0 := -1) (b1 := nI 0) (c := np) (L := (fun k => sThick (sDays (nI k) nt np a r) nt)) (thick_le8 hG) (fun k hk => lost_le hG (by omega)) (fun k z hk => rfl) (Or.inl hnp0)).trans e
      have hq9 : (qWorst r nt np (nI a)).2 = false := by rw [hq]; exact orN_2 e2 (by omega)
      exact bodyC (fun pc => Nat.ble 34 pc) hq9 (by decide +kernel) rfl rfl rfl
    · have hnp0 : np = 0 := jI_inj (by omega) (by decide) h2
      refine y_aload_n hm rfl rfl ?_
      refine y_ldcI hm rfl (v := (-1000004 : Int32)) (by decide) ?_
      refine y_callV hm rfl rfl (e7 (by decide)) ?_
      refine y_iret hm rfl rfl (by first | rfl | exact bI_nar | decide) ?_
      have hq : qWorst r nt np (nI a) = orN (fo (sWo r nt np a) np (-1, 2147483647)).1 := by
        unfold qWorst
        rw [if_neg (by assumption)]
        rw [jI_nat (k := a) (by omega)]
      have hq9 : qWorst r nt np (nI a) = (-1000004, true) := by
        rw [hq]
        subst hnp0
        exact orN_m
      exact tC hq9 (by first | decide | assumption | exact lkS_fd (by assumption))
  · refine y_aload_n hm rfl rfl ?_
    refine y_ldcI hm rfl (v := (-1000001 : Int32)) (by decide) ?_
    refine y_callV hm rfl rfl (e7 (by decide)) ?_
    refine y_iret hm rfl rfl (by first | rfl | exact bI_nar | decide) ?_
    exact tC (by unfold qWorst; rw [if_pos (by assumption)]) (by first | decide | assumption | exact lkS_fd (by assumption))
end TE
