/-! ===== the town changed: what each method answers and makes of the row ===== -/
/-- the answer, and the town behind it -/
abbrev Sq4 := Int32 × Nat × Nat × (Nat → Int32)
def Tm (nt np : Nat) (r : Nat → Int32) (M M' : mM) : Prop := Rel 1 nt np M' r ∧ M' 1 7 = M 1 7 ∧ ∀ a, (a < 1 ∨ (17 < a ∧ a < 35) ∨ (51 < a ∧ a ≠ 55 ∧ a ≠ 56 ∧ a ≠ 57)) → M' a = M a
def Rm (r : Nat → Int32) (M M' : mM) : Prop := M' 67 = r ∧ ∀ a, a ≠ 67 → a ≠ 69 → a ≠ 70 → a ≠ 71 → M' a = M a
def Tq (q : Sq4) (v : Int32) (M M' : mM) : Prop := v = q.1 ∧ Tm q.2.1 q.2.2.1 q.2.2.2 M M'
def Uq (q : Sq4) (v : Int32) (M M' : mM) : Prop := v = q.1 ∧ Rm q.2.2.2 M M'
def addR (r : Nat → Int32) (n : Nat) (s p th pa ow on : Int32) : Nat → Int32 := put1 (put1 (put1 (put1 (put1 (put1 (put1 r (14 + 6 * n + 0) s) (14 + 6 * n + 1) p) (14 + 6 * n + 2) th) (14 + 6 * n + 3) pa) (14 + 6 * n + 4) ow) (14 + 6 * n + 5) on) 1 (nI (n + 1))
def joinR (r : Nat → Int32) (n : Nat) (k p w l0 l1 l2 l3 : Int32) : Nat → Int32 := put1 (put1 (put1 (put1 (put1 (put1 (put1 (put1 r (62 + 7 * n + 0) k) (62 + 7 * n + 1) p) (62 + 7 * n + 2) w) (62 + 7 * n + (3 + 0)) l0) (62 + 7 * n + (3 + 1)) l1) (62 + 7 * n + (3 + 2)) l2) (62 + 7 * n + (3 + 3)) l3) 2 (nI (n + 1))
def fThing (nt np : Nat) (r : Nat → Int32) (a1 a2 : Int32) : Sq4 :=
  if bI (nI 0 ≤ a1 ∧ a1 ≤ nI 3) = 0 then (-1000001, nt, np, r) else if bI (nI 0 ≤ a2 ∧ a2 ≤ nI 15) = 0 then (-1000001, nt, np, r) else if nt = 8 then (-1000002, nt, np, r) else (nI nt, nt + 1, np, addR r nt a1 a2 (nI 100) (nI 0) (-1) (-1))
def fPerson (nt np : Nat) (r : Nat → Int32) (a1 a2 : Int32) : Sq4 :=
  if bI (nI 0 ≤ a1 ∧ a1 ≤ nI 6) = 0 then (-1000001, nt, np, r) else if bI (nI 0 ≤ a2 ∧ a2 ≤ nI 15) = 0 then (-1000001, nt, np, r) else if np = 8 then (-1000002, nt, np, r) else (nI np, nt, np + 1, joinR r np a1 a2 (nI 1) (nI 1) (nI 1) (nI 1) (nI 1))
def fSeed (nt np : Nat) (r : Nat → Int32) (a1 : Int32) : Sq4 := (r 3, nt, np, put1 r 3 a1)
def fHold (nt np : Nat) (r : Nat → Int32) (a1 a2 : Int32) : Sq4 :=
  if bI (nI 0 ≤ a1 ∧ a1 ≤ nI 9) = 0 then (-1000001, nt, np, r) else if a2 = -1 then (nI 1, nt, np, put1 r (4 + a1.toNatClampNeg) a2) else if bI (nI 0 ≤ a2 ∧ a2 ≤ nI np - nI 1) = 0 then (-1000001, nt, np, r) else (nI 1, nt, np, put1 r (4 + a1.toNatClampNeg) a2)
def fGo (nt np : Nat) (r : Nat → Int32) (a1 : Int32) : Sq4 :=
  if bI (nI 1 ≤ a1 ∧ a1 ≤ nI 60) = 0 then (-1000001, nt, np, r) else if nI 99999 < r 0 + a1 then (-1000005, nt, np, r) else (sBits 256 (nI 0) (sGone (sDays (-1) nt np a1.toNatClampNeg r) nt), nt, np, sDays (-1) nt np a1.toNatClampNeg r)
theorem bits_le : ∀ s, s < 256 → ((nI s) &&& (nI s - nI 1)).toNatClampNeg < 256 ∧ nI ((nI s) &&& (nI s - nI 1)).toNatClampNeg = (nI s) &&& (nI s - nI 1) ∧ (¬ s = 0 → ((nI s) &&& (nI s - nI 1)).toNatClampNeg < s) := by decide +kernel
def ush (x y : Int32) : Int32 := (x.toUInt32 >>> (y.toUInt32 &&& Int32.toUInt32 31)).toInt32
def bcn (v : Int32) : Int32 :=
  let a := v - (ush v (nI 1) &&& nI 1431655765)
  let b := (a &&& nI 858993459) + (ush a (nI 2) &&& nI 858993459)
  let c := (b + ush b (nI 4)) &&& nI 252645135
  let d := c + ush c (nI 8)
  (d + ush d (nI 16)) &&& nI 63
theorem bcn_eq : ∀ s, s < 256 → bcn (nI s) = sBits 256 (nI 0) (nI s) := by decide +kernel
section EJ
variable {X : mSc} {Q : Option Value → mHp → Prop} {M : mM} {nt np : Nat} {r : Nat → Int32}
theorem Rel.bq {N : mM} (h : Rel 1 nt np M r) (g : Bq 35 M N) : Tm nt np r M N := by
  have c : ∀ a, (a < 35 ∨ (51 < a ∧ a ≠ 55 ∧ a ≠ 56 ∧ a ≠ 57)) → N a = M a := fun a ha => g.2.1 a (by omega)
  obtain ⟨h1, h2, h3, h4, h5, h6, h7⟩ := h
  exact ⟨⟨by rw [c 1 (by omega)]; exact h1, by rw [c 1 (by omega)]; exact h2, by rw [c 1 (by omega)]; exact h3, by rw [c 1 (by omega)]; exact h4, fun s hs => by rw [c _ (by omega)]; exact h5 s hs, fun f t hf ht => by rw [c _ (by omega)]; exact h6 f t hf ht, fun f p hf hp => by rw [c _ (by omega)]; exact h7 f p hf hp⟩, by rw [c 1 (by omega)], fun a ha => c a (by omega)⟩
theorem Rel.tm {N : mM} {mt mp : Nat} {q : Nat → Int32} (h : Rel 1 mt mp N q) (h7 : N 1 7 = M 1 7) (g : ∀ a, (a < 1 ∨ 17 < a) → N a = M a) : Tm mt mp q M N := ⟨h, h7, fun a ha => g a (by omega)⟩
theorem fnd_rm {v : Int32} (h : M 67 = r) : Rm r M (fndR M v) := ⟨by show mput (mput M 70 _ _) 70 _ _ 67 = r; rw [mpo (by decide), mpo (by decide)]; exact h, fun a _ _ h3 _ => (mpo h3).trans (mpo h3)⟩
theorem Rel.ps {b s : Nat} {v : Int32} (h : Rel b nt np M r) (hs : s < 10) : Rel b nt np (mput M (b + 16) s v) (put1 r (4 + s) v) := by
  obtain ⟨h1, h2, h3, h4, h5, h6, h7⟩ := h
  refine ⟨(mpn (by omega)).trans h1, (mpn (by omega)).trans h2, ?_, ?_, fun z hz => ?_, fun g u hg hu => ?_, fun g u hg hu => ?_⟩
  · rw [mpn (by omega), put1_o (by omega)]; exact h3
  · rw [mpn (by omega), put1_o (by omega)]; exact h4
  · by_cases e : z = s
    · subst e
      rw [put1_s]
      exact mp0
    · rw [mpn (by omega), put1_o (by omega)]; exact h5 z hz
  · rw [mpn (by omega), put1_o (by omega)]; exact h6 g u hg hu
  · rw [mpn (by omega), put1_o (by omega)]; exact h7 g u hg hu
theorem addT_67 {n : Nat} {s p th pa ow on : Int32} : addT M n s p th pa ow on 67 = addR (M 67) n s p th pa ow on := by
  unfold addT addR
  rw [mput67, mput67, mput67, mput67, mput67, mput67, mput67]
theorem addC_rel {s p : Int32} (h : Rel 1 nt np M r) (h8 : nt < 8) : Rel 1 (nt + 1) np (addC M nt s p) (addR r nt s p (nI 100) (nI 0) (-1) (-1)) := by
  obtain ⟨h1, h2, h3, h4, h5, h6, h7⟩ := h
  have e : ∀ a x, (a < 3 ∨ 8 < a ∨ ¬ x = nt) → ¬ (a = 1 ∧ x = 3) → addC M nt s p a x = M a x := by
    intro a x g1 g2
    unfold addC
    rw [mpn (by omega), mpn (by omega), mpn (by omega), mpn (by omega), mpn (by omega), mpn (by omega), mpn (by omega)]
  have q : ∀ j, ¬ j = 1 → (j < 14 + 6 * nt ∨ 14 + 6 * nt + 5 < j) → addR r nt s p (nI 100) (nI 0) (-1) (-1) j = r j := by
    intro j g1 g2
    unfold addR
    rw [put1_o (by omega), put1_o (by omega), put1_o (by omega), put1_o (by omega), put1_o (by omega), put1_o (by omega), put1_o (by omega)]
  refine ⟨?_, ?_, ?_, ?_, fun z hz => ?_, fun g u hg hu => ?_, fun g u hg hu => ?_⟩
  · unfold addC
    rw [mpn (by omega), mpn (by omega), mpn (by omega), mpn (by omega), mpn (by omega), mpn (by omega)]
    exact mp0
  · rw [e _ _ (by omega) (by omega)]; exact h2
  · rw [e _ _ (by omega) (by omega), q _ (by omega) (by omega)]; exact h3
  · rw [e _ _ (by omega) (by omega), q _ (by omega) (by omega)]; exact h4
  · rw [e _ _ (by omega) (by omega), q _ (by omega) (by omega)]; exact h5 z hz
  · by_cases hn : u = nt
    · subst hn
      rcases (by omega : g = 0 ∨ g = 1 ∨ g = 2 ∨ g = 3 ∨ g = 4 ∨ g = 5) with rfl | rfl | rfl | rfl | rfl | rfl
      · unfold addC addR
        rw [mpn (by omega), mpn (by omega), mpn (by omega), mpn (by omega), mpn (by omega), mp0, put1_o (by omega), put1_o (by omega), put1_o (by omega), put1_o (by omega), put1_o (by omega), put1_o (by omega), put1_s]
      · unfold addC addR
        rw [mpn (by omega), mpn (by omega), mpn (by omega), mpn (by omega), mp0, put1_o (by omega), put1_o (by omega), put1_o (by omega), put1_o (by omega), put1_o (by omega), put1_s]
      · unfold addC addR
        rw [mpn (by omega), mpn (by omega), mpn (by omega), mp0, put1_o (by omega), put1_o (by omega), put1_o (by omega), put1_o (by omega), put1_s]
      · unfold addC addR
        rw [mpn (by omega), mpn (by omega), mp0, put1_o (by omega), put1_o (by omega), put1_o (by omega), put1_s]
      · unfold addC addR
        rw [mpn (by omega), mp0, put1_o (by omega), put1_o (by omega), put1_s]
      · unfold addC addR
        rw [mp0, put1_o (by omega), put1_s]
    · rw [e _ _ (by omega) (by omega), q _ (by omega) (by omega)]
      exact h6 g u hg (by omega)
  · rw [e _ _ (by omega) (by omega), q _ (by omega) (by omega)]; exact h7 g u hg hu
theorem joinC_rel {k p : Int32} (h : Rel 1 nt np M r) (hn8 : nt ≤ 8) (h8 : np < 8) : Rel 1 nt (np + 1) (joinC M np k p) (joinR r np k p (nI 1) (nI 1) (nI 1) (nI 1) (nI 1)) := by
  obtain ⟨h1, h2, h3, h4, h5, h6, h7⟩ := h
  have e : ∀ a x, (a < 10 ∨ 16 < a ∨ ¬ x = np) → ¬ (a = 1 ∧ x = 4) → joinC M np k p a x = M a x := by
    intro a x g1 g2
    unfold joinC
    show lkc _ np 4 a x = _
    simp only [lkc]
    rw [mpn (by omega), mpn (by omega), mpn (by omega), mpn (by omega), mpn (by omega), mpn (by omega), mpn (by omega), mpn (by omega)]
  have q : ∀ j, ¬ j = 2 → (j < 62 + 7 * np ∨ 62 + 7 * np + 6 < j) → joinR r np k p (nI 1) (nI 1) (nI 1) (nI 1) (nI 1) j = r j := by
    intro j g1 g2
    unfold joinR
    rw [put1_o (by omega), put1_o (by omega), put1_o (by omega), put1_o (by omega), put1_o (by omega), put1_o (by omega), put1_o (by omega), put1_o (by omega)]
  refine ⟨?_, ?_, ?_, ?_, fun z hz => ?_, fun g u hg hu => ?_, fun g u hg hu => ?_⟩
  · rw [e _ _ (by omega) (by omega)]; exact h1
  · unfold joinC
    simp only [lkc]
    rw [mpn (by omega), mpn (by omega), mpn (by omega), mpn (by omega), mpn (by omega), mpn (by omega), mpn (by omega)]
    exact mp0
  · rw [e _ _ (by omega) (by omega), q _ (by omega) (by omega)]; exact h3
  · rw [e _ _ (by omega) (by omega), q _ (by omega) (by omega)]; exact h4
  · rw [e _ _ (by omega) (by omega), q _ (by omega) (by omega)]; exact h5 z hz
  · rw [e _ _ (by omega) (by omega), q _ (by omega) (by omega)]; exact h6 g u hg hu
  · by_cases hn : u = np
    · subst hn
      rcases (by omega : g = 0 ∨ g = 1 ∨ g = 2 ∨ g = 3 ∨ g = 4 ∨ g = 5 ∨ g = 6) with rfl | rfl | rfl | rfl | rfl | rfl | rfl
      · unfold joinC joinR
        simp only [lkc]
        rw [mpn (by omega), mpn (by omega), mpn (by omega), mpn (by omega), mpn (by omega), mpn (by omega), mp0, put1_o (by omega), put1_o (by omega), put1_o (by omega), put1_o (by omega), put1_o (by omega), put1_o (by omega), put1_o (by omega), put1_s]
      · unfold joinC joinR
        simp only [lkc]
        rw [mpn (by omega), mpn (by omega), mpn (by omega), mpn (by omega), mpn (by omega), mp0, put1_o (by omega), put1_o (by omega), put1_o (by omega), put1_o (by omega), put1_o (by omega), put1_o (by omega), put1_s]
      · unfold joinC joinR
        simp only [lkc]
        rw [mpn (by omega), mpn (by omega), mpn (by omega), mpn (by omega), mp0, put1_o (by omega), put1_o (by omega), put1_o (by omega), put1_o (by omega), put1_o (by omega), put1_s]
      · unfold joinC joinR
        simp only [lkc]
        rw [mpn (by omega), mpn (by omega), mpn (by omega), show 1 + 9 + 3 = 1 + 9 + (3 + 0) from rfl, mp0, put1_o (by omega), put1_o (by omega), put1_o (by omega), put1_o (by omega), put1_s]
      · unfold joinC joinR
        simp only [lkc]
        rw [mpn (by omega), mpn (by omega), show 1 + 9 + 4 = 1 + 9 + (3 + 1) from rfl, mp0, put1_o (by omega), put1_o (by omega), put1_o (by omega), put1_s]
      · unfold joinC joinR
        simp only [lkc]
        rw [mpn (by omega), show 1 + 9 + 5 = 1 + 9 + (3 + 2) from rfl, mp0, put1_o (by omega), put1_o (by omega), put1_s]
      · unfold joinC joinR
        simp only [lkc]
        rw [show 1 + 9 + 6 = 1 + 9 + (3 + 3) from rfl, mp0, put1_o (by omega), put1_s]
    · rw [e _ _ (by omega) (by omega), q _ (by omega) (by omega)]
      exact h7 g u hg (by omega)
theorem addC_fr {s p : Int32} : addC M nt s p 1 7 = M 1 7 ∧ ∀ a, (a < 1 ∨ 17 < a) → addC M nt s p a = M a := by
  refine ⟨?_, fun a ha => ?_⟩ <;> unfold addC
  · rw [mpn (by omega), mpn (by omega), mpn (by omega), mpn (by omega), mpn (by omega), mpn (by omega), mpn (by omega)]
  · rw [mpo (by omega), mpo (by omega), mpo (by omega), mpo (by omega), mpo (by omega), mpo (by omega), mpo (by omega)]
theorem joinC_fr {k p : Int32} : joinC M np k p 1 7 = M 1 7 ∧ ∀ a, (a < 1 ∨ 17 < a) → joinC M np k p a = M a := by
  refine ⟨?_, fun a ha => ?_⟩ <;> unfold joinC <;> simp only [lkc]
  · rw [mpn (by omega), mpn (by omega), mpn (by omega), mpn (by omega), mpn (by omega), mpn (by omega), mpn (by omega), mpn (by omega)]
  · rw [mpo (by omega), mpo (by omega), mpo (by omega), mpo (by omega), mpo (by omega), mpo (by omega), mpo (by omega), mpo (by omega)]
theorem joinT_67 {n : Nat} {k p w : Int32} : joinT M n k p w 67 = joinR (M 67) n k p w (nI 1) (nI 1) (nI 1) (nI 1) := by
  unfold joinT joinR
  simp only [lks]
  rw [mput67, mput67, mput67, mput67, mput67, mput67, mput67, mput67]
theorem joinT_o {n i : Nat} {k p w : Int32} (h : i ≠ 67) : joinT M n k p w i = M i := by
  unfold joinT
  simp only [lks]
  rw [mpo h, mpo h, mpo h, mpo h, mpo h, mpo h, mpo h, mpo h]
theorem g5 {a1 a2 : Int32} (hR : Rel 1 nt np M r) (hn8 : nt ≤ 8) (hp8 : np ≤ 8) : ∃ v M', mT X 5 [.ref 0, .int a1, .int a2] (con M) (some (.int v)) (con M') ∧ Tq (fThing nt np r a1 a2) v M M' := by
  refine ti_of (row := _) rfl (Nat.le_of_ble_eq_true rfl) ?_
  have hm : mMet 5 = some _ := rfl
  refine x_iload_n hm rfl rfl ?_
  refine x_iconst hm rfl (v := nI 0) (by decide) ?_
  refine x_iconst hm rfl (v := nI 3) (by decide) ?_
  refine x_callS hm rfl rfl (t6) ?_
  refine x_if_eq hm rfl (t := 19) rfl (fun h1 => ?_) (fun h1 => ?_)
  · refine x_aload_n hm rfl rfl ?_
    refine x_ldcI hm rfl (v := (-1000001 : Int32)) (by decide +kernel) ?_
    refine x_cVi hm rfl rfl (t7 (by decide +kernel)) (fun v2 M2 r2 => ?_)
    refine x_iret hm rfl rfl (by first | rfl | exact bI_nar | decide) ?_
    first
      | (have hq : fThing nt np r a1 a2 = (-1000001, nt, np, r) := by
           unfold fThing
           rw [if_pos (by assumption)]
         exact ⟨_, _, rfl, rfl, by rw [hq]; exact ⟨r2.1, hR.bq r2.2⟩⟩)
      | (have hq : fThing nt np r a1 a2 = (-1000001, nt, np, r) := by
           unfold fThing
           rw [if_neg (by assumption), if_pos (by assumption)]
         exact ⟨_, _, rfl, rfl, by rw [hq]; exact ⟨r2.1, hR.bq r2.2⟩⟩)
      | (have hq : fThing nt np r a1 a2 = (-1000001, nt, np, r) := by
           unfold fThing
           rw [if_pos (by assumption)]
         exact ⟨_, _, rfl, rfl, by rw [hq]; exact ⟨r1.1, hR.bq r1.2⟩⟩)
      | (have hq : fThing nt np r a1 a2 = (-1000001, nt, np, r) := by
           unfold fThing
           rw [if_pos (by assumption)]
         exact ⟨_, _, rfl, rfl, by rw [hq]; exact ⟨r3.1, hR.bq r3.2⟩⟩)
      | (have hq : fThing nt np r a1 a2 = (-1000001, nt, np, r) := by
           unfold fThing
           rw [if_pos (by assumption)]
         exact ⟨_, _, rfl, rfl, by rw [hq]; exact ⟨r4.1, hR.bq r4.2⟩⟩)
      | (have hq : fThing nt np r a1 a2 = (-1000001, nt, np, r) := by
           unfold fThing
           rw [if_pos (by assumption)]
         exact ⟨_, _, rfl, rfl, by rw [hq]; exact ⟨r5.1, hR.bq r5.2⟩⟩)
      | (have hq : fThing nt np r a1 a2 = (-1000001, nt, np, r) := by
           unfold fThing
           rw [if_pos (by assumption)]
         exact ⟨_, _, rfl, rfl, by rw [hq]; exact ⟨r6.1, hR.bq r6.2⟩⟩)
      | (have hq : fThing nt np r a1 a2 = (-1000001, nt, np, r) := by
           unfold fThing
           rw [if_pos (by assumption)]
         exact ⟨_, _, rfl, rfl, by rw [hq]; exact ⟨r7.1, hR.bq r7.2⟩⟩)
      | (have hq : fThing nt np r a1 a2 = (-1000001, nt, np, r) := by
           unfold fThing
           rw [if_pos (by assumption)]
         exact ⟨_, _, rfl, rfl, by rw [hq]; exact ⟨r8.1, hR.bq r8.2⟩⟩)
      | (have hq : fThing nt np r a1 a2 = (-1000001, nt, np, r) := by
           unfold fThing
           rw [if_neg (by assumption), if_pos (by assumption)]
         exact ⟨_, _, rfl, rfl, by rw [hq]; exact ⟨r1.1, hR.bq r1.2⟩⟩)
      | (have hq : fThing nt np r a1 a2 = (-1000001, nt, np, r) := by
           unfold fThing
           rw [if_neg (by assumption), if_pos (by assumption)]
         exact ⟨_, _, rfl, rfl, by rw [hq]; exact ⟨r3.1, hR.bq r3.2⟩⟩)
      | (have hq : fThing nt np r a1 a2 = (-1000001, nt, np, r) := by
           unfold fThing
           rw [if_neg (by assumption), if_pos (by assumption)]
         exact ⟨_, _, rfl, rfl, by rw [hq]; exact ⟨r4.1, hR.bq r4.2⟩⟩)
      | (have hq : fThing nt np r a1 a2 = (-1000001, nt, np, r) := by
           unfold fThing
           rw [if_neg (by assumption), if_pos (by assumption)]
         exact ⟨_, _, rfl, rfl, by rw [hq]; exact ⟨r5.1, hR.bq r5.2⟩⟩)
      | (have hq : fThing nt np r a1 a2 = (-1000001, nt, np, r) := by
           unfold fThing
           rw [if_neg (by assumption), if_pos (by assumption)]
         exact ⟨_, _, rfl, rfl, by rw [hq]; exact ⟨r6.1, hR.bq r6.2⟩⟩)
      | (have hq : fThing nt np r a1 a2 = (-1000001, nt, np, r) := by
           unfold fThing
           rw [if_neg (by assumption), if_pos (by assumption)]
         exact ⟨_, _, rfl, rfl, by rw [hq]; exact ⟨r7.1, hR.bq r7.2⟩⟩)
      | (have hq : fThing nt np r a1 a2 = (-1000001, nt, np, r) := by
           unfold fThing
           rw [if_neg (by assumption), if_pos (by assumption)]
         exact ⟨_, _, rfl, rfl, by rw [hq]; exact ⟨r8.1, hR.bq r8.2⟩⟩)
  · refine x_iload_n hm rfl rfl ?_
    refine x_iconst hm rfl (v := nI 0) (by decide) ?_
    refine x_bipush hm rfl (v := nI 15) (by decide) ?_
    refine x_callS hm rfl rfl (t6) ?_
    refine x_if_ne hm rfl (t := 26) rfl (fun h3 => ?_) (fun h3 => ?_)
    · refine x_aload_n hm rfl rfl ?_
      refine x_getf hm rfl (gR rfl rfl) ?_
      refine x_getf hm rfl (gI rfl rfl) ?_
      rw [hR.1]
      refine x_bipush hm rfl (v := nI 8) (by decide) ?_
      refine x_icmp_lt hm rfl (t := 45) rfl (fun h4 => ?_) (fun h4 => ?_)
      · have hlt : nt < 8 := (jI_lt (by omega) (by decide)).mp h4
        have hne : ¬ nt = 8 := by omega
        refine x_aload_n hm rfl rfl ?_
        refine x_getf hm rfl (gR rfl rfl) ?_
        refine x_iload_n hm rfl rfl ?_
        refine x_iload_n hm rfl rfl ?_
        refine x_callV hm rfl rfl (u8 hR.1 hlt) ?_
        refine x_iret hm rfl rfl (by first | rfl | exact bI_nar | decide) ?_
        have hq : fThing nt np r a1 a2 = (nI nt, nt + 1, np, addR r nt a1 a2 (nI 100) (nI 0) (-1) (-1)) := by
          unfold fThing
          rw [if_neg (by assumption), if_neg (by assumption), if_neg (by assumption)]
        exact ⟨_, _, rfl, rfl, by rw [hq]; exact ⟨rfl, (addC_rel hR hlt).tm addC_fr.1 addC_fr.2⟩⟩
      · have heq : nt = 8 := Nat.le_antisymm hn8 (Nat.le_of_not_lt fun h => h4 ((jI_lt (by omega) (by decide)).mpr h))
        refine x_aload_n hm rfl rfl ?_
        refine x_ldcI hm rfl (v := (-1000002 : Int32)) (by decide +kernel) ?_
        refine x_cVi hm rfl rfl (t7 (by decide +kernel)) (fun v5 M5 r5 => ?_)
        refine x_iret hm rfl rfl (by first | rfl | exact bI_nar | decide) ?_
        first
          | (have hq : fThing nt np r a1 a2 = (-1000002, nt, np, r) := by
               unfold fThing
               rw [if_neg (by assumption), if_neg (by assumption), if_pos (by assumption)]
             exact ⟨_, _, rfl, rfl, by rw [hq]; exact ⟨r5.1, hR.bq r5.2⟩⟩)
          | (have hq : fThing nt np r a1 a2 = (-1000002, nt, np, r) := by
               unfold fThing
               rw [if_neg (by assumption), if_neg (by assumption), if_pos (by assumption)]
             exact ⟨_, _, rfl, rfl, by rw [hq]; exact ⟨r1.1, hR.bq r1.2⟩⟩)
          | (have hq : fThing nt np r a1 a2 = (-1000002, nt, np, r) := by
               unfold fThing
               rw [if_neg (by assumption), if_neg (by assumption), if_pos (by assumption)]
             exact ⟨_, _, rfl, rfl, by rw [hq]; exact ⟨r2.1, hR.bq r2.2⟩⟩)
          | (have hq : fThing nt np r a1 a2 = (-1000002, nt, np, r) := by
               unfold fThing
               rw [if_neg (by assumption), if_neg (by assumption), if_pos (by assumption)]
             exact ⟨_, _, rfl, rfl, by rw [hq]; exact ⟨r3.1, hR.bq r3.2⟩⟩)
          | (have hq : fThing nt np r a1 a2 = (-1000002, nt, np, r) := by
               unfold fThing
               rw [if_neg (by assumption), if_neg (by assumption), if_pos (by assumption)]
             exact ⟨_, _, rfl, rfl, by rw [hq]; exact ⟨r4.1, hR.bq r4.2⟩⟩)
          | (have hq : fThing nt np r a1 a2 = (-1000002, nt, np, r) := by
               unfold fThing
               rw [if_neg (by assumption), if_neg (by assumption), if_pos (by assumption)]
             exact ⟨_, _, rfl, rfl, by rw [hq]; exact ⟨r6.1, hR.bq r6.2⟩⟩)
          | (have hq : fThing nt np r a1 a2 = (-1000002, nt, np, r) := by
               unfold fThing
               rw [if_neg (by assumption), if_neg (by assumption), if_pos (by assumption)]
             exact ⟨_, _, rfl, rfl, by rw [hq]; exact ⟨r7.1, hR.bq r7.2⟩⟩)
          | (have hq : fThing nt np r a1 a2 = (-1000002, nt, np, r) := by
               unfold fThing
               rw [if_neg (by assumption), if_neg (by assumption), if_pos (by assumption)]
             exact ⟨_, _, rfl, rfl, by rw [hq]; exact ⟨r8.1, hR.bq r8.2⟩⟩)
    · refine x_aload_n hm rfl rfl ?_
      refine x_ldcI hm rfl (v := (-1000001 : Int32)) (by decide +kernel) ?_
      refine x_cVi hm rfl rfl (t7 (by decide +kernel)) (fun v6 M6 r6 => ?_)
      refine x_iret hm rfl rfl (by first | rfl | exact bI_nar | decide) ?_
      first
        | (have hq : fThing nt np r a1 a2 = (-1000001, nt, np, r) := by
             unfold fThing
             rw [if_pos (by assumption)]
           exact ⟨_, _, rfl, rfl, by rw [hq]; exact ⟨r6.1, hR.bq r6.2⟩⟩)
        | (have hq : fThing nt np r a1 a2 = (-1000001, nt, np, r) := by
             unfold fThing
             rw [if_neg (by assumption), if_pos (by assumption)]
           exact ⟨_, _, rfl, rfl, by rw [hq]; exact ⟨r6.1, hR.bq r6.2⟩⟩)
        | (have hq : fThing nt np r a1 a2 = (-1000001, nt, np, r) := by
             unfold fThing
             rw [if_pos (by assumption)]
           exact ⟨_, _, rfl, rfl, by rw [hq]; exact ⟨r1.1, hR.bq r1.2⟩⟩)
        | (have hq : fThing nt np r a1 a2 = (-1000001, nt, np, r) := by
             unfold fThing
             rw [if_pos (by assumption)]
           exact ⟨_, _, rfl, rfl, by rw [hq]; exact ⟨r2.1, hR.bq r2.2⟩⟩)
        | (have hq : fThing nt np r a1 a2 = (-1000001, nt, np, r) := by
             unfold fThing
             rw [if_pos (by assumption)]
           exact ⟨_, _, rfl, rfl, by rw [hq]; exact ⟨r3.1, hR.bq r3.2⟩⟩)
        | (have hq : fThing nt np r a1 a2 = (-1000001, nt, np, r) := by
             unfold fThing
             rw [if_pos (by assumption)]
           exact ⟨_, _, rfl, rfl, by rw [hq]; exact ⟨r4.1, hR.bq r4.2⟩⟩)
        | (have hq : fThing nt np r a1 a2 = (-1000001, nt, np, r) := by
             unfold fThing
             rw [if_pos (by assumption)]
           exact ⟨_, _, rfl, rfl, by rw [hq]; exact ⟨r5.1, hR.bq r5.2⟩⟩)
        | (have hq : fThing nt np r a1 a2 = (-1000001, nt, np, r) := by
             unfold fThing
             rw [if_pos (by assumption)]
           exact ⟨_, _, rfl, rfl, by rw [hq]; exact ⟨r7.1, hR.bq r7.2⟩⟩)
        | (have hq : fThing nt np r a1 a2 = (-1000001, nt, np, r) := by
             unfold fThing
             rw [if_pos (by assumption)]
           exact ⟨_, _, rfl, rfl, by rw [hq]; exact ⟨r8.1, hR.bq r8.2⟩⟩)
        | (have hq : fThing nt np r a1 a2 = (-1000001, nt, np, r) := by
             unfold fThing
             rw [if_neg (by assumption), if_pos (by assumption)]
           exact ⟨_, _, rfl, rfl, by rw [hq]; exact ⟨r1.1, hR.bq r1.2⟩⟩)
        | (have hq : fThing nt np r a1 a2 = (-1000001, nt, np, r) := by
             unfold fThing
             rw [if_neg (by assumption), if_pos (by assumption)]
           exact ⟨_, _, rfl, rfl, by rw [hq]; exact ⟨r2.1, hR.bq r2.2⟩⟩)
        | (have hq : fThing nt np r a1 a2 = (-1000001, nt, np, r) := by
             unfold fThing
             rw [if_neg (by assumption), if_pos (by assumption)]
           exact ⟨_, _, rfl, rfl, by rw [hq]; exact ⟨r3.1, hR.bq r3.2⟩⟩)
        | (have hq : fThing nt np r a1 a2 = (-1000001, nt, np, r) := by
             unfold fThing
             rw [if_neg (by assumption), if_pos (by assumption)]
           exact ⟨_, _, rfl, rfl, by rw [hq]; exact ⟨r4.1, hR.bq r4.2⟩⟩)
        | (have hq : fThing nt np r a1 a2 = (-1000001, nt, np, r) := by
             unfold fThing
             rw [if_neg (by assumption), if_pos (by assumption)]
           exact ⟨_, _, rfl, rfl, by rw [hq]; exact ⟨r5.1, hR.bq r5.2⟩⟩)
        | (have hq : fThing nt np r a1 a2 = (-1000001, nt, np, r) := by
             unfold fThing
             rw [if_neg (by assumption), if_pos (by assumption)]
           exact ⟨_, _, rfl, rfl, by rw [hq]; exact ⟨r7.1, hR.bq r7.2⟩⟩)
        | (have hq : fThing nt np r a1 a2 = (-1000001, nt, np, r) := by
             unfold fThing
             rw [if_neg (by assumption), if_pos (by assumption)]
           exact ⟨_, _, rfl, rfl, by rw [hq]; exact ⟨r8.1, hR.bq r8.2⟩⟩)
end EJ
