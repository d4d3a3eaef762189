section
/-! ===== two contracts of one call speak of one world ===== -/
theorem mT.det {X : mSc} {m : Nat} {as : List Value} {D D1 D2 : mHp} {r1 r2 : Option Value} (h : mT X m as D r1 D1) (g : mT X m as D r2 D2) : r1 = r2 ∧ D1 = D2 := by
  obtain ⟨row, n, h1, h2, h3⟩ := h
  obtain ⟨row', k, g1, g2, g3⟩ := g
  obtain rfl : row = row' := Option.some.inj (h1.symm.trans g1)
  have e1 := mRun_more X n _ _ _ _ _ _ k h3
  have e2 := mRun_more X k _ _ _ _ _ _ n g3
  rw [Nat.add_comm] at e2
  have e := Option.some.inj (e1.symm.trans e2)
  exact ⟨congrArg Prod.fst e, congrArg Prod.snd e⟩
/-- a cell's numbers, nothing where no number is -/
def cnc (k : Nat) (f : Nat → Int32) : Nat → Int32 := fun b => match mSp[k]? with
  | some (t, _, fs) => if t = 0 ∨ t = 1 ∨ (t = 5 ∧ fs[b]? = some 0) then f b else 0
  | none => 0
def cnm (M : mM) : mM := fun k => cnc k (M k)
theorem cnc_or (k : Nat) (f : Nat → Int32) (b : Nat) : cnc k f b = f b ∨ cnc k f b = 0 := by
  unfold cnc
  cases mSp[k]? with
  | none => exact Or.inr rfl
  | some q =>
    dsimp only
    by_cases h : q.1 = 0 ∨ q.1 = 1 ∨ (q.1 = 5 ∧ q.2.2[b]? = some 0)
    · exact Or.inl (if_pos h)
    · exact Or.inr (if_neg h)
theorem cnc_y {k t n : Nat} {fs : List Nat} {f : Nat → Int32} {b : Nat} (h : mSp[k]? = some (t, n, fs)) (g : t = 0 ∨ t = 1 ∨ (t = 5 ∧ fs[b]? = some 0)) : cnc k f b = f b := by
  unfold cnc
  rw [h]
  exact if_pos g
theorem cnc_n {k t n : Nat} {fs : List Nat} {f : Nat → Int32} {b : Nat} (h : mSp[k]? = some (t, n, fs)) (g : ¬ (t = 0 ∨ t = 1 ∨ (t = 5 ∧ fs[b]? = some 0))) : cnc k f b = 0 := by
  unfold cnc
  rw [h]
  exact if_neg g
theorem cell_cn {M : mM} {k : Nat} {q : Nat × Nat × List Nat} (h : mSp[k]? = some q) : mCellv (cnm M) k q = mCellv M k q := by
  obtain ⟨t, n, fs⟩ := q
  have e0 : t = 0 ∨ t = 1 → cnm M k = M k := fun g => funext fun b => cnc_y h (g.elim Or.inl fun e => Or.inr (Or.inl e))
  have e5 : t = 5 → ∀ b, fs[b]? = some 0 → cnm M k b = M k b := fun g b hb => cnc_y h (Or.inr (Or.inr ⟨g, hb⟩))
  unfold mCellv
  split
  · rename_i ht
    rw [e0 (Or.inl ht)]
  · rename_i ht
    rw [e0 (Or.inr ht)]
  · rename_i ht
    congr 2
    refine List.map_congr_left fun x hx => ?_
    have hg := List.mem_zipIdx hx
    split
    · rename_i h0
      congr 1
      refine e5 ht _ ?_
      rw [List.getElem?_eq_getElem (by simpa using hg.2.1)]
      have := hg.2.2
      simp only [Nat.sub_zero] at this
      rw [← this, h0]
    · rfl
  · rfl
theorem con_cn {M : mM} : con (cnm M) = con M := by
  refine List.ext_getElem? fun i => ?_
  cases hs : mSp[i]? with
  | none =>
    have hl : mSp.length = 80 := rfl
    have := List.getElem?_eq_none_iff.mp hs
    rw [con_none (by omega), con_none (by omega)]
  | some qi => rw [con_get hs, con_get hs, cell_cn hs]
theorem cn_of_con {M N : mM} (h : con M = con N) : cnm M = cnm N := by
  funext k b
  show cnc k (M k) b = cnc k (N k) b
  cases hs : mSp[k]? with
  | none =>
    unfold cnc
    rw [hs]
  | some q =>
    obtain ⟨t, n, fs⟩ := q
    have e := con_get (M := M) hs
    rw [h, con_get hs] at e
    have e1 := Option.some.inj e
    by_cases g : t = 0 ∨ t = 1 ∨ (t = 5 ∧ fs[b]? = some 0)
    · rw [cnc_y hs g, cnc_y hs g]
      unfold mCellv at e1
      rcases g with rfl | rfl | ⟨rfl, hb⟩
      · injection e1 with e2
        injection e2 with _ e3
        injection e3 with _ e4
        injection e4 with e5
        exact congrFun e5.symm b
      · injection e1 with e2
        injection e2 with _ e3
        injection e3 with _ e4
        injection e4 with e5
        exact congrFun e5.symm b
      · injection e1 with e2
        injection e2 with _ e3
        have e4 := congrArg (fun l => l[b]?) e3
        dsimp only at e4
        rw [con_fld, con_fld, hb] at e4
        have e5 := Option.some.inj e4
        injection e5 with e6
        exact e6.symm
    · rw [cnc_n hs g, cnc_n hs g]
theorem cn_cn {M : mM} : cnm (cnm M) = cnm M := cn_of_con con_cn
theorem cn_fr {M N : mM} {a : Nat} (hM : cnm M = M) (h : N a = M a) : cnm N a = M a := by
  show cnc a (N a) = M a
  rw [h]
  exact congrFun hM a
theorem Wf.cn {N : mM} (h : Wf N) : Wf (cnm N) := by
  intro a b
  rcases cnc_or a (N a) b with e | e
  · show okx _ (cnc a (N a) b)
    rw [e]
    exact h a b
  · show okx _ (cnc a (N a) b)
    rw [e]
    unfold okx
    split
    · trivial
    all_goals decide
theorem Inv.cn {N : mM} (h : Inv N) : Inv (cnm N) := ⟨h.1.cn, h.2.1, h.2.2⟩
theorem Ck.cn {M N : mM} (hM : cnm M = M) (h : Ck M N) : Ck M (cnm N) := ⟨h.1.cn, fun a ha => cn_fr hM (h.2 a ha)⟩
theorem Cq.cn {M N : mM} (hM : cnm M = M) (h : Cq M N) : Cq M (cnm N) := ⟨h.1.cn, fun a ha => cn_fr hM (h.2 a ha)⟩
theorem Iq.cn {M N : mM} (hM : cnm M = M) (h : Iq M N) : Iq M (cnm N) := ⟨h.1.cn, fun a ha => cn_fr hM (h.2 a ha)⟩
theorem Rel.cn {b nt np : Nat} {N : mM} {r : Nat → Int32} (hb : b = 1 ∨ b = 18 ∨ b = 35) (h : Rel b nt np N r) : Rel b nt np (cnm N) r := by
  obtain ⟨h1, h2, h3, h4, h5, h6, h7⟩ := h
  have hc : ∀ j, 1 ≤ j → j ≤ 16 → j ≠ 1 → j ≠ 8 → cnm N (b + j) = N (b + j) := by
    intro j g1 g2 g3 g4
    rcases hb with rfl | rfl | rfl <;> (have e : j = 2 ∨ j = 3 ∨ j = 4 ∨ j = 5 ∨ j = 6 ∨ j = 7 ∨ j = 9 ∨ j = 10 ∨ j = 11 ∨ j = 12 ∨ j = 13 ∨ j = 14 ∨ j = 15 ∨ j = 16 := by omega) <;> rcases e with rfl | rfl | rfl | rfl | rfl | rfl | rfl | rfl | rfl | rfl | rfl | rfl | rfl | rfl <;> rfl
  have hs : ∀ x, 3 ≤ x → x ≤ 7 → cnm N b x = N b x := by
    intro x g1 g2
    have e : x = 3 ∨ x = 4 ∨ x = 5 ∨ x = 6 ∨ x = 7 := by omega
    rcases hb with rfl | rfl | rfl <;> rcases e with rfl | rfl | rfl | rfl | rfl <;> rfl
  refine ⟨(hs 3 (by omega) (by omega)).trans h1, (hs 4 (by omega) (by omega)).trans h2, (hs 5 (by omega) (by omega)).trans h3, (hs 6 (by omega) (by omega)).trans h4, fun s h => ?_, fun f t hf ht => ?_, fun f p hf hp => ?_⟩
  · rw [hc 16 (by omega) (by omega) (by omega) (by omega)]; exact h5 s h
  · rw [Nat.add_assoc, hc (2 + f) (by omega) (by omega) (by omega) (by omega), ← Nat.add_assoc]; exact h6 f t hf ht
  · rw [Nat.add_assoc, hc (9 + f) (by omega) (by omega) (by omega) (by omega), ← Nat.add_assoc]; exact h7 f p hf hp
section BO
variable {X : mSc} {M : mM} {m : Nat} {as : List Value} {P Q : Int32 → mM → Prop}
/-- both of two contracts hold, and the world has no number where none is -/
theorem mT.both (h : ∃ v M1, mT X m as (con M) (some (.int v)) (con M1) ∧ P v M1) (g : ∃ v M1, mT X m as (con M) (some (.int v)) (con M1) ∧ Q v M1) (hP : ∀ v N, P v N → P v (cnm N)) (hQ : ∀ v N, Q v N → Q v (cnm N)) : ∃ v N, mT X m as (con M) (some (.int v)) (con N) ∧ cnm N = N ∧ P v N ∧ Q v N := by
  obtain ⟨v, M1, h1, h2⟩ := h
  obtain ⟨w, M2, g1, g2⟩ := g
  obtain ⟨e1, e2⟩ := h1.det g1
  injection e1 with e3
  injection e3 with e4
  subst e4
  have e5 := cn_of_con e2
  refine ⟨v, cnm M1, by rw [con_cn]; exact h1, cn_cn, hP _ _ h2, ?_⟩
  rw [e5]
  exact hQ _ _ g2
theorem mT.one (h : ∃ v M1, mT X m as (con M) (some (.int v)) (con M1) ∧ P v M1) (hP : ∀ v N, P v N → P v (cnm N)) : ∃ v N, mT X m as (con M) (some (.int v)) (con N) ∧ cnm N = N ∧ P v N := by
  obtain ⟨v, M1, h1, h2⟩ := h
  exact ⟨v, cnm M1, by rw [con_cn]; exact h1, cn_cn, hP _ _ h2⟩
end BO
/-- numbers of a row in their ranges -/
def Vr (nt np : Nat) (r : Nat → Int32) : Prop :=
  (∃ k, k ≤ 99999 ∧ r 0 = nI k) ∧ (∀ s, s < 10 → r (4 + s) = -1 ∨ ∃ k, k < np ∧ r (4 + s) = nI k)
  ∧ (∀ t, t < nt → (∃ k, k ≤ 15 ∧ r (14 + 6 * t + 1) = nI k) ∧ (∃ k, k ≤ 999 ∧ r (14 + 6 * t + 2) = nI k) ∧ ∃ k, k ≤ 9 ∧ r (14 + 6 * t + 3) = nI k)
  ∧ (∀ p, p < np → (∃ k, k ≤ 15 ∧ r (62 + 7 * p + 1) = nI k) ∧ (∃ k, k ≤ 15 ∧ r (62 + 7 * p + 2) = nI k) ∧ ∀ s, s < 4 → ∃ k, k ≤ 9 ∧ r (62 + 7 * p + (3 + s)) = nI k)
/-- a town of the class is as a row of the reference -/
def JT (b a : Nat) (M : mM) : Prop := ∃ nt np, Rel b nt np M (M a) ∧ M a 1 = nI nt ∧ M a 2 = nI np ∧ Vs nt np (M a) ∧ Vr nt np (M a) ∧ M b 7 = -1
theorem JT.of {b a : Nat} {M N : mM} (h : JT b a M) (hb : ∀ c, b ≤ c → c ≤ b + 16 → N c = M c) (ha : N a = M a) : JT b a N := by
  obtain ⟨nt, np, h1, h2, h3, h4, h5, h6⟩ := h
  have hB := hb b (Nat.le_refl _) (by omega)
  refine ⟨nt, np, ?_, by rw [ha]; exact h2, by rw [ha]; exact h3, by rw [ha]; exact h4, by rw [ha]; exact h5, by rw [hB]; exact h6⟩
  rw [ha]
  obtain ⟨g1, g2, g3, g4, g5, g6, g7⟩ := h1
  exact ⟨by rw [hB]; exact g1, by rw [hB]; exact g2, by rw [hB]; exact g3, by rw [hB]; exact g4, fun s hs => by rw [hb _ (by omega) (by omega)]; exact g5 s hs, fun f t hf ht => by rw [hb _ (by omega) (by omega)]; exact g6 f t hf ht, fun f p hf hp => by rw [hb _ (by omega) (by omega)]; exact g7 f p hf hp⟩
/-- sheets, tape, image -/
def JS (M : mM) : Prop := ∀ s, s < 4 → M (2 * s + 58) 1 = M 76 s ∧ M (2 * s + 58) 2 = M 77 s ∧ (M 76 s = 0 ∨ M 76 s = nI 8 ∨ M 76 s = nI 16 ∨ M 76 s = nI 32) ∧ ∀ j, j < 40 → M (2 * s + 59) j = M 78 (40 * s + j)
def JP (M : mM) : Prop := M 52 1 = M 66 9 ∧ ∀ k, k < 120 → M 73 k = M 53 k &&& 255 ∧ M 53 k = (M 73 k).toInt8.toInt32
def JI (M : mM) : Prop := (M 66 3 = 0 ∧ M 0 6 = 0) ∨ (M 66 3 = nI 1 ∧ M 0 6 = nI 1 ∧ JT 18 68 M)
def J (M : mM) : Prop := Inv M ∧ cnm M = M ∧ JT 1 67 M ∧ JI M ∧ JP M ∧ JS M ∧ M 66 6 = -1
theorem JS.of {M N : mM} (h : JS M) (h1 : ∀ c, 58 ≤ c → c ≤ 65 → N c = M c) (h2 : N 76 = M 76) (h3 : N 77 = M 77) (h4 : N 78 = M 78) : JS N := by
  intro s hs
  obtain ⟨g1, g2, g3, g4⟩ := h s hs
  exact ⟨by rw [h1 _ (by omega) (by omega), h2]; exact g1, by rw [h1 _ (by omega) (by omega), h3]; exact g2, by rw [h2]; exact g3, fun j hj => by rw [h1 _ (by omega) (by omega), h4]; exact g4 j hj⟩
theorem JP.of {M N : mM} (h : JP M) (h1 : N 52 1 = M 52 1) (h2 : N 66 9 = M 66 9) (h3 : N 73 = M 73) (h4 : N 53 = M 53) : JP N :=
  ⟨by rw [h1, h2]; exact h.1, fun k hk => by rw [h3, h4]; exact h.2 k hk⟩
theorem JI.of {M N : mM} (h : JI M) (h1 : N 0 6 = M 0 6) (h2 : N 66 3 = M 66 3) (h3 : ∀ c, 18 ≤ c → c ≤ 34 → N c = M c) (h4 : N 68 = M 68) : JI N := by
  rcases h with ⟨g1, g2⟩ | ⟨g1, g2, g3⟩
  · exact Or.inl ⟨h2.trans g1, h1.trans g2⟩
  · exact Or.inr ⟨h2.trans g1, h1.trans g2, g3.of (fun c a b => h3 c a (by omega)) h4⟩
/-- the class asked -/
theorem J.qc {M N : mM} (h : J M) (hN : cnm N = N) (g : Cq M N) : J N := by
  obtain ⟨h1, h2, h3, h4, h5, h6, h7⟩ := h
  have k : ∀ a, 66 ≤ a → N a = M a := fun a ha => g.2 a (Or.inl ha)
  have c : ∀ a, a < 35 → N a = M a := fun a ha => g.2 a (Or.inr ⟨by omega, by omega, by omega, by omega⟩)
  refine ⟨⟨g.1, by rw [k 67 (by decide)]; exact h1.2.1, by rw [k 68 (by decide)]; exact h1.2.2⟩, hN, h3.of (fun x _ hx => c x (by omega)) (k 67 (by decide)), h4.of (by rw [c 0 (by decide)]) (by rw [k 66 (by decide)]) (fun x _ hx => c x (by omega)) (k 68 (by decide)),
    h5.of (by rw [g.2 52 (by decide)]) (by rw [k 66 (by decide)]) (k 73 (by decide)) (g.2 53 (by decide)), h6.of (fun x _ _ => g.2 x (by omega)) (k 76 (by decide)) (k 77 (by decide)) (k 78 (by decide)), by rw [k 66 (by decide)]; exact h7⟩
/-- what asking leaves of the reference, as far as J goes -/
def Rq (M M' : mM) : Prop := Inv M' ∧ (∀ a, a ≠ 66 → a ≠ 69 → a ≠ 70 → a ≠ 71 → a ≠ 72 → M' a = M a) ∧ M' 66 3 = M 66 3 ∧ M' 66 6 = M 66 6 ∧ M' 66 9 = M 66 9
theorem Iq.rq {M M' : mM} (h : Iq M M') : Rq M M' := ⟨h.1, fun a _ _ h3 _ _ => h.2 a h3, by rw [h.2 66 (by decide)], by rw [h.2 66 (by decide)], by rw [h.2 66 (by decide)]⟩
theorem Rq.cn {M N : mM} (hM : cnm M = M) (h : Rq M N) : Rq M (cnm N) := ⟨h.1.cn, fun a h1 h2 h3 h4 h5 => cn_fr hM (h.2.1 a h1 h2 h3 h4 h5), h.2.2.1, h.2.2.2.1, h.2.2.2.2⟩
theorem J.qr {M N : mM} (h : J M) (hN : cnm N = N) (g : Rq M N) : J N := by
  obtain ⟨h1, h2, h3, h4, h5, h6, h7⟩ := h
  obtain ⟨g1, g2, g3, g4, g5⟩ := g
  have c : ∀ a, a < 66 → N a = M a := fun a ha => g2 a (by omega) (by omega) (by omega) (by omega) (by omega)
  exact ⟨g1, hN, h3.of (fun x _ hx => c x (by omega)) (g2 67 (by decide) (by decide) (by decide) (by decide) (by decide)), h4.of (by rw [c 0 (by decide)]) g3 (fun x _ hx => c x (by omega)) (g2 68 (by decide) (by decide) (by decide) (by decide) (by decide)),
    h5.of (by rw [c 52 (by decide)]) g5 (g2 73 (by decide) (by decide) (by decide) (by decide) (by decide)) (c 53 (by decide)), h6.of (fun x _ _ => c x (by omega)) (g2 76 (by decide) (by decide) (by decide) (by decide) (by decide)) (g2 77 (by decide) (by decide) (by decide) (by decide) (by decide)) (g2 78 (by decide) (by decide) (by decide) (by decide) (by decide)), g4.trans h7⟩
end
section
/-! ===== the town changed: what each method answers and makes of the row ===== -/
/-- the answer, and the town behind it -/
abbrev Sq4 := Int32 × Nat × Nat × (Nat → Int32)
def Tm (nt np : Nat) (r : Nat → Int32) (M M' : mM) : Prop := Rel 1 nt np M' r ∧ M' 1 7 = M 1 7 ∧ ∀ a, (a < 1 ∨ (17 < a ∧ a < 35) ∨ (51 < a ∧ a ≠ 55 ∧ a ≠ 56 ∧ a ≠ 57)) → M' a = M a
def Rm (r : Nat → Int32) (M M' : mM) : Prop := M' 67 = r ∧ ∀ a, a ≠ 67 → a ≠ 69 → a ≠ 70 → a ≠ 71 → M' a = M a
def Tq (q : Sq4) (v : Int32) (M M' : mM) : Prop := v = q.1 ∧ Tm q.2.1 q.2.2.1 q.2.2.2 M M'
def Uq (q : Sq4) (v : Int32) (M M' : mM) : Prop := v = q.1 ∧ Rm q.2.2.2 M M'
def addR (r : Nat → Int32) (n : Nat) (s p th pa ow on : Int32) : Nat → Int32 := put1 (put1 (put1 (put1 (put1 (put1 (put1 r (14 + 6 * n + 0) s) (14 + 6 * n + 1) p) (14 + 6 * n + 2) th) (14 + 6 * n + 3) pa) (14 + 6 * n + 4) ow) (14 + 6 * n + 5) on) 1 (nI (n + 1))
def joinR (r : Nat → Int32) (n : Nat) (k p w l0 l1 l2 l3 : Int32) : Nat → Int32 := put1 (put1 (put1 (put1 (put1 (put1 (put1 (put1 r (62 + 7 * n + 0) k) (62 + 7 * n + 1) p) (62 + 7 * n + 2) w) (62 + 7 * n + (3 + 0)) l0) (62 + 7 * n + (3 + 1)) l1) (62 + 7 * n + (3 + 2)) l2) (62 + 7 * n + (3 + 3)) l3) 2 (nI (n + 1))
def fThing (nt np : Nat) (r : Nat → Int32) (a1 a2 : Int32) : Sq4 :=
  if bI (nI 0 ≤ a1 ∧ a1 ≤ nI 3) = 0 then (-1000001, nt, np, r) else if bI (nI 0 ≤ a2 ∧ a2 ≤ nI 15) = 0 then (-1000001, nt, np, r) else if nt = 8 then (-1000002, nt, np, r) else (nI nt, nt + 1, np, addR r nt a1 a2 (nI 100) (nI 0) (-1) (-1))
def fPerson (nt np : Nat) (r : Nat → Int32) (a1 a2 : Int32) : Sq4 :=
  if bI (nI 0 ≤ a1 ∧ a1 ≤ nI 6) = 0 then (-1000001, nt, np, r) else if bI (nI 0 ≤ a2 ∧ a2 ≤ nI 15) = 0 then (-1000001, nt, np, r) else if np = 8 then (-1000002, nt, np, r) else (nI np, nt, np + 1, joinR r np a1 a2 (nI 1) (nI 1) (nI 1) (nI 1) (nI 1))
def fSeed (nt np : Nat) (r : Nat → Int32) (a1 : Int32) : Sq4 := (r 3, nt, np, put1 r 3 a1)
def fHold (nt np : Nat) (r : Nat → Int32) (a1 a2 : Int32) : Sq4 :=
  if bI (nI 0 ≤ a1 ∧ a1 ≤ nI 9) = 0 then (-1000001, nt, np, r) else if a2 = -1 then (nI 1, nt, np, put1 r (4 + a1.toNatClampNeg) a2) else if bI (nI 0 ≤ a2 ∧ a2 ≤ nI np - nI 1) = 0 then (-1000001, nt, np, r) else (nI 1, nt, np, put1 r (4 + a1.toNatClampNeg) a2)
def fGo (nt np : Nat) (r : Nat → Int32) (a1 : Int32) : Sq4 :=
  if bI (nI 1 ≤ a1 ∧ a1 ≤ nI 60) = 0 then (-1000001, nt, np, r) else if nI 99999 < r 0 + a1 then (-1000005, nt, np, r) else (sBits 256 (nI 0) (sGone (sDays (-1) nt np a1.toNatClampNeg r) nt), nt, np, sDays (-1) nt np a1.toNatClampNeg r)
theorem bits_le : ∀ s, s < 256 → ((nI s) &&& (nI s - nI 1)).toNatClampNeg < 256 ∧ nI ((nI s) &&& (nI s - nI 1)).toNatClampNeg = (nI s) &&& (nI s - nI 1) ∧ (¬ s = 0 → ((nI s) &&& (nI s - nI 1)).toNatClampNeg < s) := by decide +kernel
def ush (x y : Int32) : Int32 := (x.toUInt32 >>> (y.toUInt32 &&& Int32.toUInt32 31)).toInt32
def bcn (v : Int32) : Int32 :=
  let a := v - (ush v (nI 1) &&& nI 1431655765)
  let b := (a &&& nI 858993459) + (ush a (nI 2) &&& nI 858993459)
  let c := (b + ush b (nI 4)) &&& nI 252645135
  let d := c + ush c (nI 8)
  (d + ush d (nI 16)) &&& nI 63
theorem bcn_eq : ∀ s, s < 256 → bcn (nI s) = sBits 256 (nI 0) (nI s) := by decide +kernel
section EJ
variable {X : mSc} {Q : Option Value → mHp → Prop} {M : mM} {nt np : Nat} {r : Nat → Int32}
theorem Rel.bq {N : mM} (h : Rel 1 nt np M r) (g : Bq 35 M N) : Tm nt np r M N := by
  have c : ∀ a, (a < 35 ∨ (51 < a ∧ a ≠ 55 ∧ a ≠ 56 ∧ a ≠ 57)) → N a = M a := fun a ha => g.2.1 a (by omega)
  obtain ⟨h1, h2, h3, h4, h5, h6, h7⟩ := h
  exact ⟨⟨by rw [c 1 (by omega)]; exact h1, by rw [c 1 (by omega)]; exact h2, by rw [c 1 (by omega)]; exact h3, by rw [c 1 (by omega)]; exact h4, fun s hs => by rw [c _ (by omega)]; exact h5 s hs, fun f t hf ht => by rw [c _ (by omega)]; exact h6 f t hf ht, fun f p hf hp => by rw [c _ (by omega)]; exact h7 f p hf hp⟩, by rw [c 1 (by omega)], fun a ha => c a (by omega)⟩
theorem Rel.tm {N : mM} {mt mp : Nat} {q : Nat → Int32} (h : Rel 1 mt mp N q) (h7 : N 1 7 = M 1 7) (g : ∀ a, (a < 1 ∨ 17 < a) → N a = M a) : Tm mt mp q M N := ⟨h, h7, fun a ha => g a (by omega)⟩
theorem fnd_rm {v : Int32} (h : M 67 = r) : Rm r M (fndR M v) := ⟨by show mput (mput M 70 _ _) 70 _ _ 67 = r; rw [mpo (by decide), mpo (by decide)]; exact h, fun a _ _ h3 _ => (mpo h3).trans (mpo h3)⟩
theorem Rel.ps {b s : Nat} {v : Int32} (h : Rel b nt np M r) (hs : s < 10) : Rel b nt np (mput M (b + 16) s v) (put1 r (4 + s) v) := by
  obtain ⟨h1, h2, h3, h4, h5, h6, h7⟩ := h
  refine ⟨(mpn (by omega)).trans h1, (mpn (by omega)).trans h2, ?_, ?_, fun z hz => ?_, fun g u hg hu => ?_, fun g u hg hu => ?_⟩
  · rw [mpn (by omega), put1_o (by omega)]; exact h3
  · rw [mpn (by omega), put1_o (by omega)]; exact h4
  · by_cases e : z = s
    · subst e
      rw [put1_s]
      exact mp0
    · rw [mpn (by omega), put1_o (by omega)]; exact h5 z hz
  · rw [mpn (by omega), put1_o (by omega)]; exact h6 g u hg hu
  · rw [mpn (by omega), put1_o (by omega)]; exact h7 g u hg hu
theorem addT_67 {n : Nat} {s p th pa ow on : Int32} : addT M n s p th pa ow on 67 = addR (M 67) n s p th pa ow on := by
  unfold addT addR
  rw [mput67, mput67, mput67, mput67, mput67, mput67, mput67]
theorem addC_rel {s p : Int32} (h : Rel 1 nt np M r) (h8 : nt < 8) : Rel 1 (nt + 1) np (addC M nt s p) (addR r nt s p (nI 100) (nI 0) (-1) (-1)) := by
  obtain ⟨h1, h2, h3, h4, h5, h6, h7⟩ := h
  have e : ∀ a x, (a < 3 ∨ 8 < a ∨ ¬ x = nt) → ¬ (a = 1 ∧ x = 3) → addC M nt s p a x = M a x := by
    intro a x g1 g2
    unfold addC
    rw [mpn (by omega), mpn (by omega), mpn (by omega), mpn (by omega), mpn (by omega), mpn (by omega), mpn (by omega)]
  have q : ∀ j, ¬ j = 1 → (j < 14 + 6 * nt ∨ 14 + 6 * nt + 5 < j) → addR r nt s p (nI 100) (nI 0) (-1) (-1) j = r j := by
    intro j g1 g2
    unfold addR
    rw [put1_o (by omega), put1_o (by omega), put1_o (by omega), put1_o (by omega), put1_o (by omega), put1_o (by omega), put1_o (by omega)]
  refine ⟨?_, ?_, ?_, ?_, fun z hz => ?_, fun g u hg hu => ?_, fun g u hg hu => ?_⟩
  · unfold addC
    rw [mpn (by omega), mpn (by omega), mpn (by omega), mpn (by omega), mpn (by omega), mpn (by omega)]
    exact mp0
  · rw [e _ _ (by omega) (by omega)]; exact h2
  · rw [e _ _ (by omega) (by omega), q _ (by omega) (by omega)]; exact h3
  · rw [e _ _ (by omega) (by omega), q _ (by omega) (by omega)]; exact h4
  · rw [e _ _ (by omega) (by omega), q _ (by omega) (by omega)]; exact h5 z hz
  · by_cases hn : u = nt
    · subst hn
      rcases (by omega : g = 0 ∨ g = 1 ∨ g = 2 ∨ g = 3 ∨ g = 4 ∨ g = 5) with rfl | rfl | rfl | rfl | rfl | rfl
      · unfold addC addR
        rw [mpn (by omega), mpn (by omega), mpn (by omega), mpn (by omega), mpn (by omega), mp0, put1_o (by omega), put1_o (by omega), put1_o (by omega), put1_o (by omega), put1_o (by omega), put1_o (by omega), put1_s]
      · unfold addC addR
        rw [mpn (by omega), mpn (by omega), mpn (by omega), mpn (by omega), mp0, put1_o (by omega), put1_o (by omega), put1_o (by omega), put1_o (by omega), put1_o (by omega), put1_s]
      · unfold addC addR
        rw [mpn (by omega), mpn (by omega), mpn (by omega), mp0, put1_o (by omega), put1_o (by omega), put1_o (by omega), put1_o (by omega), put1_s]
      · unfold addC addR
        rw [mpn (by omega), mpn (by omega), mp0, put1_o (by omega), put1_o (by omega), put1_o (by omega), put1_s]
      · unfold addC addR
        rw [mpn (by omega), mp0, put1_o (by omega), put1_o (by omega), put1_s]
      · unfold addC addR
        rw [mp0, put1_o (by omega), put1_s]
    · rw [e _ _ (by omega) (by omega), q _ (by omega) (by omega)]
      exact h6 g u hg (by omega)
  · rw [e _ _ (by omega) (by omega), q _ (by omega) (by omega)]; exact h7 g u hg hu
theorem joinC_rel {k p : Int32} (h : Rel 1 nt np M r) (hn8 : nt ≤ 8) (h8 : np < 8) : Rel 1 nt (np + 1) (joinC M np k p) (joinR r np k p (nI 1) (nI 1) (nI 1) (nI 1) (nI 1)) := by
  obtain ⟨h1, h2, h3, h4, h5, h6, h7⟩ := h
  have e : ∀ a x, (a < 10 ∨ 16 < a ∨ ¬ x = np) → ¬ (a = 1 ∧ x = 4) → joinC M np k p a x = M a x := by
    intro a x g1 g2
    unfold joinC
    show lkc _ np 4 a x = _
    simp only [lkc]
    rw [mpn (by omega), mpn (by omega), mpn (by omega), mpn (by omega), mpn (by omega), mpn (by omega), mpn (by omega), mpn (by omega)]
  have q : ∀ j, ¬ j = 2 → (j < 62 + 7 * np ∨ 62 + 7 * np + 6 < j) → joinR r np k p (nI 1) (nI 1) (nI 1) (nI 1) (nI 1) j = r j := by
    intro j g1 g2
    unfold joinR
    rw [put1_o (by omega), put1_o (by omega), put1_o (by omega), put1_o (by omega), put1_o (by omega), put1_o (by omega), put1_o (by omega), put1_o (by omega)]
  refine ⟨?_, ?_, ?_, ?_, fun z hz => ?_, fun g u hg hu => ?_, fun g u hg hu => ?_⟩
  · rw [e _ _ (by omega) (by omega)]; exact h1
  · unfold joinC
    simp only [lkc]
    rw [mpn (by omega), mpn (by omega), mpn (by omega), mpn (by omega), mpn (by omega), mpn (by omega), mpn (by omega)]
    exact mp0
  · rw [e _ _ (by omega) (by omega), q _ (by omega) (by omega)]; exact h3
  · rw [e _ _ (by omega) (by omega), q _ (by omega) (by omega)]; exact h4
  · rw [e _ _ (by omega) (by omega), q _ (by omega) (by omega)]; exact h5 z hz
  · rw [e _ _ (by omega) (by omega), q _ (by omega) (by omega)]; exact h6 g u hg hu
  · by_cases hn : u = np
    · subst hn
      rcases (by omega : g = 0 ∨ g = 1 ∨ g = 2 ∨ g = 3 ∨ g = 4 ∨ g = 5 ∨ g = 6) with rfl | rfl | rfl | rfl | rfl | rfl | rfl
      · unfold joinC joinR
        simp only [lkc]
        rw [mpn (by omega), mpn (by omega), mpn (by omega), mpn (by omega), mpn (by omega), mpn (by omega), mp0, put1_o (by omega), put1_o (by omega), put1_o (by omega), put1_o (by omega), put1_o (by omega), put1_o (by omega), put1_o (by omega), put1_s]
      · unfold joinC joinR
        simp only [lkc]
        rw [mpn (by omega), mpn (by omega), mpn (by omega), mpn (by omega), mpn (by omega), mp0, put1_o (by omega), put1_o (by omega), put1_o (by omega), put1_o (by omega), put1_o (by omega), put1_o (by omega), put1_s]
      · unfold joinC joinR
        simp only [lkc]
        rw [mpn (by omega), mpn (by omega), mpn (by omega), mpn (by omega), mp0, put1_o (by omega), put1_o (by omega), put1_o (by omega), put1_o (by omega), put1_o (by omega), put1_s]
      · unfold joinC joinR
        simp only [lkc]
        rw [mpn (by omega), mpn (by omega), mpn (by omega), show 1 + 9 + 3 = 1 + 9 + (3 + 0) from rfl, mp0, put1_o (by omega), put1_o (by omega), put1_o (by omega), put1_o (by omega), put1_s]
      · unfold joinC joinR
        simp only [lkc]
        rw [mpn (by omega), mpn (by omega), show 1 + 9 + 4 = 1 + 9 + (3 + 1) from rfl, mp0, put1_o (by omega), put1_o (by omega), put1_o (by omega), put1_s]
      · unfold joinC joinR
        simp only [lkc]
        rw [mpn (by omega), show 1 + 9 + 5 = 1 + 9 + (3 + 2) from rfl, mp0, put1_o (by omega), put1_o (by omega), put1_s]
      · unfold joinC joinR
        simp only [lkc]
        rw [show 1 + 9 + 6 = 1 + 9 + (3 + 3) from rfl, mp0, put1_o (by omega), put1_s]
    · rw [e _ _ (by omega) (by omega), q _ (by omega) (by omega)]
      exact h7 g u hg (by omega)
theorem addC_fr {s p : Int32} : addC M nt s p 1 7 = M 1 7 ∧ ∀ a, (a < 1 ∨ 17 < a) → addC M nt s p a = M a := by
  refine ⟨?_, fun a ha => ?_⟩ <;> unfold addC
  · rw [mpn (by omega), mpn (by omega), mpn (by omega), mpn (by omega), mpn (by omega), mpn (by omega), mpn (by omega)]
  · rw [mpo (by omega), mpo (by omega), mpo (by omega), mpo (by omega), mpo (by omega), mpo (by omega), mpo (by omega)]
theorem joinC_fr {k p : Int32} : joinC M np k p 1 7 = M 1 7 ∧ ∀ a, (a < 1 ∨ 17 < a) → joinC M np k p a = M a := by
  refine ⟨?_, fun a ha => ?_⟩ <;> unfold joinC <;> simp only [lkc]
  · rw [mpn (by omega), mpn (by omega), mpn (by omega), mpn (by omega), mpn (by omega), mpn (by omega), mpn (by omega), mpn (by omega)]
  · rw [mpo (by omega), mpo (by omega), mpo (by omega), mpo (by omega), mpo (by omega), mpo (by omega), mpo (by omega), mpo (by omega)]
theorem joinT_67 {n : Nat} {k p w : Int32} : joinT M n k p w 67 = joinR (M 67) n k p w (nI 1) (nI 1) (nI 1) (nI 1) := by
  unfold joinT joinR
  simp only [lks]
  rw [mput67, mput67, mput67, mput67, mput67, mput67, mput67, mput67]
theorem joinT_o {n i : Nat} {k p w : Int32} (h : i ≠ 67) : joinT M n k p w i = M i := by
  unfold joinT
  simp only [lks]
  rw [mpo h, mpo h, mpo h, mpo h, mpo h, mpo h, mpo h, mpo h]
theorem g5 {a1 a2 : Int32} (hR : Rel 1 nt np M r) (hn8 : nt ≤ 8) (hp8 : np ≤ 8) : ∃ v M', mT X 5 [.ref 0, .int a1, .int a2] (con M) (some (.int v)) (con M') ∧ Tq (fThing nt np r a1 a2) v M M' := by
  refine ti_of (row := _) rfl (Nat.le_of_ble_eq_true rfl) ?_
  have hm : mMet 5 = some _ := rfl
  refine x_iload_n hm rfl rfl ?_
  refine x_iconst hm rfl (v := nI 0) (by decide) ?_
  refine x_iconst hm rfl (v := nI 3) (by decide) ?_
  refine x_callS hm rfl rfl (t6) ?_
  refine x_if_eq hm rfl (t := 19) rfl (fun h1 => ?_) (fun h1 => ?_)
  · refine x_aload_n hm rfl rfl ?_
    refine x_ldcI hm rfl (v := (-1000001 : Int32)) (by decide +kernel) ?_
    refine x_cVi hm rfl rfl (t7 (by decide +kernel)) (fun v2 M2 r2 => ?_)
    refine x_iret hm rfl rfl (by first | rfl | exact bI_nar | decide) ?_
    first
      | (have hq : fThing nt np r a1 a2 = (-1000001, nt, np, r) := by
           unfold fThing
           rw [if_pos (by assumption)]
         exact ⟨_, _, rfl, rfl, by rw [hq]; exact ⟨r2.1, hR.bq r2.2⟩⟩)
      | (have hq : fThing nt np r a1 a2 = (-1000001, nt, np, r) := by
           unfold fThing
           rw [if_neg (by assumption), if_pos (by assumption)]
         exact ⟨_, _, rfl, rfl, by rw [hq]; exact ⟨r2.1, hR.bq r2.2⟩⟩)
      | (have hq : fThing nt np r a1 a2 = (-1000001, nt, np, r) := by
           unfold fThing
           rw [if_pos (by assumption)]
         exact ⟨_, _, rfl, rfl, by rw [hq]; exact ⟨r1.1, hR.bq r1.2⟩⟩)
      | (have hq : fThing nt np r a1 a2 = (-1000001, nt, np, r) := by
           unfold fThing
           rw [if_pos (by assumption)]
         exact ⟨_, _, rfl, rfl, by rw [hq]; exact ⟨r3.1, hR.bq r3.2⟩⟩)
      | (have hq : fThing nt np r a1 a2 = (-1000001, nt, np, r) := by
           unfold fThing
           rw [if_pos (by assumption)]
         exact ⟨_, _, rfl, rfl, by rw [hq]; exact ⟨r4.1, hR.bq r4.2⟩⟩)
      | (have hq : fThing nt np r a1 a2 = (-1000001, nt, np, r) := by
           unfold fThing
           rw [if_pos (by assumption)]
         exact ⟨_, _, rfl, rfl, by rw [hq]; exact ⟨r5.1, hR.bq r5.2⟩⟩)
      | (have hq : fThing nt np r a1 a2 = (-1000001, nt, np, r) := by
           unfold fThing
           rw [if_pos (by assumption)]
         exact ⟨_, _, rfl, rfl, by rw [hq]; exact ⟨r6.1, hR.bq r6.2⟩⟩)
      | (have hq : fThing nt np r a1 a2 = (-1000001, nt, np, r) := by
           unfold fThing
           rw [if_pos (by assumption)]
         exact ⟨_, _, rfl, rfl, by rw [hq]; exact ⟨r7.1, hR.bq r7.2⟩⟩)
      | (have hq : fThing nt np r a1 a2 = (-1000001, nt, np, r) := by
           unfold fThing
           rw [if_pos (by assumption)]
         exact ⟨_, _, rfl, rfl, by rw [hq]; exact ⟨r8.1, hR.bq r8.2⟩⟩)
      | (have hq : fThing nt np r a1 a2 = (-1000001, nt, np, r) := by
           unfold fThing
           rw [if_neg (by assumption), if_pos (by assumption)]
         exact ⟨_, _, rfl, rfl, by rw [hq]; exact ⟨r1.1, hR.bq r1.2⟩⟩)
      | (have hq : fThing nt np r a1 a2 = (-1000001, nt, np, r) := by
           unfold fThing
           rw [if_neg (by assumption), if_pos (by assumption)]
         exact ⟨_, _, rfl, rfl, by rw [hq]; exact ⟨r3.1, hR.bq r3.2⟩⟩)
      | (have hq : fThing nt np r a1 a2 = (-1000001, nt, np, r) := by
           unfold fThing
           rw [if_neg (by assumption), if_pos (by assumption)]
         exact ⟨_, _, rfl, rfl, by rw [hq]; exact ⟨r4.1, hR.bq r4.2⟩⟩)
      | (have hq : fThing nt np r a1 a2 = (-1000001, nt, np, r) := by
           unfold fThing
           rw [if_neg (by assumption), if_pos (by assumption)]
         exact ⟨_, _, rfl, rfl, by rw [hq]; exact ⟨r5.1, hR.bq r5.2⟩⟩)
      | (have hq : fThing nt np r a1 a2 = (-1000001, nt, np, r) := by
           unfold fThing
           rw [if_neg (by assumption), if_pos (by assumption)]
         exact ⟨_, _, rfl, rfl, by rw [hq]; exact ⟨r6.1, hR.bq r6.2⟩⟩)
      | (have hq : fThing nt np r a1 a2 = (-1000001, nt, np, r) := by
           unfold fThing
           rw [if_neg (by assumption), if_pos (by assumption)]
         exact ⟨_, _, rfl, rfl, by rw [hq]; exact ⟨r7.1, hR.bq r7.2⟩⟩)
      | (have hq : fThing nt np r a1 a2 = (-1000001, nt, np, r) := by
           unfold fThing
           rw [if_neg (by assumption), if_pos (by assumption)]
         exact ⟨_, _, rfl, rfl, by rw [hq]; exact ⟨r8.1, hR.bq r8.2⟩⟩)
  · refine x_iload_n hm rfl rfl ?_
    refine x_iconst hm rfl (v := nI 0) (by decide) ?_
    refine x_bipush hm rfl (v := nI 15) (by decide) ?_
    refine x_callS hm rfl rfl (t6) ?_
    refine x_if_ne hm rfl (t := 26) rfl (fun h3 => ?_) (fun h3 => ?_)
    · refine x_aload_n hm rfl rfl ?_
      refine x_getf hm rfl (gR rfl rfl) ?_
      refine x_getf hm rfl (gI rfl rfl) ?_
      rw [hR.1]
      refine x_bipush hm rfl (v := nI 8) (by decide) ?_
      refine x_icmp_lt hm rfl (t := 45) rfl (fun h4 => ?_) (fun h4 => ?_)
      · have hlt : nt < 8 := (jI_lt (by omega) (by decide)).mp h4
        have hne : ¬ nt = 8 := by omega
        refine x_aload_n hm rfl rfl ?_
        refine x_getf hm rfl (gR rfl rfl) ?_
        refine x_iload_n hm rfl rfl ?_
        refine x_iload_n hm rfl rfl ?_
        refine x_callV hm rfl rfl (u8 hR.1 hlt) ?_
        refine x_iret hm rfl rfl (by first | rfl | exact bI_nar | decide) ?_
        have hq : fThing nt np r a1 a2 = (nI nt, nt + 1, np, addR r nt a1 a2 (nI 100) (nI 0) (-1) (-1)) := by
          unfold fThing
          rw [if_neg (by assumption), if_neg (by assumption), if_neg (by assumption)]
        exact ⟨_, _, rfl, rfl, by rw [hq]; exact ⟨rfl, (addC_rel hR hlt).tm addC_fr.1 addC_fr.2⟩⟩
      · have heq : nt = 8 := Nat.le_antisymm hn8 (Nat.le_of_not_lt fun h => h4 ((jI_lt (by omega) (by decide)).mpr h))
        refine x_aload_n hm rfl rfl ?_
        refine x_ldcI hm rfl (v := (-1000002 : Int32)) (by decide +kernel) ?_
        refine x_cVi hm rfl rfl (t7 (by decide +kernel)) (fun v5 M5 r5 => ?_)
        refine x_iret hm rfl rfl (by first | rfl | exact bI_nar | decide) ?_
        first
          | (have hq : fThing nt np r a1 a2 = (-1000002, nt, np, r) := by
               unfold fThing
               rw [if_neg (by assumption), if_neg (by assumption), if_pos (by assumption)]
             exact ⟨_, _, rfl, rfl, by rw [hq]; exact ⟨r5.1, hR.bq r5.2⟩⟩)
          | (have hq : fThing nt np r a1 a2 = (-1000002, nt, np, r) := by
               unfold fThing
               rw [if_neg (by assumption), if_neg (by assumption), if_pos (by assumption)]
             exact ⟨_, _, rfl, rfl, by rw [hq]; exact ⟨r1.1, hR.bq r1.2⟩⟩)
          | (have hq : fThing nt np r a1 a2 = (-1000002, nt, np, r) := by
               unfold fThing
               rw [if_neg (by assumption), if_neg (by assumption), if_pos (by assumption)]
             exact ⟨_, _, rfl, rfl, by rw [hq]; exact ⟨r2.1, hR.bq r2.2⟩⟩)
          | (have hq : fThing nt np r a1 a2 = (-1000002, nt, np, r) := by
               unfold fThing
               rw [if_neg (by assumption), if_neg (by assumption), if_pos (by assumption)]
             exact ⟨_, _, rfl, rfl, by rw [hq]; exact ⟨r3.1, hR.bq r3.2⟩⟩)
          | (have hq : fThing nt np r a1 a2 = (-1000002, nt, np, r) := by
               unfold fThing
               rw [if_neg (by assumption), if_neg (by assumption), if_pos (by assumption)]
             exact ⟨_, _, rfl, rfl, by rw [hq]; exact ⟨r4.1, hR.bq r4.2⟩⟩)
          | (have hq : fThing nt np r a1 a2 = (-1000002, nt, np, r) := by
               unfold fThing
               rw [if_neg (by assumption), if_neg (by assumption), if_pos (by assumption)]
             exact ⟨_, _, rfl, rfl, by rw [hq]; exact ⟨r6.1, hR.bq r6.2⟩⟩)
          | (have hq : fThing nt np r a1 a2 = (-1000002, nt, np, r) := by
               unfold fThing
               rw [if_neg (by assumption), if_neg (by assumption), if_pos (by assumption)]
             exact ⟨_, _, rfl, rfl, by rw [hq]; exact ⟨r7.1, hR.bq r7.2⟩⟩)
          | (have hq : fThing nt np r a1 a2 = (-1000002, nt, np, r) := by
               unfold fThing
               rw [if_neg (by assumption), if_neg (by assumption), if_pos (by assumption)]
             exact ⟨_, _, rfl, rfl, by rw [hq]; exact ⟨r8.1, hR.bq r8.2⟩⟩)
    · refine x_aload_n hm rfl rfl ?_
      refine x_ldcI hm rfl (v := (-1000001 : Int32)) (by decide +kernel) ?_
      refine x_cVi hm rfl rfl (t7 (by decide +kernel)) (fun v6 M6 r6 => ?_)
      refine x_iret hm rfl rfl (by first | rfl | exact bI_nar | decide) ?_
      first
        | (have hq : fThing nt np r a1 a2 = (-1000001, nt, np, r) := by
             unfold fThing
             rw [if_pos (by assumption)]
           exact ⟨_, _, rfl, rfl, by rw [hq]; exact ⟨r6.1, hR.bq r6.2⟩⟩)
        | (have hq : fThing nt np r a1 a2 = (-1000001, nt, np, r) := by
             unfold fThing
             rw [if_neg (by assumption), if_pos (by assumption)]
           exact ⟨_, _, rfl, rfl, by rw [hq]; exact ⟨r6.1, hR.bq r6.2⟩⟩)
        | (have hq : fThing nt np r a1 a2 = (-1000001, nt, np, r) := by
             unfold fThing
             rw [if_pos (by assumption)]
           exact ⟨_, _, rfl, rfl, by rw [hq]; exact ⟨r1.1, hR.bq r1.2⟩⟩)
        | (have hq : fThing nt np r a1 a2 = (-1000001, nt, np, r) := by
             unfold fThing
             rw [if_pos (by assumption)]
           exact ⟨_, _, rfl, rfl, by rw [hq]; exact ⟨r2.1, hR.bq r2.2⟩⟩)
        | (have hq : fThing nt np r a1 a2 = (-1000001, nt, np, r) := by
             unfold fThing
             rw [if_pos (by assumption)]
           exact ⟨_, _, rfl, rfl, by rw [hq]; exact ⟨r3.1, hR.bq r3.2⟩⟩)
        | (have hq : fThing nt np r a1 a2 = (-1000001, nt, np, r) := by
             unfold fThing
             rw [if_pos (by assumption)]
           exact ⟨_, _, rfl, rfl, by rw [hq]; exact ⟨r4.1, hR.bq r4.2⟩⟩)
        | (have hq : fThing nt np r a1 a2 = (-1000001, nt, np, r) := by
             unfold fThing
             rw [if_pos (by assumption)]
           exact ⟨_, _, rfl, rfl, by rw [hq]; exact ⟨r5.1, hR.bq r5.2⟩⟩)
        | (have hq : fThing nt np r a1 a2 = (-1000001, nt, np, r) := by
             unfold fThing
             rw [if_pos (by assumption)]
           exact ⟨_, _, rfl, rfl, by rw [hq]; exact ⟨r7.1, hR.bq r7.2⟩⟩)
        | (have hq : fThing nt np r a1 a2 = (-1000001, nt, np, r) := by
             unfold fThing
             rw [if_pos (by assumption)]
           exact ⟨_, _, rfl, rfl, by rw [hq]; exact ⟨r8.1, hR.bq r8.2⟩⟩)
        | (have hq : fThing nt np r a1 a2 = (-1000001, nt, np, r) := by
             unfold fThing
             rw [if_neg (by assumption), if_pos (by assumption)]
           exact ⟨_, _, rfl, rfl, by rw [hq]; exact ⟨r1.1, hR.bq r1.2⟩⟩)
        | (have hq : fThing nt np r a1 a2 = (-1000001, nt, np, r) := by
             unfold fThing
             rw [if_neg (by assumption), if_pos (by assumption)]
           exact ⟨_, _, rfl, rfl, by rw [hq]; exact ⟨r2.1, hR.bq r2.2⟩⟩)
        | (have hq : fThing nt np r a1 a2 = (-1000001, nt, np, r) := by
             unfold fThing
             rw [if_neg (by assumption), if_pos (by assumption)]
           exact ⟨_, _, rfl, rfl, by rw [hq]; exact ⟨r3.1, hR.bq r3.2⟩⟩)
        | (have hq : fThing nt np r a1 a2 = (-1000001, nt, np, r) := by
             unfold fThing
             rw [if_neg (by assumption), if_pos (by assumption)]
           exact ⟨_, _, rfl, rfl, by rw [hq]; exact ⟨r4.1, hR.bq r4.2⟩⟩)
        | (have hq : fThing nt np r a1 a2 = (-1000001, nt, np, r) := by
             unfold fThing
             rw [if_neg (by assumption), if_pos (by assumption)]
           exact ⟨_, _, rfl, rfl, by rw [hq]; exact ⟨r5.1, hR.bq r5.2⟩⟩)
        | (have hq : fThing nt np r a1 a2 = (-1000001, nt, np, r) := by
             unfold fThing
             rw [if_neg (by assumption), if_pos (by assumption)]
           exact ⟨_, _, rfl, rfl, by rw [hq]; exact ⟨r7.1, hR.bq r7.2⟩⟩)
        | (have hq : fThing nt np r a1 a2 = (-1000001, nt, np, r) := by
             unfold fThing
             rw [if_neg (by assumption), if_pos (by assumption)]
           exact ⟨_, _, rfl, rfl, by rw [hq]; exact ⟨r8.1, hR.bq r8.2⟩⟩)
theorem g22 {a1 a2 : Int32} (hR : Rel 1 nt np M r) (hn8 : nt ≤ 8) (hp8 : np ≤ 8) : ∃ v M', mT X 22 [.ref 0, .int a1, .int a2] (con M) (some (.int v)) (con M') ∧ Tq (fPerson nt np r a1 a2) v M M' := by
  refine ti_of (row := _) rfl (Nat.le_of_ble_eq_true rfl) ?_
  have hm : mMet 22 = some _ := rfl
  refine x_iload_n hm rfl rfl ?_
  refine x_iconst hm rfl (v := nI 0) (by decide) ?_
  refine x_bipush hm rfl (v := nI 6) (by decide) ?_
  refine x_callS hm rfl rfl (t6) ?_
  refine x_if_eq hm rfl (t := 20) rfl (fun h1 => ?_) (fun h1 => ?_)
  · refine x_aload_n hm rfl rfl ?_
    refine x_ldcI hm rfl (v := (-1000001 : Int32)) (by decide +kernel) ?_
    refine x_cVi hm rfl rfl (t7 (by decide +kernel)) (fun v2 M2 r2 => ?_)
    refine x_iret hm rfl rfl (by first | rfl | exact bI_nar | decide) ?_
    first
      | (have hq : fPerson nt np r a1 a2 = (-1000001, nt, np, r) := by
           unfold fPerson
           rw [if_pos (by assumption)]
         exact ⟨_, _, rfl, rfl, by rw [hq]; exact ⟨r2.1, hR.bq r2.2⟩⟩)
      | (have hq : fPerson nt np r a1 a2 = (-1000001, nt, np, r) := by
           unfold fPerson
           rw [if_neg (by assumption), if_pos (by assumption)]
         exact ⟨_, _, rfl, rfl, by rw [hq]; exact ⟨r2.1, hR.bq r2.2⟩⟩)
      | (have hq : fPerson nt np r a1 a2 = (-1000001, nt, np, r) := by
           unfold fPerson
           rw [if_pos (by assumption)]
         exact ⟨_, _, rfl, rfl, by rw [hq]; exact ⟨r1.1, hR.bq r1.2⟩⟩)
      | (have hq : fPerson nt np r a1 a2 = (-1000001, nt, np, r) := by
           unfold fPerson
           rw [if_pos (by assumption)]
         exact ⟨_, _, rfl, rfl, by rw [hq]; exact ⟨r3.1, hR.bq r3.2⟩⟩)
      | (have hq : fPerson nt np r a1 a2 = (-1000001, nt, np, r) := by
           unfold fPerson
           rw [if_pos (by assumption)]
         exact ⟨_, _, rfl, rfl, by rw [hq]; exact ⟨r4.1, hR.bq r4.2⟩⟩)
      | (have hq : fPerson nt np r a1 a2 = (-1000001, nt, np, r) := by
           unfold fPerson
           rw [if_pos (by assumption)]
         exact ⟨_, _, rfl, rfl, by rw [hq]; exact ⟨r5.1, hR.bq r5.2⟩⟩)
      | (have hq : fPerson nt np r a1 a2 = (-1000001, nt, np, r) := by
           unfold fPerson
           rw [if_pos (by assumption)]
         exact ⟨_, _, rfl, rfl, by rw [hq]; exact ⟨r6.1, hR.bq r6.2⟩⟩)
      | (have hq : fPerson nt np r a1 a2 = (-1000001, nt, np, r) := by
           unfold fPerson
           rw [if_pos (by assumption)]
         exact ⟨_, _, rfl, rfl, by rw [hq]; exact ⟨r7.1, hR.bq r7.2⟩⟩)
      | (have hq : fPerson nt np r a1 a2 = (-1000001, nt, np, r) := by
           unfold fPerson
           rw [if_pos (by assumption)]
         exact ⟨_, _, rfl, rfl, by rw [hq]; exact ⟨r8.1, hR.bq r8.2⟩⟩)
      | (have hq : fPerson nt np r a1 a2 = (-1000001, nt, np, r) := by
           unfold fPerson
           rw [if_neg (by assumption), if_pos (by assumption)]
         exact ⟨_, _, rfl, rfl, by rw [hq]; exact ⟨r1.1, hR.bq r1.2⟩⟩)
      | (have hq : fPerson nt np r a1 a2 = (-1000001, nt, np, r) := by
           unfold fPerson
           rw [if_neg (by assumption), if_pos (by assumption)]
         exact ⟨_, _, rfl, rfl, by rw [hq]; exact ⟨r3.1, hR.bq r3.2⟩⟩)
      | (have hq : fPerson nt np r a1 a2 = (-1000001, nt, np, r) := by
           unfold fPerson
           rw [if_neg (by assumption), if_pos (by assumption)]
         exact ⟨_, _, rfl, rfl, by rw [hq]; exact ⟨r4.1, hR.bq r4.2⟩⟩)
      | (have hq : fPerson nt np r a1 a2 = (-1000001, nt, np, r) := by
           unfold fPerson
           rw [if_neg (by assumption), if_pos (by assumption)]
         exact ⟨_, _, rfl, rfl, by rw [hq]; exact ⟨r5.1, hR.bq r5.2⟩⟩)
      | (have hq : fPerson nt np r a1 a2 = (-1000001, nt, np, r) := by
           unfold fPerson
           rw [if_neg (by assumption), if_pos (by assumption)]
         exact ⟨_, _, rfl, rfl, by rw [hq]; exact ⟨r6.1, hR.bq r6.2⟩⟩)
      | (have hq : fPerson nt np r a1 a2 = (-1000001, nt, np, r) := by
           unfold fPerson
           rw [if_neg (by assumption), if_pos (by assumption)]
         exact ⟨_, _, rfl, rfl, by rw [hq]; exact ⟨r7.1, hR.bq r7.2⟩⟩)
      | (have hq : fPerson nt np r a1 a2 = (-1000001, nt, np, r) := by
           unfold fPerson
           rw [if_neg (by assumption), if_pos (by assumption)]
         exact ⟨_, _, rfl, rfl, by rw [hq]; exact ⟨r8.1, hR.bq r8.2⟩⟩)
  · refine x_iload_n hm rfl rfl ?_
    refine x_iconst hm rfl (v := nI 0) (by decide) ?_
    refine x_bipush hm rfl (v := nI 15) (by decide) ?_
    refine x_callS hm rfl rfl (t6) ?_
    refine x_if_ne hm rfl (t := 27) rfl (fun h3 => ?_) (fun h3 => ?_)
    · refine x_aload_n hm rfl rfl ?_
      refine x_getf hm rfl (gR rfl rfl) ?_
      refine x_getf hm rfl (gI rfl rfl) ?_
      rw [hR.2.1]
      refine x_bipush hm rfl (v := nI 8) (by decide) ?_
      refine x_icmp_lt hm rfl (t := 46) rfl (fun h4 => ?_) (fun h4 => ?_)
      · have hlt : np < 8 := (jI_lt (by omega) (by decide)).mp h4
        have hne : ¬ np = 8 := by omega
        refine x_aload_n hm rfl rfl ?_
        refine x_getf hm rfl (gR rfl rfl) ?_
        refine x_iload_n hm rfl rfl ?_
        refine x_iload_n hm rfl rfl ?_
        refine x_callV hm rfl rfl (u23 hR.2.1 hlt) ?_
        refine x_iret hm rfl rfl (by first | rfl | exact bI_nar | decide) ?_
        have hq : fPerson nt np r a1 a2 = (nI np, nt, np + 1, joinR r np a1 a2 (nI 1) (nI 1) (nI 1) (nI 1) (nI 1)) := by
          unfold fPerson
          rw [if_neg (by assumption), if_neg (by assumption), if_neg (by assumption)]
        exact ⟨_, _, rfl, rfl, by rw [hq]; exact ⟨rfl, (joinC_rel hR hn8 hlt).tm joinC_fr.1 joinC_fr.2⟩⟩
      · have heq : np = 8 := Nat.le_antisymm hp8 (Nat.le_of_not_lt fun h => h4 ((jI_lt (by omega) (by decide)).mpr h))
        refine x_aload_n hm rfl rfl ?_
        refine x_ldcI hm rfl (v := (-1000002 : Int32)) (by decide +kernel) ?_
        refine x_cVi hm rfl rfl (t7 (by decide +kernel)) (fun v5 M5 r5 => ?_)
        refine x_iret hm rfl rfl (by first | rfl | exact bI_nar | decide) ?_
        first
          | (have hq : fPerson nt np r a1 a2 = (-1000002, nt, np, r) := by
               unfold fPerson
               rw [if_neg (by assumption), if_neg (by assumption), if_pos (by assumption)]
             exact ⟨_, _, rfl, rfl, by rw [hq]; exact ⟨r5.1, hR.bq r5.2⟩⟩)
          | (have hq : fPerson nt np r a1 a2 = (-1000002, nt, np, r) := by
               unfold fPerson
               rw [if_neg (by assumption), if_neg (by assumption), if_pos (by assumption)]
             exact ⟨_, _, rfl, rfl, by rw [hq]; exact ⟨r1.1, hR.bq r1.2⟩⟩)
          | (have hq : fPerson nt np r a1 a2 = (-1000002, nt, np, r) := by
               unfold fPerson
               rw [if_neg (by assumption), if_neg (by assumption), if_pos (by assumption)]
             exact ⟨_, _, rfl, rfl, by rw [hq]; exact ⟨r2.1, hR.bq r2.2⟩⟩)
          | (have hq : fPerson nt np r a1 a2 = (-1000002, nt, np, r) := by
               unfold fPerson
               rw [if_neg (by assumption), if_neg (by assumption), if_pos (by assumption)]
             exact ⟨_, _, rfl, rfl, by rw [hq]; exact ⟨r3.1, hR.bq r3.2⟩⟩)
          | (have hq : fPerson nt np r a1 a2 = (-1000002, nt, np, r) := by
               unfold fPerson
               rw [if_neg (by assumption), if_neg (by assumption), if_pos (by assumption)]
             exact ⟨_, _, rfl, rfl, by rw [hq]; exact ⟨r4.1, hR.bq r4.2⟩⟩)
          | (have hq : fPerson nt np r a1 a2 = (-1000002, nt, np, r) := by
               unfold fPerson
               rw [if_neg (by assumption), if_neg (by assumption), if_pos (by assumption)]
             exact ⟨_, _, rfl, rfl, by rw [hq]; exact ⟨r6.1, hR.bq r6.2⟩⟩)
          | (have hq : fPerson nt np r a1 a2 = (-1000002, nt, np, r) := by
               unfold fPerson
               rw [if_neg (by assumption), if_neg (by assumption), if_pos (by assumption)]
             exact ⟨_, _, rfl, rfl, by rw [hq]; exact ⟨r7.1, hR.bq r7.2⟩⟩)
          | (have hq : fPerson nt np r a1 a2 = (-1000002, nt, np, r) := by
               unfold fPerson
               rw [if_neg (by assumption), if_neg (by assumption), if_pos (by assumption)]
             exact ⟨_, _, rfl, rfl, by rw [hq]; exact ⟨r8.1, hR.bq r8.2⟩⟩)
    · refine x_aload_n hm rfl rfl ?_
      refine x_ldcI hm rfl (v := (-1000001 : Int32)) (by decide +kernel) ?_
      refine x_cVi hm rfl rfl (t7 (by decide +kernel)) (fun v6 M6 r6 => ?_)
      refine x_iret hm rfl rfl (by first | rfl | exact bI_nar | decide) ?_
      first
        | (have hq : fPerson nt np r a1 a2 = (-1000001, nt, np, r) := by
             unfold fPerson
             rw [if_pos (by assumption)]
           exact ⟨_, _, rfl, rfl, by rw [hq]; exact ⟨r6.1, hR.bq r6.2⟩⟩)
        | (have hq : fPerson nt np r a1 a2 = (-1000001, nt, np, r) := by
             unfold fPerson
             rw [if_neg (by assumption), if_pos (by assumption)]
           exact ⟨_, _, rfl, rfl, by rw [hq]; exact ⟨r6.1, hR.bq r6.2⟩⟩)
        | (have hq : fPerson nt np r a1 a2 = (-1000001, nt, np, r) := by
             unfold fPerson
             rw [if_pos (by assumption)]
           exact ⟨_, _, rfl, rfl, by rw [hq]; exact ⟨r1.1, hR.bq r1.2⟩⟩)
        | (have hq : fPerson nt np r a1 a2 = (-1000001, nt, np, r) := by
             unfold fPerson
             rw [if_pos (by assumption)]
           exact ⟨_, _, rfl, rfl, by rw [hq]; exact ⟨r2.1, hR.bq r2.2⟩⟩)
        | (have hq : fPerson nt np r a1 a2 = (-1000001, nt, np, r) := by
             unfold fPerson
             rw [if_pos (by assumption)]
           exact ⟨_, _, rfl, rfl, by rw [hq]; exact ⟨r3.1, hR.bq r3.2⟩⟩)
        | (have hq : fPerson nt np r a1 a2 = (-1000001, nt, np, r) := by
             unfold fPerson
             rw [if_pos (by assumption)]
           exact ⟨_, _, rfl, rfl, by rw [hq]; exact ⟨r4.1, hR.bq r4.2⟩⟩)
        | (have hq : fPerson nt np r a1 a2 = (-1000001, nt, np, r) := by
             unfold fPerson
             rw [if_pos (by assumption)]
           exact ⟨_, _, rfl, rfl, by rw [hq]; exact ⟨r5.1, hR.bq r5.2⟩⟩)
        | (have hq : fPerson nt np r a1 a2 = (-1000001, nt, np, r) := by
             unfold fPerson
             rw [if_pos (by assumption)]
           exact ⟨_, _, rfl, rfl, by rw [hq]; exact ⟨r7.1, hR.bq r7.2⟩⟩)
        | (have hq : fPerson nt np r a1 a2 = (-1000001, nt, np, r) := by
             unfold fPerson
             rw [if_pos (by assumption)]
           exact ⟨_, _, rfl, rfl, by rw [hq]; exact ⟨r8.1, hR.bq r8.2⟩⟩)
        | (have hq : fPerson nt np r a1 a2 = (-1000001, nt, np, r) := by
             unfold fPerson
             rw [if_neg (by assumption), if_pos (by assumption)]
           exact ⟨_, _, rfl, rfl, by rw [hq]; exact ⟨r1.1, hR.bq r1.2⟩⟩)
        | (have hq : fPerson nt np r a1 a2 = (-1000001, nt, np, r) := by
             unfold fPerson
             rw [if_neg (by assumption), if_pos (by assumption)]
           exact ⟨_, _, rfl, rfl, by rw [hq]; exact ⟨r2.1, hR.bq r2.2⟩⟩)
        | (have hq : fPerson nt np r a1 a2 = (-1000001, nt, np, r) := by
             unfold fPerson
             rw [if_neg (by assumption), if_pos (by assumption)]
           exact ⟨_, _, rfl, rfl, by rw [hq]; exact ⟨r3.1, hR.bq r3.2⟩⟩)
        | (have hq : fPerson nt np r a1 a2 = (-1000001, nt, np, r) := by
             unfold fPerson
             rw [if_neg (by assumption), if_pos (by assumption)]
           exact ⟨_, _, rfl, rfl, by rw [hq]; exact ⟨r4.1, hR.bq r4.2⟩⟩)
        | (have hq : fPerson nt np r a1 a2 = (-1000001, nt, np, r) := by
             unfold fPerson
             rw [if_neg (by assumption), if_pos (by assumption)]
           exact ⟨_, _, rfl, rfl, by rw [hq]; exact ⟨r5.1, hR.bq r5.2⟩⟩)
        | (have hq : fPerson nt np r a1 a2 = (-1000001, nt, np, r) := by
             unfold fPerson
             rw [if_neg (by assumption), if_pos (by assumption)]
           exact ⟨_, _, rfl, rfl, by rw [hq]; exact ⟨r7.1, hR.bq r7.2⟩⟩)
        | (have hq : fPerson nt np r a1 a2 = (-1000001, nt, np, r) := by
             unfold fPerson
             rw [if_neg (by assumption), if_pos (by assumption)]
           exact ⟨_, _, rfl, rfl, by rw [hq]; exact ⟨r8.1, hR.bq r8.2⟩⟩)
theorem g86 {a1 : Int32} (hR : Rel 1 nt np M r) (hn8 : nt ≤ 8) (hp8 : np ≤ 8) : ∃ v M', mT X 86 [.ref 0, .int a1] (con M) (some (.int v)) (con M') ∧ Tq (fSeed nt np r a1) v M M' := by
  refine ti_of (row := _) rfl (Nat.le_of_ble_eq_true rfl) ?_
  have hm : mMet 86 = some _ := rfl
  refine x_aload_n hm rfl rfl ?_
  refine x_getf hm rfl (gR rfl rfl) ?_
  refine x_getf hm rfl (gI rfl rfl) ?_
  refine x_istore_n hm rfl rfl ?_
  refine x_aload_n hm rfl rfl ?_
  refine x_getf hm rfl (gR rfl rfl) ?_
  refine x_iload_n hm rfl rfl ?_
  refine x_putf hm rfl (pI rfl rfl (by decide) (by first | exact mFit_int | rfl | decide) rfl) ?_
  refine x_iload_n hm rfl rfl ?_
  refine x_iret hm rfl rfl (by first | rfl | exact bI_nar | decide) ?_
  exact ⟨_, _, rfl, rfl, hR.2.2.2.1, hR.pz.tm (mpn (by omega)) (fun a ha => mpo (by omega))⟩
theorem g114 {a1 a2 : Int32} (hR : Rel 1 nt np M r) (hn8 : nt ≤ 8) (hp8 : np ≤ 8) : ∃ v M', mT X 114 [.ref 0, .int a1, .int a2] (con M) (some (.int v)) (con M') ∧ Tq (fHold nt np r a1 a2) v M M' := by
  refine ti_of (row := _) rfl (Nat.le_of_ble_eq_true rfl) ?_
  have hm : mMet 114 = some _ := rfl
  refine x_iload_n hm rfl rfl ?_
  refine x_iconst hm rfl (v := nI 0) (by decide) ?_
  refine x_bipush hm rfl (v := nI 9) (by decide) ?_
  refine x_callS hm rfl rfl (t6) ?_
  refine x_if_eq hm rfl (t := 26) rfl (fun h1 => ?_) (fun h1 => ?_)
  · refine x_aload_n hm rfl rfl ?_
    refine x_ldcI hm rfl (v := (-1000001 : Int32)) (by decide +kernel) ?_
    refine x_cVi hm rfl rfl (t7 (by decide +kernel)) (fun v2 M2 r2 => ?_)
    refine x_iret hm rfl rfl (by first | rfl | exact bI_nar | decide) ?_
    first
      | (have hq : fHold nt np r a1 a2 = (-1000001, nt, np, r) := by
           unfold fHold
           rw [if_pos (by assumption)]
         exact ⟨_, _, rfl, rfl, by rw [hq]; exact ⟨r2.1, hR.bq r2.2⟩⟩)
      | (have hq : fHold nt np r (nI s) a2 = (-1000001, nt, np, r) := by
           unfold fHold
           rw [if_neg (by assumption), if_neg (by assumption), if_pos (by assumption)]
         exact ⟨_, _, rfl, rfl, by rw [hq]; exact ⟨r2.1, hR.bq r2.2⟩⟩)
      | (have hq : fHold nt np r a1 a2 = (-1000001, nt, np, r) := by
           unfold fHold
           rw [if_pos (by assumption)]
         exact ⟨_, _, rfl, rfl, by rw [hq]; exact ⟨r1.1, hR.bq r1.2⟩⟩)
      | (have hq : fHold nt np r a1 a2 = (-1000001, nt, np, r) := by
           unfold fHold
           rw [if_pos (by assumption)]
         exact ⟨_, _, rfl, rfl, by rw [hq]; exact ⟨r3.1, hR.bq r3.2⟩⟩)
      | (have hq : fHold nt np r a1 a2 = (-1000001, nt, np, r) := by
           unfold fHold
           rw [if_pos (by assumption)]
         exact ⟨_, _, rfl, rfl, by rw [hq]; exact ⟨r4.1, hR.bq r4.2⟩⟩)
      | (have hq : fHold nt np r a1 a2 = (-1000001, nt, np, r) := by
           unfold fHold
           rw [if_pos (by assumption)]
         exact ⟨_, _, rfl, rfl, by rw [hq]; exact ⟨r5.1, hR.bq r5.2⟩⟩)
      | (have hq : fHold nt np r a1 a2 = (-1000001, nt, np, r) := by
           unfold fHold
           rw [if_pos (by assumption)]
         exact ⟨_, _, rfl, rfl, by rw [hq]; exact ⟨r6.1, hR.bq r6.2⟩⟩)
      | (have hq : fHold nt np r a1 a2 = (-1000001, nt, np, r) := by
           unfold fHold
           rw [if_pos (by assumption)]
         exact ⟨_, _, rfl, rfl, by rw [hq]; exact ⟨r7.1, hR.bq r7.2⟩⟩)
      | (have hq : fHold nt np r a1 a2 = (-1000001, nt, np, r) := by
           unfold fHold
           rw [if_pos (by assumption)]
         exact ⟨_, _, rfl, rfl, by rw [hq]; exact ⟨r8.1, hR.bq r8.2⟩⟩)
      | (have hq : fHold nt np r (nI s) a2 = (-1000001, nt, np, r) := by
           unfold fHold
           rw [if_neg (by assumption), if_neg (by assumption), if_pos (by assumption)]
         exact ⟨_, _, rfl, rfl, by rw [hq]; exact ⟨r1.1, hR.bq r1.2⟩⟩)
      | (have hq : fHold nt np r (nI s) a2 = (-1000001, nt, np, r) := by
           unfold fHold
           rw [if_neg (by assumption), if_neg (by assumption), if_pos (by assumption)]
         exact ⟨_, _, rfl, rfl, by rw [hq]; exact ⟨r3.1, hR.bq r3.2⟩⟩)
      | (have hq : fHold nt np r (nI s) a2 = (-1000001, nt, np, r) := by
           unfold fHold
           rw [if_neg (by assumption), if_neg (by assumption), if_pos (by assumption)]
         exact ⟨_, _, rfl, rfl, by rw [hq]; exact ⟨r4.1, hR.bq r4.2⟩⟩)
      | (have hq : fHold nt np r (nI s) a2 = (-1000001, nt, np, r) := by
           unfold fHold
           rw [if_neg (by assumption), if_neg (by assumption), if_pos (by assumption)]
         exact ⟨_, _, rfl, rfl, by rw [hq]; exact ⟨r5.1, hR.bq r5.2⟩⟩)
      | (have hq : fHold nt np r (nI s) a2 = (-1000001, nt, np, r) := by
           unfold fHold
           rw [if_neg (by assumption), if_neg (by assumption), if_pos (by assumption)]
         exact ⟨_, _, rfl, rfl, by rw [hq]; exact ⟨r6.1, hR.bq r6.2⟩⟩)
      | (have hq : fHold nt np r (nI s) a2 = (-1000001, nt, np, r) := by
           unfold fHold
           rw [if_neg (by assumption), if_neg (by assumption), if_pos (by assumption)]
         exact ⟨_, _, rfl, rfl, by rw [hq]; exact ⟨r7.1, hR.bq r7.2⟩⟩)
      | (have hq : fHold nt np r (nI s) a2 = (-1000001, nt, np, r) := by
           unfold fHold
           rw [if_neg (by assumption), if_neg (by assumption), if_pos (by assumption)]
         exact ⟨_, _, rfl, rfl, by rw [hq]; exact ⟨r8.1, hR.bq r8.2⟩⟩)
  · obtain ⟨s, hs, rfl⟩ := le_k (by omega) (bI_ne0 h1)
    refine x_iload_n hm rfl rfl ?_
    refine x_iconst hm rfl (v := (-1 : Int32)) (by decide) ?_
    refine x_icmp_eq hm rfl (t := 33) rfl (fun h3 => ?_) (fun h3 => ?_)
    · refine x_aload_n hm rfl rfl ?_
      refine x_getf hm rfl (gR rfl rfl) ?_
      refine x_getf hm rfl (gR rfl rfl) ?_
      refine x_iload_n hm rfl rfl ?_
      refine x_iload_n hm rfl rfl ?_
      refine x_iast hm rfl (sI rfl (by omega) (by decide)) ?_
      refine x_iconst hm rfl (v := nI 1) (by decide) ?_
      refine x_iret hm rfl rfl (by first | rfl | exact bI_nar | decide) ?_
      first
        | (have hq : fHold nt np r (nI s) a2 = (nI 1, nt, np, put1 r (4 + (nI s).toNatClampNeg) a2) := by
             unfold fHold
             rw [if_neg (by assumption), if_pos (by assumption)]
           exact ⟨_, _, rfl, rfl, by rw [hq]; exact ⟨rfl, (by rw [jI_nat (by omega)]; exact hR.ps (by omega) : Rel 1 nt np _ _).tm (mpn (by omega)) (fun a ha => mpo (by omega))⟩⟩)
        | (have hq : fHold nt np r (nI s) a2 = (nI 1, nt, np, put1 r (4 + (nI s).toNatClampNeg) a2) := by
             unfold fHold
             rw [if_neg (by assumption), if_neg (by assumption), if_neg (by assumption)]
           exact ⟨_, _, rfl, rfl, by rw [hq]; exact ⟨rfl, (by rw [jI_nat (by omega)]; exact hR.ps (by omega) : Rel 1 nt np _ _).tm (mpn (by omega)) (fun a ha => mpo (by omega))⟩⟩)
    · refine x_aload_n hm rfl rfl ?_
      refine x_getf hm rfl (gR rfl rfl) ?_
      refine x_iload_n hm rfl rfl ?_
      refine x_callV hm rfl rfl (t19 (by decide)) ?_
      rw [hR.2.1]
      refine x_if_ne hm rfl (t := 33) rfl (fun h4 => ?_) (fun h4 => ?_)
      · refine x_aload_n hm rfl rfl ?_
        refine x_getf hm rfl (gR rfl rfl) ?_
        refine x_getf hm rfl (gR rfl rfl) ?_
        refine x_iload_n hm rfl rfl ?_
        refine x_iload_n hm rfl rfl ?_
        refine x_iast hm rfl (sI rfl (by omega) (by decide)) ?_
        refine x_iconst hm rfl (v := nI 1) (by decide) ?_
        refine x_iret hm rfl rfl (by first | rfl | exact bI_nar | decide) ?_
        first
          | (have hq : fHold nt np r (nI s) a2 = (nI 1, nt, np, put1 r (4 + (nI s).toNatClampNeg) a2) := by
               unfold fHold
               rw [if_neg (by assumption), if_pos (by assumption)]
             exact ⟨_, _, rfl, rfl, by rw [hq]; exact ⟨rfl, (by rw [jI_nat (by omega)]; exact hR.ps (by omega) : Rel 1 nt np _ _).tm (mpn (by omega)) (fun a ha => mpo (by omega))⟩⟩)
          | (have hq : fHold nt np r (nI s) a2 = (nI 1, nt, np, put1 r (4 + (nI s).toNatClampNeg) a2) := by
               unfold fHold
               rw [if_neg (by assumption), if_neg (by assumption), if_neg (by assumption)]
             exact ⟨_, _, rfl, rfl, by rw [hq]; exact ⟨rfl, (by rw [jI_nat (by omega)]; exact hR.ps (by omega) : Rel 1 nt np _ _).tm (mpn (by omega)) (fun a ha => mpo (by omega))⟩⟩)
      · refine x_aload_n hm rfl rfl ?_
        refine x_ldcI hm rfl (v := (-1000001 : Int32)) (by decide +kernel) ?_
        refine x_cVi hm rfl rfl (t7 (by decide +kernel)) (fun v5 M5 r5 => ?_)
        refine x_iret hm rfl rfl (by first | rfl | exact bI_nar | decide) ?_
        first
          | (have hq : fHold nt np r a1 a2 = (-1000001, nt, np, r) := by
               unfold fHold
               rw [if_pos (by assumption)]
             exact ⟨_, _, rfl, rfl, by rw [hq]; exact ⟨r5.1, hR.bq r5.2⟩⟩)
          | (have hq : fHold nt np r (nI s) a2 = (-1000001, nt, np, r) := by
               unfold fHold
               rw [if_neg (by assumption), if_neg (by assumption), if_pos (by assumption)]
             exact ⟨_, _, rfl, rfl, by rw [hq]; exact ⟨r5.1, hR.bq r5.2⟩⟩)
          | (have hq : fHold nt np r a1 a2 = (-1000001, nt, np, r) := by
               unfold fHold
               rw [if_pos (by assumption)]
             exact ⟨_, _, rfl, rfl, by rw [hq]; exact ⟨r1.1, hR.bq r1.2⟩⟩)
          | (have hq : fHold nt np r a1 a2 = (-1000001, nt, np, r) := by
               unfold fHold
               rw [if_pos (by assumption)]
             exact ⟨_, _, rfl, rfl, by rw [hq]; exact ⟨r2.1, hR.bq r2.2⟩⟩)
          | (have hq : fHold nt np r a1 a2 = (-1000001, nt, np, r) := by
               unfold fHold
               rw [if_pos (by assumption)]
             exact ⟨_, _, rfl, rfl, by rw [hq]; exact ⟨r3.1, hR.bq r3.2⟩⟩)
          | (have hq : fHold nt np r a1 a2 = (-1000001, nt, np, r) := by
               unfold fHold
               rw [if_pos (by assumption)]
             exact ⟨_, _, rfl, rfl, by rw [hq]; exact ⟨r4.1, hR.bq r4.2⟩⟩)
          | (have hq : fHold nt np r a1 a2 = (-1000001, nt, np, r) := by
               unfold fHold
               rw [if_pos (by assumption)]
             exact ⟨_, _, rfl, rfl, by rw [hq]; exact ⟨r6.1, hR.bq r6.2⟩⟩)
          | (have hq : fHold nt np r a1 a2 = (-1000001, nt, np, r) := by
               unfold fHold
               rw [if_pos (by assumption)]
             exact ⟨_, _, rfl, rfl, by rw [hq]; exact ⟨r7.1, hR.bq r7.2⟩⟩)
          | (have hq : fHold nt np r a1 a2 = (-1000001, nt, np, r) := by
               unfold fHold
               rw [if_pos (by assumption)]
             exact ⟨_, _, rfl, rfl, by rw [hq]; exact ⟨r8.1, hR.bq r8.2⟩⟩)
          | (have hq : fHold nt np r (nI s) a2 = (-1000001, nt, np, r) := by
               unfold fHold
               rw [if_neg (by assumption), if_neg (by assumption), if_pos (by assumption)]
             exact ⟨_, _, rfl, rfl, by rw [hq]; exact ⟨r1.1, hR.bq r1.2⟩⟩)
          | (have hq : fHold nt np r (nI s) a2 = (-1000001, nt, np, r) := by
               unfold fHold
               rw [if_neg (by assumption), if_neg (by assumption), if_pos (by assumption)]
             exact ⟨_, _, rfl, rfl, by rw [hq]; exact ⟨r2.1, hR.bq r2.2⟩⟩)
          | (have hq : fHold nt np r (nI s) a2 = (-1000001, nt, np, r) := by
               unfold fHold
               rw [if_neg (by assumption), if_neg (by assumption), if_pos (by assumption)]
             exact ⟨_, _, rfl, rfl, by rw [hq]; exact ⟨r3.1, hR.bq r3.2⟩⟩)
          | (have hq : fHold nt np r (nI s) a2 = (-1000001, nt, np, r) := by
               unfold fHold
               rw [if_neg (by assumption), if_neg (by assumption), if_pos (by assumption)]
             exact ⟨_, _, rfl, rfl, by rw [hq]; exact ⟨r4.1, hR.bq r4.2⟩⟩)
          | (have hq : fHold nt np r (nI s) a2 = (-1000001, nt, np, r) := by
               unfold fHold
               rw [if_neg (by assumption), if_neg (by assumption), if_pos (by assumption)]
             exact ⟨_, _, rfl, rfl, by rw [hq]; exact ⟨r6.1, hR.bq r6.2⟩⟩)
          | (have hq : fHold nt np r (nI s) a2 = (-1000001, nt, np, r) := by
               unfold fHold
               rw [if_neg (by assumption), if_neg (by assumption), if_pos (by assumption)]
             exact ⟨_, _, rfl, rfl, by rw [hq]; exact ⟨r7.1, hR.bq r7.2⟩⟩)
          | (have hq : fHold nt np r (nI s) a2 = (-1000001, nt, np, r) := by
               unfold fHold
               rw [if_neg (by assumption), if_neg (by assumption), if_pos (by assumption)]
             exact ⟨_, _, rfl, rfl, by rw [hq]; exact ⟨r8.1, hR.bq r8.2⟩⟩)
theorem g132 {a1 a2 : Int32} (h67 : M 67 = r) (hnt : M 67 1 = nI nt) (hn8 : nt ≤ 8) (hnp : M 67 2 = nI np) (hp8 : np ≤ 8) : ∃ v M', mT X 132 [.ref 66, .int a1, .int a2] (con M) (some (.int v)) (con M') ∧ Uq (fThing nt np r a1 a2) v M M' := by
  refine ti_of (row := _) rfl (Nat.le_of_ble_eq_true rfl) ?_
  have hm : mMet 132 = some _ := rfl
  refine x_iload_n hm rfl rfl ?_
  refine x_iconst hm rfl (v := nI 0) (by decide) ?_
  refine x_iconst hm rfl (v := nI 3) (by decide) ?_
  refine x_callS hm rfl rfl (t133) ?_
  refine x_if_eq hm rfl (t := 16) rfl (fun h1 => ?_) (fun h1 => ?_)
  · refine x_aload_n hm rfl rfl ?_
    refine x_ldcI hm rfl (v := (-1000001 : Int32)) (by decide +kernel) ?_
    refine x_callV hm rfl rfl (e135 (by decide +kernel)) ?_
    refine x_iret hm rfl rfl (by first | rfl | exact bI_nar | decide) ?_
    first
      | (have hq : fThing nt np r a1 a2 = (-1000001, nt, np, r) := by
           unfold fThing
           rw [if_pos (by assumption)]
         exact ⟨_, _, rfl, rfl, by rw [hq]; exact ⟨rfl, fnd_rm h67⟩⟩)
      | (have hq : fThing nt np r a1 a2 = (-1000001, nt, np, r) := by
           unfold fThing
           rw [if_neg (by assumption), if_pos (by assumption)]
         exact ⟨_, _, rfl, rfl, by rw [hq]; exact ⟨rfl, fnd_rm h67⟩⟩)
  · refine x_iload_n hm rfl rfl ?_
    refine x_callS hm rfl rfl (t134) ?_
    refine x_if_ne hm rfl (t := 23) rfl (fun h2 => ?_) (fun h2 => ?_)
    · refine x_aload_n hm rfl rfl ?_
      refine x_getf hm rfl (gR rfl rfl) ?_
      refine x_iconst hm rfl (v := nI 1) (by decide) ?_
      refine x_iald hm rfl (lI rfl (by omega) (by decide)) ?_
      rw [hnt]
      refine x_bipush hm rfl (v := nI 8) (by decide) ?_
      refine x_icmp_ne hm rfl (t := 43) rfl (fun h3 => ?_) (fun h3 => ?_)
      · have hne : ¬ nt = 8 := fun e => h3 (by rw [e])
        have hlt : nt < 8 := by omega
        refine x_aload_n hm rfl rfl ?_
        refine x_iload_n hm rfl rfl ?_
        refine x_iload_n hm rfl rfl ?_
        refine x_bipush hm rfl (v := nI 100) (by decide) ?_
        refine x_iconst hm rfl (v := nI 0) (by decide) ?_
        refine x_iconst hm rfl (v := (-1 : Int32)) (by decide) ?_
        refine x_iconst hm rfl (v := (-1 : Int32)) (by decide) ?_
        refine x_callV hm rfl rfl (t136 hnt hlt) ?_
        refine x_iret hm rfl rfl (by first | rfl | exact bI_nar | decide) ?_
        first
          | (have hq : fThing nt np r a1 a2 = (-1000002, nt, np, r) := by
               unfold fThing
               rw [if_neg (by assumption), if_neg (by assumption), if_pos (by assumption)]
             exact ⟨_, _, rfl, rfl, by rw [hq]; exact ⟨rfl, fnd_rm h67⟩⟩)
          | (have hq : fThing nt np r a1 a2 = (nI nt, nt + 1, np, addR r nt a1 a2 (nI 100) (nI 0) (-1) (-1)) := by
               unfold fThing
               rw [if_neg (by assumption), if_neg (by assumption), if_neg (by assumption)]
             exact ⟨_, _, rfl, rfl, by rw [hq]; exact ⟨rfl, by rw [← h67]; exact addT_67, fun a h _ _ _ => addT_o h⟩⟩)
      · have heq : nt = 8 := jI_inj (by omega) (by decide) h3
        refine x_aload_n hm rfl rfl ?_
        refine x_ldcI hm rfl (v := (-1000002 : Int32)) (by decide +kernel) ?_
        refine x_callV hm rfl rfl (e135 (by decide +kernel)) ?_
        refine x_goto hm rfl (t := 54) rfl ?_
        refine x_iret hm rfl rfl (by first | rfl | exact bI_nar | decide) ?_
        first
          | (have hq : fThing nt np r a1 a2 = (-1000002, nt, np, r) := by
               unfold fThing
               rw [if_neg (by assumption), if_neg (by assumption), if_pos (by assumption)]
             exact ⟨_, _, rfl, rfl, by rw [hq]; exact ⟨rfl, fnd_rm h67⟩⟩)
          | (have hq : fThing nt np r a1 a2 = (nI nt, nt + 1, np, addR r nt a1 a2 (nI 100) (nI 0) (-1) (-1)) := by
               unfold fThing
               rw [if_neg (by assumption), if_neg (by assumption), if_neg (by assumption)]
             exact ⟨_, _, rfl, rfl, by rw [hq]; exact ⟨rfl, by rw [← h67]; exact addT_67, fun a h _ _ _ => addT_o h⟩⟩)
    · refine x_aload_n hm rfl rfl ?_
      refine x_ldcI hm rfl (v := (-1000001 : Int32)) (by decide +kernel) ?_
      refine x_callV hm rfl rfl (e135 (by decide +kernel)) ?_
      refine x_iret hm rfl rfl (by first | rfl | exact bI_nar | decide) ?_
      first
        | (have hq : fThing nt np r a1 a2 = (-1000001, nt, np, r) := by
             unfold fThing
             rw [if_pos (by assumption)]
           exact ⟨_, _, rfl, rfl, by rw [hq]; exact ⟨rfl, fnd_rm h67⟩⟩)
        | (have hq : fThing nt np r a1 a2 = (-1000001, nt, np, r) := by
             unfold fThing
             rw [if_neg (by assumption), if_pos (by assumption)]
           exact ⟨_, _, rfl, rfl, by rw [hq]; exact ⟨rfl, fnd_rm h67⟩⟩)
theorem g156 {a1 a2 : Int32} (h67 : M 67 = r) (hnt : M 67 1 = nI nt) (hn8 : nt ≤ 8) (hnp : M 67 2 = nI np) (hp8 : np ≤ 8) : ∃ v M', mT X 156 [.ref 66, .int a1, .int a2] (con M) (some (.int v)) (con M') ∧ Uq (fPerson nt np r a1 a2) v M M' := by
  refine ti_of (row := _) rfl (Nat.le_of_ble_eq_true rfl) ?_
  have hm : mMet 156 = some _ := rfl
  refine x_iload_n hm rfl rfl ?_
  refine x_callS hm rfl rfl (t157) ?_
  refine x_if_eq hm rfl (t := 14) rfl (fun h1 => ?_) (fun h1 => ?_)
  · refine x_aload_n hm rfl rfl ?_
    refine x_ldcI hm rfl (v := (-1000001 : Int32)) (by decide +kernel) ?_
    refine x_callV hm rfl rfl (e135 (by decide +kernel)) ?_
    refine x_iret hm rfl rfl (by first | rfl | exact bI_nar | decide) ?_
    first
      | (have hq : fPerson nt np r a1 a2 = (-1000001, nt, np, r) := by
           unfold fPerson
           rw [if_pos (by assumption)]
         exact ⟨_, _, rfl, rfl, by rw [hq]; exact ⟨rfl, fnd_rm h67⟩⟩)
      | (have hq : fPerson nt np r a1 a2 = (-1000001, nt, np, r) := by
           unfold fPerson
           rw [if_neg (by assumption), if_pos (by assumption)]
         exact ⟨_, _, rfl, rfl, by rw [hq]; exact ⟨rfl, fnd_rm h67⟩⟩)
  · refine x_iload_n hm rfl rfl ?_
    refine x_callS hm rfl rfl (t134) ?_
    refine x_if_ne hm rfl (t := 21) rfl (fun h2 => ?_) (fun h2 => ?_)
    · refine x_aload_n hm rfl rfl ?_
      refine x_getf hm rfl (gR rfl rfl) ?_
      refine x_iconst hm rfl (v := nI 2) (by decide) ?_
      refine x_iald hm rfl (lI rfl (by omega) (by decide)) ?_
      rw [hnp]
      refine x_bipush hm rfl (v := nI 8) (by decide) ?_
      refine x_icmp_ne hm rfl (t := 41) rfl (fun h3 => ?_) (fun h3 => ?_)
      · have hne : ¬ np = 8 := fun e => h3 (by rw [e])
        have hlt : np < 8 := by omega
        refine x_aload_n hm rfl rfl ?_
        refine x_iload_n hm rfl rfl ?_
        refine x_iload_n hm rfl rfl ?_
        refine x_iconst hm rfl (v := nI 1) (by decide) ?_
        refine x_callV hm rfl rfl (u158 hnp hlt) ?_
        refine x_iret hm rfl rfl (by first | rfl | exact bI_nar | decide) ?_
        first
          | (have hq : fPerson nt np r a1 a2 = (-1000002, nt, np, r) := by
               unfold fPerson
               rw [if_neg (by assumption), if_neg (by assumption), if_pos (by assumption)]
             exact ⟨_, _, rfl, rfl, by rw [hq]; exact ⟨rfl, fnd_rm h67⟩⟩)
          | (have hq : fPerson nt np r a1 a2 = (nI np, nt, np + 1, joinR r np a1 a2 (nI 1) (nI 1) (nI 1) (nI 1) (nI 1)) := by
               unfold fPerson
               rw [if_neg (by assumption), if_neg (by assumption), if_neg (by assumption)]
             exact ⟨_, _, rfl, rfl, by rw [hq]; exact ⟨rfl, by rw [← h67]; exact joinT_67, fun a h _ _ _ => joinT_o h⟩⟩)
      · have heq : np = 8 := jI_inj (by omega) (by decide) h3
        refine x_aload_n hm rfl rfl ?_
        refine x_ldcI hm rfl (v := (-1000002 : Int32)) (by decide +kernel) ?_
        refine x_callV hm rfl rfl (e135 (by decide +kernel)) ?_
        refine x_goto hm rfl (t := 48) rfl ?_
        refine x_iret hm rfl rfl (by first | rfl | exact bI_nar | decide) ?_
        first
          | (have hq : fPerson nt np r a1 a2 = (-1000002, nt, np, r) := by
               unfold fPerson
               rw [if_neg (by assumption), if_neg (by assumption), if_pos (by assumption)]
             exact ⟨_, _, rfl, rfl, by rw [hq]; exact ⟨rfl, fnd_rm h67⟩⟩)
          | (have hq : fPerson nt np r a1 a2 = (nI np, nt, np + 1, joinR r np a1 a2 (nI 1) (nI 1) (nI 1) (nI 1) (nI 1)) := by
               unfold fPerson
               rw [if_neg (by assumption), if_neg (by assumption), if_neg (by assumption)]
             exact ⟨_, _, rfl, rfl, by rw [hq]; exact ⟨rfl, by rw [← h67]; exact joinT_67, fun a h _ _ _ => joinT_o h⟩⟩)
    · refine x_aload_n hm rfl rfl ?_
      refine x_ldcI hm rfl (v := (-1000001 : Int32)) (by decide +kernel) ?_
      refine x_callV hm rfl rfl (e135 (by decide +kernel)) ?_
      refine x_iret hm rfl rfl (by first | rfl | exact bI_nar | decide) ?_
      first
        | (have hq : fPerson nt np r a1 a2 = (-1000001, nt, np, r) := by
             unfold fPerson
             rw [if_pos (by assumption)]
           exact ⟨_, _, rfl, rfl, by rw [hq]; exact ⟨rfl, fnd_rm h67⟩⟩)
        | (have hq : fPerson nt np r a1 a2 = (-1000001, nt, np, r) := by
             unfold fPerson
             rw [if_neg (by assumption), if_pos (by assumption)]
           exact ⟨_, _, rfl, rfl, by rw [hq]; exact ⟨rfl, fnd_rm h67⟩⟩)
theorem g217 {a1 : Int32} (h67 : M 67 = r) (hnt : M 67 1 = nI nt) (hn8 : nt ≤ 8) (hnp : M 67 2 = nI np) (hp8 : np ≤ 8) : ∃ v M', mT X 217 [.ref 66, .int a1] (con M) (some (.int v)) (con M') ∧ Uq (fSeed nt np r a1) v M M' := by
  refine ti_of (row := _) rfl (Nat.le_of_ble_eq_true rfl) ?_
  have hm : mMet 217 = some _ := rfl
  refine x_aload_n hm rfl rfl ?_
  refine x_iconst hm rfl (v := nI 3) (by decide) ?_
  refine x_iload_n hm rfl rfl ?_
  refine x_callV hm rfl rfl (t155 (by omega)) ?_
  refine x_iret hm rfl rfl (by first | rfl | exact bI_nar | decide) ?_
  exact ⟨_, _, rfl, rfl, congrFun h67 3, by rw [← h67]; exact mput67, fun a h _ _ _ => mpo h⟩
theorem g231 {a1 a2 : Int32} (h67 : M 67 = r) (hnt : M 67 1 = nI nt) (hn8 : nt ≤ 8) (hnp : M 67 2 = nI np) (hp8 : np ≤ 8) : ∃ v M', mT X 231 [.ref 66, .int a1, .int a2] (con M) (some (.int v)) (con M') ∧ Uq (fHold nt np r a1 a2) v M M' := by
  refine ti_of (row := _) rfl (Nat.le_of_ble_eq_true rfl) ?_
  have hm : mMet 231 = some _ := rfl
  refine x_iload_n hm rfl rfl ?_
  refine x_callS hm rfl rfl (t232) ?_
  refine x_if_eq hm rfl (t := 20) rfl (fun h1 => ?_) (fun h1 => ?_)
  · refine x_aload_n hm rfl rfl ?_
    refine x_ldcI hm rfl (v := (-1000001 : Int32)) (by decide +kernel) ?_
    refine x_callV hm rfl rfl (e135 (by decide +kernel)) ?_
    refine x_iret hm rfl rfl (by first | rfl | exact bI_nar | decide) ?_
    first
      | (have hq : fHold nt np r a1 a2 = (-1000001, nt, np, r) := by
           unfold fHold
           rw [if_pos (by assumption)]
         exact ⟨_, _, rfl, rfl, by rw [hq]; exact ⟨rfl, fnd_rm h67⟩⟩)
      | (have hq : fHold nt np r (nI s) a2 = (-1000001, nt, np, r) := by
           unfold fHold
           rw [if_neg (by assumption), if_neg (by assumption), if_pos (by assumption)]
         exact ⟨_, _, rfl, rfl, by rw [hq]; exact ⟨rfl, fnd_rm h67⟩⟩)
  · obtain ⟨s, hs, rfl⟩ := le_k (by omega) (bI_ne0 h1)
    refine x_iload_n hm rfl rfl ?_
    refine x_iconst hm rfl (v := (-1 : Int32)) (by decide) ?_
    refine x_icmp_eq hm rfl (t := 27) rfl (fun h2 => ?_) (fun h2 => ?_)
    · refine x_aload_n hm rfl rfl ?_
      refine x_getf hm rfl (gR rfl rfl) ?_
      refine x_iconst hm rfl (v := nI 4) (by decide) ?_
      refine x_iload_n hm rfl rfl ?_
      refine x_iadd hm rfl ?_
      rw [jI_add]
      refine x_iload_n hm rfl rfl ?_
      refine x_iast hm rfl (sI rfl (by omega) (by decide)) ?_
      refine x_iconst hm rfl (v := nI 1) (by decide) ?_
      refine x_iret hm rfl rfl (by first | rfl | exact bI_nar | decide) ?_
      first
        | (have hq : fHold nt np r (nI s) a2 = (nI 1, nt, np, put1 r (4 + (nI s).toNatClampNeg) a2) := by
             unfold fHold
             rw [if_neg (by assumption), if_pos (by assumption)]
           exact ⟨_, _, rfl, rfl, by rw [hq]; exact ⟨rfl, by rw [jI_nat (by omega), ← h67]; exact mput67, fun a h _ _ _ => mpo h⟩⟩)
        | (have hq : fHold nt np r (nI s) a2 = (nI 1, nt, np, put1 r (4 + (nI s).toNatClampNeg) a2) := by
             unfold fHold
             rw [if_neg (by assumption), if_neg (by assumption), if_neg (by assumption)]
           exact ⟨_, _, rfl, rfl, by rw [hq]; exact ⟨rfl, by rw [jI_nat (by omega), ← h67]; exact mput67, fun a h _ _ _ => mpo h⟩⟩)
    · refine x_aload_n hm rfl rfl ?_
      refine x_iload_n hm rfl rfl ?_
      refine x_callV hm rfl rfl (t153) ?_
      rw [hnp]
      refine x_if_ne hm rfl (t := 27) rfl (fun h3 => ?_) (fun h3 => ?_)
      · refine x_aload_n hm rfl rfl ?_
        refine x_getf hm rfl (gR rfl rfl) ?_
        refine x_iconst hm rfl (v := nI 4) (by decide) ?_
        refine x_iload_n hm rfl rfl ?_
        refine x_iadd hm rfl ?_
        rw [jI_add]
        refine x_iload_n hm rfl rfl ?_
        refine x_iast hm rfl (sI rfl (by omega) (by decide)) ?_
        refine x_iconst hm rfl (v := nI 1) (by decide) ?_
        refine x_iret hm rfl rfl (by first | rfl | exact bI_nar | decide) ?_
        first
          | (have hq : fHold nt np r (nI s) a2 = (nI 1, nt, np, put1 r (4 + (nI s).toNatClampNeg) a2) := by
               unfold fHold
               rw [if_neg (by assumption), if_pos (by assumption)]
             exact ⟨_, _, rfl, rfl, by rw [hq]; exact ⟨rfl, by rw [jI_nat (by omega), ← h67]; exact mput67, fun a h _ _ _ => mpo h⟩⟩)
          | (have hq : fHold nt np r (nI s) a2 = (nI 1, nt, np, put1 r (4 + (nI s).toNatClampNeg) a2) := by
               unfold fHold
               rw [if_neg (by assumption), if_neg (by assumption), if_neg (by assumption)]
             exact ⟨_, _, rfl, rfl, by rw [hq]; exact ⟨rfl, by rw [jI_nat (by omega), ← h67]; exact mput67, fun a h _ _ _ => mpo h⟩⟩)
      · refine x_aload_n hm rfl rfl ?_
        refine x_ldcI hm rfl (v := (-1000001 : Int32)) (by decide +kernel) ?_
        refine x_callV hm rfl rfl (e135 (by decide +kernel)) ?_
        refine x_iret hm rfl rfl (by first | rfl | exact bI_nar | decide) ?_
        first
          | (have hq : fHold nt np r a1 a2 = (-1000001, nt, np, r) := by
               unfold fHold
               rw [if_pos (by assumption)]
             exact ⟨_, _, rfl, rfl, by rw [hq]; exact ⟨rfl, fnd_rm h67⟩⟩)
          | (have hq : fHold nt np r (nI s) a2 = (-1000001, nt, np, r) := by
               unfold fHold
               rw [if_neg (by assumption), if_neg (by assumption), if_pos (by assumption)]
             exact ⟨_, _, rfl, rfl, by rw [hq]; exact ⟨rfl, fnd_rm h67⟩⟩)
end EJ
end
section
/-! ===== rows stay good; both sides together ===== -/
def Gd (nt np : Nat) (r : Nat → Int32) : Prop := r 1 = nI nt ∧ r 2 = nI np ∧ Vs nt np r ∧ Vr nt np r
section GD
variable {nt np : Nat} {r : Nat → Int32}
theorem addR_o {n j : Nat} {s p th pa ow on : Int32} (h1 : ¬ j = 1) (h2 : j < 14 + 6 * n ∨ 14 + 6 * n + 5 < j) : addR r n s p th pa ow on j = r j := by
  unfold addR
  rw [put1_o (by omega), put1_o (by omega), put1_o (by omega), put1_o (by omega), put1_o (by omega), put1_o (by omega), put1_o (by omega)]
theorem addR_at {n : Nat} {s p th pa ow on : Int32} : addR r n s p th pa ow on (14 + 6 * n + 0) = s ∧ addR r n s p th pa ow on (14 + 6 * n + 1) = p ∧ addR r n s p th pa ow on (14 + 6 * n + 2) = th ∧ addR r n s p th pa ow on (14 + 6 * n + 3) = pa ∧ addR r n s p th pa ow on (14 + 6 * n + 4) = ow ∧ addR r n s p th pa ow on (14 + 6 * n + 5) = on ∧ addR r n s p th pa ow on 1 = nI (n + 1) := by
  unfold addR
  refine ⟨?_, ?_, ?_, ?_, ?_, ?_, put1_s⟩
  · rw [put1_o (by omega), put1_o (by omega), put1_o (by omega), put1_o (by omega), put1_o (by omega), put1_o (by omega), put1_s]
  · rw [put1_o (by omega), put1_o (by omega), put1_o (by omega), put1_o (by omega), put1_o (by omega), put1_s]
  · rw [put1_o (by omega), put1_o (by omega), put1_o (by omega), put1_o (by omega), put1_s]
  · rw [put1_o (by omega), put1_o (by omega), put1_o (by omega), put1_s]
  · rw [put1_o (by omega), put1_o (by omega), put1_s]
  · rw [put1_o (by omega), put1_s]
theorem joinR_o {n j : Nat} {k p w l0 l1 l2 l3 : Int32} (h1 : ¬ j = 2) (h2 : j < 62 + 7 * n ∨ 62 + 7 * n + 6 < j) : joinR r n k p w l0 l1 l2 l3 j = r j := by
  unfold joinR
  rw [put1_o (by omega), put1_o (by omega), put1_o (by omega), put1_o (by omega), put1_o (by omega), put1_o (by omega), put1_o (by omega), put1_o (by omega)]
theorem joinR_at {n : Nat} {k p w l0 l1 l2 l3 : Int32} : joinR r n k p w l0 l1 l2 l3 (62 + 7 * n + 0) = k ∧ joinR r n k p w l0 l1 l2 l3 (62 + 7 * n + 1) = p ∧ joinR r n k p w l0 l1 l2 l3 (62 + 7 * n + 2) = w ∧ joinR r n k p w l0 l1 l2 l3 (62 + 7 * n + (3 + 0)) = l0 ∧ joinR r n k p w l0 l1 l2 l3 (62 + 7 * n + (3 + 1)) = l1 ∧ joinR r n k p w l0 l1 l2 l3 (62 + 7 * n + (3 + 2)) = l2 ∧ joinR r n k p w l0 l1 l2 l3 (62 + 7 * n + (3 + 3)) = l3 ∧ joinR r n k p w l0 l1 l2 l3 2 = nI (n + 1) := by
  unfold joinR
  refine ⟨?_, ?_, ?_, ?_, ?_, ?_, ?_, put1_s⟩
  · rw [put1_o (by omega), put1_o (by omega), put1_o (by omega), put1_o (by omega), put1_o (by omega), put1_o (by omega), put1_o (by omega), put1_s]
  · rw [put1_o (by omega), put1_o (by omega), put1_o (by omega), put1_o (by omega), put1_o (by omega), put1_o (by omega), put1_s]
  · rw [put1_o (by omega), put1_o (by omega), put1_o (by omega), put1_o (by omega), put1_o (by omega), put1_s]
  · rw [put1_o (by omega), put1_o (by omega), put1_o (by omega), put1_o (by omega), put1_s]
  · rw [put1_o (by omega), put1_o (by omega), put1_o (by omega), put1_s]
  · rw [put1_o (by omega), put1_o (by omega), put1_s]
  · rw [put1_o (by omega), put1_s]
def Le (n : Nat) (v : Int32) : Prop := ∃ k, k ≤ n ∧ v = nI k
def Lo (n : Nat) (v : Int32) : Prop := v = -1 ∨ ∃ k, k < n ∧ v = nI k
theorem Lo.up {n m : Nat} {v : Int32} (h : Lo n v) (hm : n ≤ m) : Lo m v := h.imp id fun ⟨k, a, b⟩ => ⟨k, by omega, b⟩
theorem Gd.add {s p th pa ow on : Int32} (h : Gd nt np r) (h8 : nt < 8) (hs : Le 3 s) (hp : Le 15 p) (hth : Le 999 th) (hpa : Le 9 pa) (how : Lo np ow) (hon : Lo nt on) : Gd (nt + 1) np (addR r nt s p th pa ow on) := by
  obtain ⟨h1, h2, ⟨v1, v2, v3, v4⟩, ⟨w1, w2, w3, w4⟩⟩ := h
  obtain ⟨a0, a1, a2, a3, a4, a5, a6⟩ := addR_at (r := r) (n := nt) (s := s) (p := p) (th := th) (pa := pa) (ow := ow) (on := on)
  refine ⟨a6, (addR_o (by decide) (by omega)).trans h2, ⟨by omega, v2, fun t ht => ?_, fun q hq => ?_⟩, ⟨?_, fun z hz => ?_, fun t ht => ?_, fun q hq => ?_⟩⟩
  · by_cases e : t = nt
    · subst e
      exact ⟨by rw [a0]; exact hs, by rw [a4]; exact how, by rw [a5]; exact hon.up (by omega)⟩
    · obtain ⟨g1, g2, g3⟩ := v3 t (by omega)
      refine ⟨by rw [addR_o (by omega) (by omega)]; exact g1, by rw [addR_o (by omega) (by omega)]; exact g2, by rw [addR_o (by omega) (by omega)]; exact Lo.up g3 (by omega)⟩
  · rw [addR_o (by omega) (by omega)]
    exact v4 q hq
  · rw [addR_o (by omega) (by omega)]
    exact w1
  · rw [addR_o (by omega) (by omega)]
    exact w2 z hz
  · by_cases e : t = nt
    · subst e
      exact ⟨by rw [a1]; exact hp, by rw [a2]; exact hth, by rw [a3]; exact hpa⟩
    · obtain ⟨g1, g2, g3⟩ := w3 t (by omega)
      exact ⟨by rw [addR_o (by omega) (by omega)]; exact g1, by rw [addR_o (by omega) (by omega)]; exact g2, by rw [addR_o (by omega) (by omega)]; exact g3⟩
  · obtain ⟨g1, g2, g3⟩ := w4 q hq
    exact ⟨by rw [addR_o (by omega) (by omega)]; exact g1, by rw [addR_o (by omega) (by omega)]; exact g2, fun z hz => by rw [addR_o (by omega) (by omega)]; exact g3 z hz⟩
theorem Gd.join {k p w l0 l1 l2 l3 : Int32} (h : Gd nt np r) (h8 : np < 8) (hk : Le 6 k) (hp : Le 15 p) (hw : Le 15 w) (g0 : Le 9 l0) (g1 : Le 9 l1) (g2 : Le 9 l2) (g3 : Le 9 l3) : Gd nt (np + 1) (joinR r np k p w l0 l1 l2 l3) := by
  obtain ⟨h1, h2, ⟨v1, v2, v3, v4⟩, ⟨w1, w2, w3, w4⟩⟩ := h
  obtain ⟨a0, a1, a2, a3, a4, a5, a6, a7⟩ := joinR_at (r := r) (n := np) (k := k) (p := p) (w := w) (l0 := l0) (l1 := l1) (l2 := l2) (l3 := l3)
  refine ⟨(joinR_o (by decide) (by omega)).trans h1, a7, ⟨v1, by omega, fun t ht => ?_, fun q hq => ?_⟩, ⟨?_, fun z hz => ?_, fun t ht => ?_, fun q hq => ?_⟩⟩
  · obtain ⟨g1, g2, g3⟩ := v3 t (by omega)
    exact ⟨by rw [joinR_o (by omega) (by omega)]; exact g1, by rw [joinR_o (by omega) (by omega)]; exact Lo.up g2 (by omega), by rw [joinR_o (by omega) (by omega)]; exact g3⟩
  · by_cases e : q = np
    · subst e
      rw [a0]
      exact hk
    · rw [joinR_o (by omega) (by omega)]
      exact v4 q (by omega)
  · rw [joinR_o (by omega) (by omega)]
    exact w1
  · rw [joinR_o (by omega) (by omega)]
    exact Lo.up (w2 z hz) (by omega)
  · obtain ⟨g1, g2, g3⟩ := w3 t (by omega)
    exact ⟨by rw [joinR_o (by omega) (by omega)]; exact g1, by rw [joinR_o (by omega) (by omega)]; exact g2, by rw [joinR_o (by omega) (by omega)]; exact g3⟩
  · by_cases e : q = np
    · subst e
      refine ⟨by rw [a1]; exact hp, by rw [a2]; exact hw, fun z hz => ?_⟩
      rcases (by omega : z = 0 ∨ z = 1 ∨ z = 2 ∨ z = 3) with rfl | rfl | rfl | rfl
      · rw [a3]; exact g0
      · rw [a4]; exact g1
      · rw [a5]; exact g2
      · rw [a6]; exact g3
    · obtain ⟨g1, g2, g3⟩ := w4 q (by omega)
      exact ⟨by rw [joinR_o (by omega) (by omega)]; exact g1, by rw [joinR_o (by omega) (by omega)]; exact g2, fun z hz => by rw [joinR_o (by omega) (by omega)]; exact g3 z hz⟩
theorem Gd.z {v : Int32} (h : Gd nt np r) : Gd nt np (put1 r 3 v) := by
  obtain ⟨h1, h2, ⟨v1, v2, v3, v4⟩, ⟨w1, w2, w3, w4⟩⟩ := h
  refine ⟨(put1_o (by decide)).trans h1, (put1_o (by decide)).trans h2, ⟨v1, v2, fun t ht => ?_, fun q hq => ?_⟩, ⟨?_, fun z hz => ?_, fun t ht => ?_, fun q hq => ?_⟩⟩
  · rw [put1_o (by omega), put1_o (by omega), put1_o (by omega)]; exact v3 t ht
  · rw [put1_o (by omega)]; exact v4 q hq
  · rw [put1_o (by omega)]; exact w1
  · rw [put1_o (by omega)]; exact w2 z hz
  · rw [put1_o (by omega), put1_o (by omega), put1_o (by omega)]; exact w3 t ht
  · obtain ⟨g1, g2, g3⟩ := w4 q hq
    rw [put1_o (by omega), put1_o (by omega)]
    exact ⟨g1, g2, fun z hz => by rw [put1_o (by omega)]; exact g3 z hz⟩
theorem Gd.s {s : Nat} {v : Int32} (h : Gd nt np r) (hs : s < 10) (hv : Lo np v) : Gd nt np (put1 r (4 + s) v) := by
  obtain ⟨h1, h2, ⟨v1, v2, v3, v4⟩, ⟨w1, w2, w3, w4⟩⟩ := h
  refine ⟨(put1_o (by omega)).trans h1, (put1_o (by omega)).trans h2, ⟨v1, v2, fun t ht => ?_, fun q hq => ?_⟩, ⟨?_, fun z hz => ?_, fun t ht => ?_, fun q hq => ?_⟩⟩
  · rw [put1_o (by omega), put1_o (by omega), put1_o (by omega)]; exact v3 t ht
  · rw [put1_o (by omega)]; exact v4 q hq
  · rw [put1_o (by omega)]; exact w1
  · by_cases e : z = s
    · subst e
      rw [put1_s]; exact hv
    · rw [put1_o (by omega)]; exact w2 z hz
  · rw [put1_o (by omega), put1_o (by omega), put1_o (by omega)]; exact w3 t ht
  · obtain ⟨g1, g2, g3⟩ := w4 q hq
    rw [put1_o (by omega), put1_o (by omega)]
    exact ⟨g1, g2, fun z hz => by rw [put1_o (by omega)]; exact g3 z hz⟩
theorem Gd.thing {a1 a2 : Int32} (h : Gd nt np r) : Gd (fThing nt np r a1 a2).2.1 (fThing nt np r a1 a2).2.2.1 (fThing nt np r a1 a2).2.2.2 := by
  unfold fThing
  split
  · exact h
  · rename_i h1
    split
    · exact h
    · rename_i h2
      split
      · exact h
      · rename_i h3
        exact h.add (Nat.lt_of_le_of_ne h.2.2.1.1 h3) (le_k (by decide) (bI_ne0 h1)) (le_k (by decide) (bI_ne0 h2)) ⟨100, by decide, rfl⟩ ⟨0, by decide, rfl⟩ (Or.inl rfl) (Or.inl rfl)
theorem Gd.person {a1 a2 : Int32} (h : Gd nt np r) : Gd (fPerson nt np r a1 a2).2.1 (fPerson nt np r a1 a2).2.2.1 (fPerson nt np r a1 a2).2.2.2 := by
  unfold fPerson
  have h1' : Le 9 (nI 1) := ⟨1, by decide, rfl⟩
  split
  · exact h
  · rename_i h1
    split
    · exact h
    · rename_i h2
      split
      · exact h
      · rename_i h3
        exact h.join (Nat.lt_of_le_of_ne h.2.2.1.2.1 h3) (le_k (by decide) (bI_ne0 h1)) (le_k (by decide) (bI_ne0 h2)) ⟨1, by decide, rfl⟩ h1' h1' h1' h1'
theorem Gd.seed {a1 : Int32} (h : Gd nt np r) : Gd (fSeed nt np r a1).2.1 (fSeed nt np r a1).2.2.1 (fSeed nt np r a1).2.2.2 := h.z
theorem Gd.hold {a1 a2 : Int32} (h : Gd nt np r) : Gd (fHold nt np r a1 a2).2.1 (fHold nt np r a1 a2).2.2.1 (fHold nt np r a1 a2).2.2.2 := by
  unfold fHold
  split
  · exact h
  · rename_i h1
    obtain ⟨k, hk, rfl⟩ := le_k (by decide) (bI_ne0 h1)
    rw [jI_nat (by omega)]
    split
    · rename_i h2
      exact h.s (by omega) (Or.inl h2)
    · split
      · exact h
      · rename_i h3
        have hp := h.2.2.1.2.1
        exact h.s (by omega) (Or.inr (in_k rfl (by omega) (bI_ne0 h3)))
end GD
section JO
variable {X : mSc} {M : mM}
theorem Rel.fr {b nt np : Nat} {N : mM} {r : Nat → Int32} (h : Rel b nt np M r) (hb : ∀ c, b ≤ c → c ≤ b + 16 → N c = M c) : Rel b nt np N r := by
  have hB := hb b (Nat.le_refl _) (by omega)
  obtain ⟨g1, g2, g3, g4, g5, g6, g7⟩ := h
  exact ⟨by rw [hB]; exact g1, by rw [hB]; exact g2, by rw [hB]; exact g3, by rw [hB]; exact g4, fun s hs => by rw [hb _ (by omega) (by omega)]; exact g5 s hs, fun f t hf ht => by rw [hb _ (by omega) (by omega)]; exact g6 f t hf ht, fun f p hf hp => by rw [hb _ (by omega) (by omega)]; exact g7 f p hf hp⟩
theorem Tq.cn {q : Sq4} {v : Int32} {N : mM} (hM : cnm M = M) (h : Tq q v M N) : Tq q v M (cnm N) := ⟨h.1, h.2.1.cn (Or.inl rfl), h.2.2.1, fun a ha => cn_fr hM (h.2.2.2 a ha)⟩
theorem Uq.cn {q : Sq4} {v : Int32} {N : mM} (hM : cnm M = M) (h : Uq q v M N) : Uq q v M (cnm N) := ⟨h.1, h.2.1, fun a h1 h2 h3 h4 => cn_fr hM (h.2.2 a h1 h2 h3 h4)⟩
theorem J.town {M1 M2 : mM} {nt np : Nat} {r : Nat → Int32} (h : J M) (c : Ck M M1) (t : Tm nt np r M M1) (i : Inv M2) (n : cnm M2 = M2) (u : Rm r M1 M2) (g : Gd nt np r) : J M2 := by
  obtain ⟨h1, h2, ⟨nt0, np0, -, -, -, -, -, hc⟩, h4, h5, h6, h7⟩ := h
  obtain ⟨t1, t2, t3⟩ := t
  have k : ∀ a, 66 ≤ a → a ≠ 67 → a ≠ 69 → a ≠ 70 → a ≠ 71 → M2 a = M a := fun a ha b1 b2 b3 b4 => (u.2 a b1 b2 b3 b4).trans (c.2 a ha)
  have l : ∀ a, (a < 1 ∨ (17 < a ∧ a < 35) ∨ (51 < a ∧ a < 66 ∧ a ≠ 55 ∧ a ≠ 56 ∧ a ≠ 57)) → M2 a = M a := fun a ha => (u.2 a (by omega) (by omega) (by omega) (by omega)).trans (t3 a (by omega))
  have e66 := k 66 (by decide) (by decide) (by decide) (by decide) (by decide)
  refine ⟨i, n, ⟨nt, np, ?_, by rw [u.1]; exact g.1, by rw [u.1]; exact g.2.1, by rw [u.1]; exact g.2.2.1, by rw [u.1]; exact g.2.2.2, ?_⟩, h4.of (by rw [l 0 (by omega)]) (by rw [e66]) (fun x _ _ => l x (by omega)) (k 68 (by decide) (by decide) (by decide) (by decide) (by decide)),
    h5.of (by rw [l 52 (by omega)]) (by rw [e66]) (k 73 (by decide) (by decide) (by decide) (by decide) (by decide)) (l 53 (by omega)), h6.of (fun x _ _ => l x (by omega)) (k 76 (by decide) (by decide) (by decide) (by decide) (by decide)) (k 77 (by decide) (by decide) (by decide) (by decide) (by decide)) (k 78 (by decide) (by decide) (by decide) (by decide) (by decide)), by rw [e66]; exact h7⟩
  · rw [u.1]
    exact t1.fr fun x _ _ => u.2 x (by omega) (by omega) (by omega) (by omega)
  · rw [u.2 1 (by decide) (by decide) (by decide) (by decide), t2]
    exact hc
theorem J.join {q : Sq4} {cmd rmd : Nat} {as bs : List Value} (hJ : J M) (hc : ∃ v M1, mT X cmd as (con M) (some (.int v)) (con M1) ∧ Ck M M1) (he : ∃ v M1, mT X cmd as (con M) (some (.int v)) (con M1) ∧ Tq q v M M1)
    (hr : ∀ M1, Inv M1 → ∃ v M', mT X rmd bs (con M1) (some (.int v)) (con M') ∧ Inv M') (hu : ∀ M1, Inv M1 → (∀ a, 66 ≤ a → M1 a = M a) → ∃ v M', mT X rmd bs (con M1) (some (.int v)) (con M') ∧ Uq q v M1 M') (hg : Gd q.2.1 q.2.2.1 q.2.2.2) :
    ∃ v M1 w M2, mT X cmd as (con M) (some (.int v)) (con M1) ∧ mT X rmd bs (con M1) (some (.int w)) (con M2) ∧ J M2 ∧ v = w := by
  obtain ⟨v, M1, a1, a2, a3, a4⟩ := mT.both hc he (fun _ _ h => h.cn hJ.2.1) (fun _ _ h => h.cn hJ.2.1)
  have i1 := a3.inv hJ.1
  obtain ⟨w, M2, b1, b2, b3, b4⟩ := mT.both (hr M1 i1) (hu M1 i1 a3.2) (fun _ _ h => h.cn) (fun _ _ h => h.cn a2)
  exact ⟨v, M1, w, M2, a1, b1, hJ.town a3 a4.2 b3 b2 b4.2 hg, a4.1.trans b4.1.symm⟩
/-- both sides of a call, and where they leave the world -/
def JJ (X : mSc) (cmd rmd : Nat) (as bs : List Value) (M : mM) (P : Int32 → Int32 → Prop) : Prop := ∃ v M1 w M2, mT X cmd as (con M) (some (.int v)) (con M1) ∧ mT X rmd bs (con M1) (some (.int w)) (con M2) ∧ J M2 ∧ P v w
theorem j_thing {a1 a2 : Int32} (hJ : J M) : JJ X 5 132 [.ref 0, .int a1, .int a2] [.ref 66, .int a1, .int a2] M Eq := by
  obtain ⟨nt, np, hR, h1, h2, hV, hr, -⟩ := hJ.2.2.1
  exact J.join hJ (t5 hJ.1.1) (g5 hR hV.1 hV.2.1) (fun M1 i => t132 i) (fun M1 _ k => g132 (k 67 (by decide)) (by rw [k 67 (by decide)]; exact h1) hV.1 (by rw [k 67 (by decide)]; exact h2) hV.2.1) (Gd.thing ⟨h1, h2, hV, hr⟩)
theorem j_person {a1 a2 : Int32} (hJ : J M) : JJ X 22 156 [.ref 0, .int a1, .int a2] [.ref 66, .int a1, .int a2] M Eq := by
  obtain ⟨nt, np, hR, h1, h2, hV, hr, -⟩ := hJ.2.2.1
  exact J.join hJ (t22 hJ.1.1) (g22 hR hV.1 hV.2.1) (fun M1 i => t156 i) (fun M1 _ k => g156 (k 67 (by decide)) (by rw [k 67 (by decide)]; exact h1) hV.1 (by rw [k 67 (by decide)]; exact h2) hV.2.1) (Gd.person ⟨h1, h2, hV, hr⟩)
theorem j_seed {a1 : Int32} (hJ : J M) : JJ X 86 217 [.ref 0, .int a1] [.ref 66, .int a1] M Eq := by
  obtain ⟨nt, np, hR, h1, h2, hV, hr, -⟩ := hJ.2.2.1
  exact J.join hJ (t86 hJ.1.1) (g86 hR hV.1 hV.2.1) (fun M1 i => t217 i) (fun M1 _ k => g217 (k 67 (by decide)) (by rw [k 67 (by decide)]; exact h1) hV.1 (by rw [k 67 (by decide)]; exact h2) hV.2.1) (Gd.seed ⟨h1, h2, hV, hr⟩)
theorem j_hold {a1 a2 : Int32} (hJ : J M) : JJ X 114 231 [.ref 0, .int a1, .int a2] [.ref 66, .int a1, .int a2] M Eq := by
  obtain ⟨nt, np, hR, h1, h2, hV, hr, -⟩ := hJ.2.2.1
  exact J.join hJ (t114 hJ.1.1) (g114 hR hV.1 hV.2.1) (fun M1 i => t231 i) (fun M1 _ k => g231 (k 67 (by decide)) (by rw [k 67 (by decide)]; exact h1) hV.1 (by rw [k 67 (by decide)]; exact h2) hV.2.1) (Gd.hold ⟨h1, h2, hV, hr⟩)
/-- what only asks -/
theorem J.ask {cmd rmd : Nat} {as bs : List Value} (hJ : J M) (hc : ∃ v M1, mT X cmd as (con M) (some (.int v)) (con M1) ∧ Cq M M1) (hr : ∀ M1, J M1 → ∃ v M', mT X rmd bs (con M1) (some (.int v)) (con M') ∧ Rq M1 M') : JJ X cmd rmd as bs M (fun _ _ => True) := by
  obtain ⟨v, M1, a1, a2, a3⟩ := mT.one hc (fun _ _ h => h.cn hJ.2.1)
  have j1 := hJ.qc a2 a3
  obtain ⟨w, M2, b1, b2, b3⟩ := mT.one (hr M1 j1) (fun _ _ h => h.cn a2)
  exact ⟨v, M1, w, M2, a1, b1, j1.qr b2 b3, trivial⟩
/-- what only asks, with both answers known -/
theorem J.asv {cmd rmd : Nat} {as bs : List Value} {F G : Int32} (hJ : J M) (hc : ∃ v M1, mT X cmd as (con M) (some (.int v)) (con M1) ∧ Cq M M1) (he : ∃ v M1, mT X cmd as (con M) (some (.int v)) (con M1) ∧ v = F) (hr : ∀ M1, J M1 → ∃ v M', mT X rmd bs (con M1) (some (.int v)) (con M') ∧ Rq M1 M')
    (hu : ∀ M1, J M1 → (∀ a, 66 ≤ a → M1 a = M a) → ∃ v M', mT X rmd bs (con M1) (some (.int v)) (con M') ∧ v = G) (hFG : F = G) : JJ X cmd rmd as bs M Eq := by
  obtain ⟨v, M1, a1, a2, a3, a4⟩ := mT.both hc he (fun _ _ h => h.cn hJ.2.1) (fun _ _ h => h)
  have j1 := hJ.qc a2 a3
  obtain ⟨w, M2, b1, b2, b3, b4⟩ := mT.both (hr M1 j1) (hu M1 j1 (fun a ha => a3.2 a (Or.inl ha))) (fun _ _ h => h.cn a2) (fun _ _ h => h)
  exact ⟨v, M1, w, M2, a1, b1, j1.qr b2 b3, a4.trans (hFG.trans b4.symm)⟩
end JO
end
section
/-! ===== images: a town becomes another, exactly ===== -/
section IM
variable {X : mSc} {Q : Option Value → mHp → Prop} {M : mM} {b o nt np : Nat} {r : Nat → Int32}
theorem acp_row {i0 i1 c y : Nat} (h : y < c) : acp M i0 i1 0 0 c i1 y = M i0 y := by
  show (if i1 = i1 then va_cpy (M i0) (M i1) 0 0 c y else M i1 y) = _
  rw [if_pos rfl]
  unfold va_cpy
  rw [if_pos ⟨Nat.zero_le _, by omega⟩, Nat.sub_zero, Nat.zero_add]
theorem acp_o {i0 i1 s d c x : Nat} (h : x ≠ i1) : acp M i0 i1 s d c x = M x := funext fun y => if_neg h
def Im1 (M N : mM) : Prop := (∀ j, j < 118 → N 68 j = M 67 j) ∧ N 66 3 = nI 1 ∧ N 66 6 = M 66 6 ∧ N 66 9 = M 66 9 ∧ ∀ a, a ≠ 66 → a ≠ 68 → N a = M a
/-- k rows of things and j rows of people copied -/
def Bm (b o k j : Nat) (M M1 : mM) : Prop := (∀ a, (a < b ∨ b + 16 < a) → M1 a = M a) ∧ (∀ f t, f < k → t < 8 → M1 (b + 2 + f) t = M (o + 2 + f) t) ∧ (∀ f p, f < j → p < 8 → M1 (b + 9 + f) p = M (o + 9 + f) p) ∧ ∀ x, M1 b x = M b x
def Bf (b o : Nat) (M M1 : mM) : Prop := (∀ a, (a < b ∨ b + 16 < a) → M1 a = M a) ∧ (∀ f t, f < 6 → t < 8 → M1 (b + 2 + f) t = M (o + 2 + f) t) ∧ (∀ f p, f < 7 → p < 8 → M1 (b + 9 + f) p = M (o + 9 + f) p) ∧ (∀ s, s < 10 → M1 (b + 16) s = M (o + 16) s) ∧ M1 b 3 = M o 3 ∧ M1 b 4 = M o 4 ∧ M1 b 5 = M o 5 ∧ M1 b 6 = M o 6 ∧ M1 b 7 = M o 7
theorem Bm.rf : Bm b o 0 0 M M := ⟨fun _ _ => rfl, fun _ _ h _ => absurd h (Nat.not_lt_zero _), fun _ _ h _ => absurd h (Nat.not_lt_zero _), fun _ => rfl⟩
theorem Bm.iron (hb : b = 1 ∨ b = 18 ∨ b = 35) (ho : o = 1 ∨ o = 18 ∨ o = 35) (hbo : b ≠ o) {k : Nat} {M1 : mM} (h : Bm b o k 0 M M1) (hk : k < 6) : Bm b o (k + 1) 0 M (acp M1 (o + 2 + k) (b + 2 + k) 0 0 8) := by
  refine ⟨fun a ha => (acp_o (by omega)).trans (h.1 a ha), fun f t hf ht => ?_, fun f p hf _ => absurd hf (Nat.not_lt_zero _), fun x => ?_⟩
  · by_cases e : f = k
    · subst e
      rw [acp_row ht, h.1 _ (by omega)]
    · rw [acp_o (by omega)]
      exact h.2.1 f t (by omega) ht
  · rw [acp_o (by omega)]
    exact h.2.2.2 x
theorem Bm.folk (hb : b = 1 ∨ b = 18 ∨ b = 35) (ho : o = 1 ∨ o = 18 ∨ o = 35) (hbo : b ≠ o) {k : Nat} {M1 : mM} (h : Bm b o 6 k M M1) (hk : k < 7) : Bm b o 6 (k + 1) M (acp M1 (o + 9 + k) (b + 9 + k) 0 0 8) := by
  refine ⟨fun a ha => (acp_o (by omega)).trans (h.1 a ha), fun f t hf ht => ?_, fun f p hf hp => ?_, fun x => ?_⟩
  · rw [acp_o (by omega)]
    exact h.2.1 f t hf ht
  · by_cases e : f = k
    · subst e
      rw [acp_row hp, h.1 _ (by omega)]
    · rw [acp_o (by omega)]
      exact h.2.2.1 f p (by omega) hp
  · rw [acp_o (by omega)]
    exact h.2.2.2 x
theorem Bm.fin (hb : b = 1 ∨ b = 18 ∨ b = 35) (ho : o = 1 ∨ o = 18 ∨ o = 35) (hbo : b ≠ o) {M1 : mM} (h : Bm b o 6 7 M M1) {v3 v4 v5 v6 v7 : Int32} (e3 : v3 = M o 3) (e4 : v4 = M o 4) (e5 : v5 = M o 5) (e6 : v6 = M o 6) (e7 : v7 = M o 7) : Bf b o M (mput (mput (mput (mput (mput (acp M1 (o + 16) (b + 16) 0 0 10) b 3 v3) b 4 v4) b 5 v5) b 6 v6) b 7 v7) := by
  have q : ∀ a, a ≠ b → mput (mput (mput (mput (mput (acp M1 (o + 16) (b + 16) 0 0 10) b 3 v3) b 4 v4) b 5 v5) b 6 v6) b 7 v7 a = acp M1 (o + 16) (b + 16) 0 0 10 a := by
    intro a ha
    rw [mpo ha, mpo ha, mpo ha, mpo ha, mpo ha]
  refine ⟨fun a ha => ?_, fun f t hf ht => ?_, fun f p hf hp => ?_, fun s hs => ?_, ?_, ?_, ?_, ?_, ?_⟩
  · rw [q a (by omega), acp_o (by omega)]; exact h.1 a ha
  · rw [q _ (by omega), acp_o (by omega)]; exact h.2.1 f t hf ht
  · rw [q _ (by omega), acp_o (by omega)]; exact h.2.2.1 f p hf hp
  · rw [q _ (by omega), acp_row hs, h.1 _ (by omega)]
  · rw [mpn (by omega), mpn (by omega), mpn (by omega), mpn (by omega), mp0]; exact e3
  · rw [mpn (by omega), mpn (by omega), mpn (by omega), mp0]; exact e4
  · rw [mpn (by omega), mpn (by omega), mp0]; exact e5
  · rw [mpn (by omega), mp0]; exact e6
  · rw [mp0]; exact e7
theorem Bf.rel {M1 : mM} (hR : Rel o nt np M r) (hn8 : nt ≤ 8) (hp8 : np ≤ 8) (h : Bf b o M M1) : Rel b nt np M1 r := by
  obtain ⟨g0, g1, g2, g3, g4, g5, g6, g7, g8⟩ := h
  obtain ⟨h1, h2, h3, h4, h5, h6, h7⟩ := hR
  exact ⟨g4.trans h1, g5.trans h2, g6.trans h3, g7.trans h4, fun s hs => (g3 s hs).trans (h5 s hs), fun f t hf ht => (g1 f t hf (by omega)).trans (h6 f t hf ht), fun f p hf hp => (g2 f p hf (by omega)).trans (h7 f p hf hp)⟩
theorem m43b (hb : b = 1 ∨ b = 18 ∨ b = 35) (ho : o = 1 ∨ o = 18 ∨ o = 35) (hbo : b ≠ o) : ∀ (n k : Nat) (M1 : mM), 7 - k < n → k ≤ 7 → Bm b o 6 k M M1 → mEv X (QV (fun M' => Bf b o M M')) 43 35 [some (.ref b), some (.ref o), some (.int (nI k))] [] (con M1) := by
  have hm : mMet 43 = some _ := rfl
  intro n
  induction n with
  | zero =>
    intro k M1 hkn hkb hT
    omega
  | succ n ih =>
    intro k M1 hkn hkb hT
    refine x_iload_n hm rfl rfl ?_
    refine x_bipush hm rfl (v := nI 7) (by decide) ?_
    refine x_icmp_ge hm rfl (t := 66) rfl (fun h1 => ?_) (fun h1 => ?_)
    · obtain rfl : k = 7 := Nat.le_antisymm hkb ((jI_le (by decide) (by omega)).mp h1)
      refine x_aload_n hm rfl rfl ?_
      refine x_getf hm rfl (gR (tO ho) rfl) ?_
      refine x_iconst hm rfl (v := nI 0) (by decide) ?_
      refine x_aload_n hm rfl rfl ?_
      refine x_getf hm rfl (gR (tO hb) rfl) ?_
      refine x_iconst hm rfl (v := nI 0) (by decide) ?_
      refine x_bipush hm rfl (v := nI 10) (by decide) ?_
      refine x_lib hm rfl (acp_call (tSp ho) (tSp hb) (by decide) (by decide) ⟨by decide, by decide⟩ rfl) ?_
      dsimp only
      refine x_aload_n hm rfl rfl ?_
      refine x_aload_n hm rfl rfl ?_
      refine x_getf hm rfl (gI (tO ho) rfl) ?_
      refine x_putf hm rfl (pI (tO hb) rfl (by decide) (by first | exact mFit_int | rfl | decide) rfl) ?_
      refine x_aload_n hm rfl rfl ?_
      refine x_aload_n hm rfl rfl ?_
      refine x_getf hm rfl (gI (tO ho) rfl) ?_
      refine x_putf hm rfl (pI (tO hb) rfl (by decide) (by first | exact mFit_int | rfl | decide) rfl) ?_
      refine x_aload_n hm rfl rfl ?_
      refine x_aload_n hm rfl rfl ?_
      refine x_getf hm rfl (gI (tO ho) rfl) ?_
      refine x_putf hm rfl (pI (tO hb) rfl (by decide) (by first | exact mFit_int | rfl | decide) rfl) ?_
      refine x_aload_n hm rfl rfl ?_
      refine x_aload_n hm rfl rfl ?_
      refine x_getf hm rfl (gI (tO ho) rfl) ?_
      refine x_putf hm rfl (pI (tO hb) rfl (by decide) (by first | exact mFit_int | rfl | decide) rfl) ?_
      refine x_aload_n hm rfl rfl ?_
      refine x_aload_n hm rfl rfl ?_
      refine x_getf hm rfl (gI (tO ho) rfl) ?_
      refine x_putf hm rfl (pI (tO hb) rfl (by decide) (by first | exact mFit_int | rfl | decide) rfl) ?_
      refine x_ret hm rfl rfl ?_
      have q : ∀ x, acp M1 (o + 16) (b + 16) 0 0 10 o x = M o x := fun x => (congrFun (acp_o (by omega)) x).trans (congrFun (hT.1 o (by omega)) x)
      exact ⟨_, rfl, rfl, hT.fin hb ho hbo (q 3) ((mpn (by omega)).trans (q 4)) ((mpn (by omega)).trans ((mpn (by omega)).trans (q 5))) ((mpn (by omega)).trans ((mpn (by omega)).trans ((mpn (by omega)).trans (q 6)))) ((mpn (by omega)).trans ((mpn (by omega)).trans ((mpn (by omega)).trans ((mpn (by omega)).trans (q 7)))))⟩
    · have hk : k < 7 := Nat.lt_of_not_le fun h => h1 (nI_le h (by omega))
      refine x_aload_n hm rfl rfl ?_
      refine x_getf hm rfl (gR (tO ho) rfl) ?_
      refine x_iload_n hm rfl rfl ?_
      refine x_aald hm rfl (lQ 3 (Or.inr (Or.inl rfl)) (tF ho) (tFk (by omega)) (by omega) (by decide)) ?_
      refine x_iconst hm rfl (v := nI 0) (by decide) ?_
      refine x_aload_n hm rfl rfl ?_
      refine x_getf hm rfl (gR (tO hb) rfl) ?_
      refine x_iload_n hm rfl rfl ?_
      refine x_aald hm rfl (lQ 3 (Or.inr (Or.inl rfl)) (tF hb) (tFk (by omega)) (by omega) (by decide)) ?_
      refine x_iconst hm rfl (v := nI 0) (by decide) ?_
      refine x_bipush hm rfl (v := nI 8) (by decide) ?_
      refine x_lib hm rfl (acp_call (tRowF ho (by omega)) (tRowF hb (by omega)) (by decide) (by decide) ⟨by decide, by decide⟩ rfl) ?_
      dsimp only
      refine x_iinc hm rfl rfl (v := nI 1) (by decide) rfl ?_
      rw [jI_add]
      refine x_goto hm rfl (t := 35) rfl ?_
      exact ih _ _ (by omega) (by omega) (hT.folk hb ho hbo (by omega))
theorem m43a (hb : b = 1 ∨ b = 18 ∨ b = 35) (ho : o = 1 ∨ o = 18 ∨ o = 35) (hbo : b ≠ o) : ∀ (n k : Nat) (M1 : mM), 6 - k < n → k ≤ 6 → Bm b o k 0 M M1 → mEv X (QV (fun M' => Bf b o M M')) 43 2 [some (.ref b), some (.ref o), some (.int (nI k))] [] (con M1) := by
  have hm : mMet 43 = some _ := rfl
  intro n
  induction n with
  | zero =>
    intro k M1 hkn hkb hT
    omega
  | succ n ih =>
    intro k M1 hkn hkb hT
    refine x_iload_n hm rfl rfl ?_
    refine x_bipush hm rfl (v := nI 6) (by decide) ?_
    refine x_icmp_ge hm rfl (t := 33) rfl (fun h1 => ?_) (fun h1 => ?_)
    · obtain rfl : k = 6 := Nat.le_antisymm hkb ((jI_le (by decide) (by omega)).mp h1)
      refine x_iconst hm rfl (v := nI 0) (by decide) ?_
      refine x_istore_n hm rfl rfl ?_
      exact m43b hb ho hbo _ 0 _ (Nat.lt_succ_self _) (Nat.zero_le _) hT
    · have hk : k < 6 := Nat.lt_of_not_le fun h => h1 (nI_le h (by omega))
      refine x_aload_n hm rfl rfl ?_
      refine x_getf hm rfl (gR (tO ho) rfl) ?_
      refine x_iload_n hm rfl rfl ?_
      refine x_aald hm rfl (lQ 3 (Or.inr (Or.inl rfl)) (tI ho) (tIk (by omega)) (by omega) (by decide)) ?_
      refine x_iconst hm rfl (v := nI 0) (by decide) ?_
      refine x_aload_n hm rfl rfl ?_
      refine x_getf hm rfl (gR (tO hb) rfl) ?_
      refine x_iload_n hm rfl rfl ?_
      refine x_aald hm rfl (lQ 3 (Or.inr (Or.inl rfl)) (tI hb) (tIk (by omega)) (by omega) (by decide)) ?_
      refine x_iconst hm rfl (v := nI 0) (by decide) ?_
      refine x_bipush hm rfl (v := nI 8) (by decide) ?_
      refine x_lib hm rfl (acp_call (tRowI ho (by omega)) (tRowI hb (by omega)) (by decide) (by decide) ⟨by decide, by decide⟩ rfl) ?_
      dsimp only
      refine x_iinc hm rfl rfl (v := nI 1) (by decide) rfl ?_
      rw [jI_add]
      refine x_goto hm rfl (t := 2) rfl ?_
      exact ih _ _ (by omega) (by omega) (hT.iron hb ho hbo (by omega))
theorem g43 (hb : b = 1 ∨ b = 18 ∨ b = 35) (ho : o = 1 ∨ o = 18 ∨ o = 35) (hbo : b ≠ o) : ∃ M', mT X 43 [.ref b, .ref o] (con M) none (con M') ∧ Bf b o M M' := by
  refine tv_of (row := _) rfl (Nat.le_of_ble_eq_true rfl) ?_
  have hm : mMet 43 = some _ := rfl
  refine x_iconst hm rfl (v := nI 0) (by decide) ?_
  refine x_istore_n hm rfl rfl ?_
  exact m43a hb ho hbo _ 0 _ (Nat.lt_succ_self _) (Nat.zero_le _) Bm.rf
theorem g125 (hR : Rel 1 nt np M r) (hn8 : nt ≤ 8) (hp8 : np ≤ 8) : ∃ v M', mT X 125 [.ref 0] (con M) (some (.int v)) (con M') ∧ v = nI 1 ∧ Rel 18 nt np M' r ∧ M' 18 7 = M 1 7 ∧ M' 0 6 = nI 1 ∧ (∀ a, a ≠ 0 → (a < 18 ∨ 34 < a) → M' a = M a) := by
  refine ti_of (row := _) rfl (Nat.le_of_ble_eq_true rfl) ?_
  have hm : mMet 125 = some _ := rfl
  refine x_aload_n hm rfl rfl ?_
  refine x_getf hm rfl (gR rfl rfl) ?_
  refine x_aload_n hm rfl rfl ?_
  refine x_getf hm rfl (gR rfl rfl) ?_
  refine x_cVv hm rfl rfl (g43 (b := 18) (o := 1) (by decide) (by decide) (by decide)) (fun M1 r1 => ?_)
  refine x_aload_n hm rfl rfl ?_
  refine x_iconst hm rfl (v := nI 1) (by decide) ?_
  refine x_putf hm rfl (pI rfl rfl (by decide) (by first | exact mFit_int | rfl | decide) rfl) ?_
  refine x_iconst hm rfl (v := nI 1) (by decide) ?_
  refine x_iret hm rfl rfl (by first | rfl | exact bI_nar | decide) ?_
  exact ⟨_, _, rfl, rfl, rfl, (r1.rel hR hn8 hp8).fr (fun c _ _ => mpo (by omega)), (mpn (by decide)).trans r1.2.2.2.2.2.2.2.2, mp0, fun a h0 ha => (mpo h0).trans (r1.1 a (by omega))⟩
theorem g126a (hR : Rel 1 nt np M r) (h0 : M 0 6 = 0) : ∃ v M', mT X 126 [.ref 0] (con M) (some (.int v)) (con M') ∧ Tq (-1000004, nt, np, r) v M M' := by
  refine ti_of (row := _) rfl (Nat.le_of_ble_eq_true rfl) ?_
  have hm : mMet 126 = some _ := rfl
  refine x_aload_n hm rfl rfl ?_
  refine x_getf hm rfl (gI rfl rfl) ?_
  refine x_if_ne hm rfl (t := 14) rfl (fun h1 => ?_) (fun h1 => ?_)
  · exact absurd h0 h1 --stop
  · refine x_aload_n hm rfl rfl ?_
    refine x_ldcI hm rfl (v := (-1000004 : Int32)) (by decide +kernel) ?_
    refine x_cVi hm rfl rfl (t7 (by decide +kernel)) (fun v2 M2 r2 => ?_)
    refine x_iret hm rfl rfl (by first | rfl | exact bI_nar | decide) ?_
    exact ⟨_, _, rfl, rfl, r2.1, hR.bq r2.2⟩
theorem g126b (hR : Rel 18 nt np M r) (hn8 : nt ≤ 8) (hp8 : np ≤ 8) (h0 : ¬ M 0 6 = 0) (hc : M 18 7 = M 1 7) : ∃ v M', mT X 126 [.ref 0] (con M) (some (.int v)) (con M') ∧ Tq (r 0, nt, np, r) v M M' := by
  refine ti_of (row := _) rfl (Nat.le_of_ble_eq_true rfl) ?_
  have hm : mMet 126 = some _ := rfl
  refine x_aload_n hm rfl rfl ?_
  refine x_getf hm rfl (gI rfl rfl) ?_
  refine x_if_ne hm rfl (t := 14) rfl (fun h1 => ?_) (fun h1 => ?_)
  · refine x_aload_n hm rfl rfl ?_
    refine x_getf hm rfl (gR rfl rfl) ?_
    refine x_aload_n hm rfl rfl ?_
    refine x_getf hm rfl (gR rfl rfl) ?_
    refine x_cVv hm rfl rfl (g43 (b := 1) (o := 18) (by decide) (by decide) (by decide)) (fun M2 r2 => ?_)
    refine x_aload_n hm rfl rfl ?_
    refine x_getf hm rfl (gR rfl rfl) ?_
    refine x_getf hm rfl (gI rfl rfl) ?_
    refine x_iret hm rfl rfl (by first | rfl | exact bI_nar | decide) ?_
    exact ⟨_, _, rfl, rfl, (r2.rel hR hn8 hp8).2.2.1, (r2.rel hR hn8 hp8).tm (r2.2.2.2.2.2.2.2.2.trans hc) (fun a ha => r2.1 a (by omega))⟩
  · exact absurd h1 h0 --stop
theorem g127 (hf : M 0 6 = 0 ∨ M 0 6 = nI 1) : ∃ v M', mT X 127 [.ref 0] (con M) (some (.int v)) (con M') ∧ v = M 0 6 ∧ M' 0 6 = 0 ∧ (∀ a, a ≠ 0 → M' a = M a) := by
  refine ti_of (row := _) rfl (Nat.le_of_ble_eq_true rfl) ?_
  have hm : mMet 127 = some _ := rfl
  refine x_aload_n hm rfl rfl ?_
  refine x_getf hm rfl (gI rfl rfl) ?_
  refine x_if_eq hm rfl (t := 11) rfl (fun h1 => ?_) (fun h1 => ?_)
  · have hv : (nI 0 : Int32) = M 0 6 := h1.symm
    refine x_iconst hm rfl (v := nI 0) (by decide) ?_
    refine x_istore_n hm rfl rfl ?_
    refine x_aload_n hm rfl rfl ?_
    refine x_iconst hm rfl (v := nI 0) (by decide) ?_
    refine x_putf hm rfl (pI rfl rfl (by decide) (by first | exact mFit_int | rfl | decide) rfl) ?_
    refine x_iload_n hm rfl rfl ?_
    refine x_iret hm rfl rfl (by first | rfl | exact bI_nar | decide) ?_
    exact ⟨_, _, rfl, rfl, hv, mp0, fun a h => mpo h⟩
  · have hv : nI 1 = M 0 6 := (hf.resolve_left h1).symm
    refine x_iconst hm rfl (v := nI 1) (by decide) ?_
    refine x_goto hm rfl (t := 12) rfl ?_
    refine x_istore_n hm rfl rfl ?_
    refine x_aload_n hm rfl rfl ?_
    refine x_iconst hm rfl (v := nI 0) (by decide) ?_
    refine x_putf hm rfl (pI rfl rfl (by decide) (by first | exact mFit_int | rfl | decide) rfl) ?_
    refine x_iload_n hm rfl rfl ?_
    refine x_iret hm rfl rfl (by first | rfl | exact bI_nar | decide) ?_
    exact ⟨_, _, rfl, rfl, hv, mp0, fun a h => mpo h⟩
theorem g240 : ∃ v M', mT X 240 [.ref 66] (con M) (some (.int v)) (con M') ∧ v = nI 1 ∧ Im1 M M' := by
  refine ti_of (row := _) rfl (Nat.le_of_ble_eq_true rfl) ?_
  have hm : mMet 240 = some _ := rfl
  refine x_aload_n hm rfl rfl ?_
  refine x_getf hm rfl (gR rfl rfl) ?_
  refine x_aload_n hm rfl rfl ?_
  refine x_getf hm rfl (gR rfl rfl) ?_
  refine x_callS hm rfl rfl (t174 rfl rfl (by decide)) ?_
  refine x_aload_n hm rfl rfl ?_
  refine x_iconst hm rfl (v := nI 1) (by decide) ?_
  refine x_putf hm rfl (pI rfl rfl (by decide) (by first | exact mFit_int | rfl | decide) rfl) ?_
  refine x_iconst hm rfl (v := nI 1) (by decide) ?_
  refine x_iret hm rfl rfl (by first | rfl | exact bI_nar | decide) ?_
  exact ⟨_, _, rfl, rfl, rfl, fun j hj => (congrFun (mpo (by decide)) j).trans (cp_b hj), mp0, (mpf (by decide)).trans (congrFun (cp_o (by decide)) 6), (mpf (by decide)).trans (congrFun (cp_o (by decide)) 9), fun a h1 h2 => (mpo h1).trans (cp_o h2)⟩
theorem g241a (h67 : M 67 = r) (h0 : M 66 3 = 0) : ∃ v M', mT X 241 [.ref 66] (con M) (some (.int v)) (con M') ∧ Uq (-1000004, nt, np, r) v M M' := by
  refine ti_of (row := _) rfl (Nat.le_of_ble_eq_true rfl) ?_
  have hm : mMet 241 = some _ := rfl
  refine x_aload_n hm rfl rfl ?_
  refine x_getf hm rfl (gI rfl rfl) ?_
  refine x_if_ne hm rfl (t := 14) rfl (fun h1 => ?_) (fun h1 => ?_)
  · exact absurd h0 h1 --stop
  · refine x_aload_n hm rfl rfl ?_
    refine x_ldcI hm rfl (v := (-1000004 : Int32)) (by decide +kernel) ?_
    refine x_callV hm rfl rfl (e135 (by decide +kernel)) ?_
    refine x_iret hm rfl rfl (by first | rfl | exact bI_nar | decide) ?_
    exact ⟨_, _, rfl, rfl, rfl, fnd_rm h67⟩
theorem g241b (h0 : ¬ M 66 3 = 0) : ∃ v M', mT X 241 [.ref 66] (con M) (some (.int v)) (con M') ∧ v = M 68 0 ∧ M' = cp M 68 67 118 := by
  refine ti_of (row := _) rfl (Nat.le_of_ble_eq_true rfl) ?_
  have hm : mMet 241 = some _ := rfl
  refine x_aload_n hm rfl rfl ?_
  refine x_getf hm rfl (gI rfl rfl) ?_
  refine x_if_ne hm rfl (t := 14) rfl (fun h1 => ?_) (fun h1 => ?_)
  · refine x_aload_n hm rfl rfl ?_
    refine x_getf hm rfl (gR rfl rfl) ?_
    refine x_aload_n hm rfl rfl ?_
    refine x_getf hm rfl (gR rfl rfl) ?_
    refine x_callS hm rfl rfl (t174 rfl rfl (by decide)) ?_
    refine x_aload_n hm rfl rfl ?_
    refine x_getf hm rfl (gR rfl rfl) ?_
    refine x_iconst hm rfl (v := nI 0) (by decide) ?_
    refine x_iald hm rfl (lI rfl (by omega) (by decide)) ?_
    refine x_iret hm rfl rfl (by first | rfl | exact bI_nar | decide) ?_
    exact ⟨_, _, rfl, rfl, cp_b (by decide), rfl⟩
  · exact absurd h1 h0 --stop
theorem g242 (hf : M 66 3 = 0 ∨ M 66 3 = nI 1) : ∃ v M', mT X 242 [.ref 66] (con M) (some (.int v)) (con M') ∧ v = M 66 3 ∧ M' 66 3 = 0 ∧ M' 66 6 = M 66 6 ∧ M' 66 9 = M 66 9 ∧ ∀ a, a ≠ 66 → M' a = M a := by
  refine ti_of (row := _) rfl (Nat.le_of_ble_eq_true rfl) ?_
  have hm : mMet 242 = some _ := rfl
  refine x_aload_n hm rfl rfl ?_
  refine x_getf hm rfl (gI rfl rfl) ?_
  refine x_if_eq hm rfl (t := 11) rfl (fun h1 => ?_) (fun h1 => ?_)
  · have hv : (nI 0 : Int32) = M 66 3 := h1.symm
    refine x_iconst hm rfl (v := nI 0) (by decide) ?_
    refine x_istore_n hm rfl rfl ?_
    refine x_aload_n hm rfl rfl ?_
    refine x_iconst hm rfl (v := nI 0) (by decide) ?_
    refine x_putf hm rfl (pI rfl rfl (by decide) (by first | exact mFit_int | rfl | decide) rfl) ?_
    refine x_iload_n hm rfl rfl ?_
    refine x_iret hm rfl rfl (by first | rfl | exact bI_nar | decide) ?_
    exact ⟨_, _, rfl, rfl, hv, mp0, mpf (by decide), mpf (by decide), fun a h => mpo h⟩
  · have hv : nI 1 = M 66 3 := (hf.resolve_left h1).symm
    refine x_iconst hm rfl (v := nI 1) (by decide) ?_
    refine x_goto hm rfl (t := 12) rfl ?_
    refine x_istore_n hm rfl rfl ?_
    refine x_aload_n hm rfl rfl ?_
    refine x_iconst hm rfl (v := nI 0) (by decide) ?_
    refine x_putf hm rfl (pI rfl rfl (by decide) (by first | exact mFit_int | rfl | decide) rfl) ?_
    refine x_iload_n hm rfl rfl ?_
    refine x_iret hm rfl rfl (by first | rfl | exact bI_nar | decide) ?_
    exact ⟨_, _, rfl, rfl, hv, mp0, mpf (by decide), mpf (by decide), fun a h => mpo h⟩
theorem Rel.ix {q : Nat → Int32} (h : Rel b nt np M r) (hn8 : nt ≤ 8) (hp8 : np ≤ 8) (e : ∀ j, j < 118 → q j = r j) : Rel b nt np M q := by
  obtain ⟨h1, h2, h3, h4, h5, h6, h7⟩ := h
  exact ⟨h1, h2, h3.trans (e _ (by omega)).symm, h4.trans (e _ (by omega)).symm, fun s hs => (h5 s hs).trans (e _ (by omega)).symm, fun f t hf ht => (h6 f t hf ht).trans (e _ (by omega)).symm, fun f p hf hp => (h7 f p hf hp).trans (e _ (by omega)).symm⟩
theorem Gd.ix {q : Nat → Int32} (h : Gd nt np r) (e : ∀ j, j < 118 → q j = r j) : Gd nt np q := by
  obtain ⟨h1, h2, ⟨v1, v2, v3, v4⟩, ⟨w1, w2, w3, w4⟩⟩ := h
  refine ⟨(e _ (by omega)).trans h1, (e _ (by omega)).trans h2, ⟨v1, v2, fun t ht => ?_, fun p hp => ?_⟩, ⟨?_, fun s hs => ?_, fun t ht => ?_, fun p hp => ?_⟩⟩
  · rw [e _ (by omega), e _ (by omega), e _ (by omega)]; exact v3 t ht
  · rw [e _ (by omega)]; exact v4 p hp
  · rw [e _ (by omega)]; exact w1
  · rw [e _ (by omega)]; exact w2 s hs
  · rw [e _ (by omega), e _ (by omega), e _ (by omega)]; exact w3 t ht
  · obtain ⟨g1, g2, g3⟩ := w4 p hp
    exact ⟨by rw [e _ (by omega)]; exact g1, by rw [e _ (by omega)]; exact g2, fun s hs => by rw [e _ (by omega)]; exact g3 s hs⟩
theorem j_undo (hJ : J M) : JJ X 126 241 [.ref 0] [.ref 66] M Eq := by
  obtain ⟨nt, np, hR, h1, h2, hV, hr, hc⟩ := hJ.2.2.1
  rcases hJ.2.2.2.1 with ⟨f1, f2⟩ | ⟨f1, f2, mt, mp, gR, g1, g2, gV, gr, gc⟩
  · exact J.join (q := (-1000004, nt, np, M 67)) hJ (t126 hJ.1.1) (g126a hR f2) (fun M1 i => t241 i) (fun M1 _ k => g241a (k 67 (by decide)) (by rw [k 66 (by decide)]; exact f1)) ⟨h1, h2, hV, hr⟩
  · have e : ∀ j, j < 118 → cp M 68 67 118 67 j = M 68 j := fun j hj => cp_b hj
    refine J.join (q := (M 68 0, mt, mp, cp M 68 67 118 67)) hJ (t126 hJ.1.1) ?_ (fun M1 i => t241 i) (fun M1 _ k => ?_) (Gd.ix (r := M 68) ⟨g1, g2, gV, gr⟩ e)
    · obtain ⟨v, M1, k1, k2, k3, k4, k5⟩ := g126b (X := X) gR gV.1 gV.2.1 (by rw [f2]; decide) (gc.trans hc.symm)
      exact ⟨v, M1, k1, k2, k3.ix gV.1 gV.2.1 e, k4, k5⟩
    · obtain ⟨w, M2, k1, k2, rfl⟩ := g241b (X := X) (M := M1) (by rw [k 66 (by decide), f1]; decide)
      refine ⟨w, _, k1, by rw [k2, k 68 (by decide)], ?_, fun a b1 b2 b3 b4 => cp_o b1⟩
      funext j
      show (if 67 = 67 ∧ j < 118 then M1 68 j else M1 67 j) = (if 67 = 67 ∧ j < 118 then M 68 j else M 67 j)
      rw [k 67 (by decide), k 68 (by decide)]
theorem j_image (hJ : J M) : JJ X 125 240 [.ref 0] [.ref 66] M Eq := by
  obtain ⟨nt, np, hR, h1, h2, hV, hr, hc⟩ := hJ.2.2.1
  obtain ⟨v, M1, a1, a2, ⟨-, a3⟩, rfl, a5, a6, a7, a8⟩ := mT.both (X := X) (P := fun v N => v = nI 1 ∧ Ck M N) (Q := fun v N => v = nI 1 ∧ Rel 18 nt np N (M 67) ∧ N 18 7 = M 1 7 ∧ N 0 6 = nI 1 ∧ (∀ a, a ≠ 0 → (a < 18 ∨ 34 < a) → N a = M a)) (t125 hJ.1.1) (g125 hR hV.1 hV.2.1) (fun _ _ h => ⟨h.1, h.2.cn hJ.2.1⟩) (fun _ _ h => ⟨h.1, h.2.1.cn (Or.inr (Or.inl rfl)), h.2.2.1, h.2.2.2.1, fun a b c => cn_fr hJ.2.1 (h.2.2.2.2 a b c)⟩)
  have i1 := a3.inv hJ.1
  obtain ⟨w, M2, b1, b2, ⟨-, b3⟩, rfl, b5, b6, b7, b8, b9⟩ := mT.both (X := X) (M := M1) (P := fun v N => v = nI 1 ∧ Inv N) (Q := fun v N => v = nI 1 ∧ Im1 M1 N) (t240 i1) g240 (fun _ _ h => ⟨h.1, h.2.cn⟩) (fun _ N h => ⟨h.1, h.2.1, h.2.2.1, h.2.2.2.1, h.2.2.2.2.1, fun a b c => cn_fr a2 (h.2.2.2.2.2 a b c)⟩)
  obtain ⟨j1, j2, j3, j4, j5, j6, j7⟩ := hJ
  have e66 : M1 66 = M 66 := a3.2 66 (by decide)
  have l : ∀ a, a ≠ 0 → (a < 18 ∨ (34 < a ∧ a < 66)) → M2 a = M a := fun a g0 ga => (b9 a (by omega) (by omega)).trans (a8 a g0 (by omega))
  have u : ∀ a, 66 < a → a ≠ 68 → M2 a = M a := fun a g0 ga => (b9 a (by omega) (by omega)).trans (a3.2 a (by omega))
  have e8 : ∀ j, j < 118 → M2 68 j = M 67 j := fun j hj => (b5 j hj).trans (congrFun (a3.2 67 (by decide)) j)
  have hG := Gd.ix (r := M 67) ⟨h1, h2, hV, hr⟩ e8
  refine ⟨_, M1, _, M2, a1, b1, ⟨b3, b2, j3.of (fun c x y => l c (by omega) (by omega)) (u 67 (by decide) (by decide)), Or.inr ⟨b6, (congrFun (b9 0 (by decide) (by decide)) 6).trans a7, nt, np, ?_, hG.1, hG.2.1, hG.2.2.1, hG.2.2.2, ?_⟩, j5.of (congrFun (l 52 (by decide) (by decide)) 1) (b8.trans (congrFun e66 9)) (u 73 (by decide) (by decide)) (l 53 (by decide) (by decide)), j6.of (fun c x y => l c (by omega) (by omega)) (u 76 (by decide) (by decide)) (u 77 (by decide) (by decide)) (u 78 (by decide) (by decide)), b7.trans ((congrFun e66 6).trans j7)⟩, rfl⟩
  · exact (a5.fr fun c x y => b9 c (by omega) (by omega)).ix hV.1 hV.2.1 e8
  · rw [b9 18 (by decide) (by decide), a6]
    exact hc
theorem j_tear (hJ : J M) : JJ X 127 242 [.ref 0] [.ref 66] M Eq := by
  have f1 : M 0 6 = 0 ∨ M 0 6 = nI 1 := hJ.2.2.2.1.imp (fun h => h.2) (fun h => h.2.1)
  have f2 : M 0 6 = M 66 3 := by
    rcases hJ.2.2.2.1 with ⟨a, b⟩ | ⟨a, b, -⟩ <;> rw [a, b]
  obtain ⟨v, M1, a1, a2, a3, rfl, a7, a8⟩ := mT.both (X := X) (P := fun v N => Ck M N) (Q := fun v N => v = M 0 6 ∧ N 0 6 = 0 ∧ (∀ a, a ≠ 0 → N a = M a)) (t127 hJ.1.1) (g127 f1) (fun _ _ h => h.cn hJ.2.1) (fun _ _ h => ⟨h.1, h.2.1, fun a b => cn_fr hJ.2.1 (h.2.2 a b)⟩)
  have i1 := a3.inv hJ.1
  have e66 : M1 66 = M 66 := a3.2 66 (by decide)
  obtain ⟨w, M2, b1, b2, b3, rfl, b6, b7, b8, b9⟩ := mT.both (X := X) (M := M1) (P := fun v N => Inv N) (Q := fun v N => v = M1 66 3 ∧ N 66 3 = 0 ∧ N 66 6 = M1 66 6 ∧ N 66 9 = M1 66 9 ∧ ∀ a, a ≠ 66 → N a = M1 a) (t242 i1) (g242 (by rw [e66, ← f2]; exact f1)) (fun _ _ h => h.cn) (fun _ N h => ⟨h.1, h.2.1, h.2.2.1, h.2.2.2.1, fun a b => cn_fr a2 (h.2.2.2.2 a b)⟩)
  obtain ⟨j1, j2, j3, j4, j5, j6, j7⟩ := hJ
  have l : ∀ a, a ≠ 0 → a ≠ 66 → M2 a = M a := fun a g0 ga => (b9 a ga).trans (a8 a g0)
  refine ⟨_, M1, _, M2, a1, b1, ⟨b3, b2, j3.of (fun c x y => l c (by omega) (by omega)) (l 67 (by decide) (by decide)), Or.inl ⟨b6, (congrFun (b9 0 (by decide)) 6).trans a7⟩, j5.of (congrFun (l 52 (by decide) (by decide)) 1) (b8.trans (congrFun e66 9)) (l 73 (by decide) (by decide)) (l 53 (by decide) (by decide)), j6.of (fun c x y => l c (by omega) (by omega)) (l 76 (by decide) (by decide)) (l 77 (by decide) (by decide)) (l 78 (by decide) (by decide)), b7.trans ((congrFun e66 6).trans j7)⟩, by rw [e66]; exact f2⟩
end IM
end
section
/-! ===== days keep rows good ===== -/
section GDY
variable {nt np : Nat} {r : Nat → Int32} {w : Int32}
abbrev chk (v : Int32) : Prop := v.toNatClampNeg ≤ 18 ∧ nI v.toNatClampNeg = v
theorem chk.le {v : Int32} (h : chk v) : Le 18 v := ⟨_, h.1, h.2.symm⟩
theorem ck1 : ∀ l, l < 10 → ∀ p, p < 10 → chk (mx0 ((nI l - nI p) / nI 2)) := by decide +kernel
theorem ck2 : ∀ l, l < 10 → ∀ p, p < 10 → chk (mx0 (nI l - nI p)) := by decide +kernel
theorem ck3 : ∀ l, l < 10 → ∀ p, p < 10 → chk (mx0 (nI l - nI p + nI 2)) := by decide +kernel
theorem ck4 : ∀ l, l < 10 → ∀ p, p < 10 → chk (mx0 (nI l - nI p - nI 3)) := by decide +kernel
theorem ck5 : ∀ l, l < 10 → ∀ p, p < 10 → chk (mx0 (nI l - nI p + nI 2 - nI 3)) := by decide +kernel
theorem ck6 : ∀ l, l < 10 → ∀ p, p < 10 → ∀ q, q < 10 → chk (mx0 (nI l - nI p - nI 3 + nI q)) := by decide +kernel
theorem ck7 : ∀ l, l < 10 → ∀ p, p < 10 → ∀ q, q < 10 → chk (mx0 (nI l - nI p + nI 2 - nI 3 + nI q)) := by decide +kernel
theorem ck8 : ∀ l, l < 10 → ∀ p, p < 10 → chk (mx0 (nI 2 * (nI l - nI p))) := by decide +kernel
theorem ck9 : chk (mx0 (nI 0)) ∧ chk (nI 0) := by decide +kernel
theorem d100 : ∀ k, k < 1000 → nI k / nI 100 = nI (k / 100) := by decide +kernel
theorem r16 : ∀ k, k < 31 → (rem16 (nI k)).toNatClampNeg ≤ 15 ∧ nI (rem16 (nI k)).toNatClampNeg = rem16 (nI k) := by decide +kernel
theorem sKd_le {k l p th : Nat} {o ri : Int32} (hk : k ≤ 6) (hl : l < 10) (hp : p < 10) (hth : th < 1000) (hri : ri = nI l - nI p ∨ ri = nI l - nI p + nI 2) : Le 18 (mx0 (sKd (nI k) o (nI th) (nI l - nI p) ri)) := by
  unfold sKd
  rw [d100 th hth]
  have hq : th / 100 < 10 := by omega
  split
  · exact (ck1 l hl p hp).le
  · split
    · rcases hri with rfl | rfl
      · exact (ck2 l hl p hp).le
      · exact (ck3 l hl p hp).le
    · split
      · rcases hri with rfl | rfl
        · exact (ck4 l hl p hp).le
        · exact (ck5 l hl p hp).le
      · split
        · rcases hri with rfl | rfl
          · exact (ck6 l hl p hp _ hq).le
          · exact (ck7 l hl p hp _ hq).le
        · split
          · exact (ck8 l hl p hp).le
          · split
            · split
              · exact ck9.1.le
              · exact (ck1 l hl p hp).le
            · exact (ck2 l hl p hp).le
theorem sEnv_le {t p : Nat} {o : Int32} (hV : Vs nt np r) (hr : Vr nt np r) (ht : t < nt) (hp : p < np) : Le 18 (sEnv r w o p t) := by
  unfold sEnv
  split
  · exact ck9.2.le
  · obtain ⟨k, hk, ek⟩ := hV.kind hp
    obtain ⟨s, hs, es⟩ := hV.sort ht
    obtain ⟨-, -, rt, rp⟩ := hr
    obtain ⟨-, ⟨th, hth, eth⟩, ⟨pa, hpa, epa⟩⟩ := rt t ht
    obtain ⟨l, hl, el⟩ := (rp p hp).2.2 s (by omega)
    have hpl : sPl r p t = nI l - nI pa := by
      unfold sPl
      rw [es, jI_nat (by omega), el, epa]
    rw [ek, eth, hpl]
    refine sKd_le hk (by omega) (by omega) (by omega) ?_
    unfold sRi
    rw [hpl]
    split
    · exact Or.inr rfl
    · exact Or.inl rfl
theorem sWs_le {t : Nat} (hV : Vs nt np r) (hr : Vr nt np r) (ht : t < nt) : ∀ k, k ≤ np → Le (18 * k) (sWs r w t k) := by
  intro k
  induction k with
  | zero => intro _; exact ⟨0, Nat.le_refl _, rfl⟩
  | succ k ih =>
    intro hk
    obtain ⟨a, ha, ea⟩ := ih (by omega)
    show Le _ (sWs r w t k + _)
    rw [ea]
    split
    · obtain ⟨b, hb, eb⟩ := sEnv_le (w := w) (o := r (14 + 6 * t + 4)) hV hr ht (show k < np by omega)
      rw [eb, jI_add]
      exact ⟨_, by omega, rfl⟩
    · rw [jI_add]
      exact ⟨_, by omega, rfl⟩
theorem sub_le {i z : Nat} (h : i ≤ z) : nI z - nI i = nI (z - i) := by
  have e : z = (z - i) + i := by omega
  rw [e, ← jI_add (z - i) i, Int32.add_sub_cancel]
  congr 1
  omega
theorem wear_le {t : Nat} (hV : Vs nt np r) (hr : Vr nt np r) (ht : t < nt) : ∃ k, Le k (r (14 + 6 * t + 2)) ∧ k ≤ 999 ∧ Le k (sWear r w np t) ∧ Le k (r (14 + 6 * t + 2) - sWear r w np t) := by
  obtain ⟨a, ha, ea⟩ := sWs_le (w := w) hV hr ht np (Nat.le_refl _)
  obtain ⟨-, -, rt, rp⟩ := hr
  obtain ⟨-, ⟨th, hth, eth⟩, -⟩ := rt t ht
  have h8 := hV.2.1
  refine ⟨th, ⟨th, Nat.le_refl _, eth⟩, hth, ?_⟩
  unfold sWear mn2
  rw [ea, eth]
  split
  · exact ⟨⟨th, Nat.le_refl _, rfl⟩, by rw [sub_le (Nat.le_refl _)]; exact ⟨_, by omega, rfl⟩⟩
  · rename_i h
    have hle : a ≤ th := by
      rcases Nat.lt_or_ge th a with g | g
      · exact absurd ((jI_lt (by omega) (by omega)).mpr g) h
      · exact g
    exact ⟨⟨a, hle, rfl⟩, by rw [sub_le hle]; exact ⟨_, by omega, rfl⟩⟩
theorem sWorn_le (hV : Vs nt np r) (hr : Vr nt np r) : ∀ n, n ≤ nt → ∀ t, t < nt → Le 999 (sWorn r w np n r (14 + 6 * t + 2)) := by
  intro n
  induction n with
  | zero => intro _ t ht; exact (hr.2.2.1 t ht).2.1
  | succ n ih =>
    intro hn t ht
    show Le 999 (put1 (sWorn r w np n r) (14 + 6 * n + 2) (sWorn r w np n r (14 + 6 * n + 2) - sWear r w np n) (14 + 6 * t + 2))
    by_cases e : t = n
    · subst e
      rw [put1_s, sWorn_o t _ (fun u hu => by omega)]
      obtain ⟨k, -, hk, -, a, ha, ea⟩ := wear_le (w := w) hV hr ht
      exact ⟨a, by omega, ea⟩
    · rw [put1_o (by omega)]
      exact ih (by omega) t ht
theorem sFp_le {q : Nat → Int32} (h : ∀ t, t < nt → Le 999 (q (14 + 6 * t + 2))) : ∀ t, t < nt → Le 999 ((sFp nt q).1 (14 + 6 * t + 2)) := by
  refine fo_p (P := fun z : (Nat → Int32) × Int32 => ∀ t, t < nt → Le 999 (z.1 (14 + 6 * t + 2))) nt (q, nI 0) h (fun k z hk hz => ?_)
  unfold sFp1
  split
  · intro t ht
    show Le 999 (put1 z.1 (14 + 6 * k + 2) (nI 0) (14 + 6 * t + 2))
    by_cases e : t = k
    · subst e
      rw [put1_s]
      exact ⟨0, by omega, rfl⟩
    · rw [put1_o (by omega)]
      exact hz t ht
  · exact hz
theorem sFall_le : ∀ (f : Nat) (q : Nat → Int32), (∀ t, t < nt → Le 999 (q (14 + 6 * t + 2))) → ∀ t, t < nt → Le 999 (sFall nt f q (14 + 6 * t + 2)) := by
  intro f
  induction f with
  | zero => intro q h; exact h
  | succ f ih =>
    intro q h
    unfold sFall
    split
    · exact sFp_le h
    · exact ih _ (sFp_le h)
theorem sGo_le {q : Nat → Int32} (h : ∀ p, p < np → Le 15 (q (62 + 7 * p + 1)) ∧ Le 15 (q (62 + 7 * p + 2))) : ∀ p, p < np → Le 15 (sGo np q (62 + 7 * p + 1)) ∧ Le 15 (sGo np q (62 + 7 * p + 2)) := by
  refine fo_p (P := fun z : Nat → Int32 => ∀ p, p < np → Le 15 (z (62 + 7 * p + 1)) ∧ Le 15 (z (62 + 7 * p + 2))) np q h (fun k z hk hz => ?_)
  intro p hp
  by_cases e : p = k
  · subst e
    obtain ⟨⟨a, ha, ea⟩, h2⟩ := hz p hp
    refine ⟨?_, by rw [put1_o (by omega)]; exact h2⟩
    obtain ⟨b, hb, eb⟩ := h2
    rw [put1_s, ea, eb, jI_add]
    exact ⟨_, (r16 (a + b) (by omega)).1, (r16 (a + b) (by omega)).2.symm⟩
  · rw [put1_o (by omega), put1_o (by omega)]
    exact hz p hp
theorem Gd.day (h : Gd nt np r) {d : Nat} (hd : r 0 = nI d) (hd9 : d + 1 ≤ 99999) : Gd nt np (sDay w nt np r) ∧ sDay w nt np r 0 = nI (d + 1) := by
  obtain ⟨h1, h2, hV, hr⟩ := h
  have t8 := hV.1
  have p8 := hV.2.1
  have o : ∀ j, j ≠ 0 → (∀ t, t < nt → j ≠ 14 + 6 * t + 2) → (∀ p, p < np → j ≠ 62 + 7 * p + 1) → sDay w nt np r j = r j := fun j a b c => sDay_o a b c
  have e0 : sDay w nt np r 0 = nI (d + 1) := by
    unfold sDay sTick
    rw [put1_s, sGo_o np 0 (fun _ _ => by omega), sFall_o 8 _ 0 (fun _ _ => by omega), sWorn_o nt 0 (fun _ _ => by omega), hd, jI_add]
  refine ⟨⟨(o 1 (by decide) (fun _ _ => by omega) (fun _ _ => by omega)).trans h1, (o 2 (by decide) (fun _ _ => by omega) (fun _ _ => by omega)).trans h2, hV.day, ⟨d + 1, hd9, e0⟩, fun s hs => ?_, fun t ht => ?_, fun p hp => ?_⟩, e0⟩
  · rw [o _ (by omega) (fun _ _ => by omega) (fun _ _ => by omega)]
    exact hr.2.1 s hs
  · obtain ⟨g1, g2, g3⟩ := hr.2.2.1 t ht
    refine ⟨by rw [o _ (by omega) (fun _ _ => by omega) (fun _ _ => by omega)]; exact g1, ?_, by rw [o _ (by omega) (fun _ _ => by omega) (fun _ _ => by omega)]; exact g3⟩
    unfold sDay sTick
    rw [put1_o (by omega), sGo_o np _ (fun _ _ => by omega)]
    exact sFall_le 8 _ (sWorn_le hV hr nt (Nat.le_refl _)) t ht
  · obtain ⟨g1, g2, g3⟩ := hr.2.2.2 p hp
    refine ⟨?_, by rw [o _ (by omega) (fun _ _ => by omega) (fun _ _ => by omega)]; exact g2, fun s hs => by rw [o _ (by omega) (fun _ _ => by omega) (fun _ _ => by omega)]; exact g3 s hs⟩
    unfold sDay sTick
    rw [put1_o (by omega)]
    refine (sGo_le (fun q hq => ?_) p hp).1
    rw [sFall_o 8 _ _ (fun _ _ => by omega), sFall_o 8 _ _ (fun _ _ => by omega), sWorn_o nt _ (fun _ _ => by omega), sWorn_o nt _ (fun _ _ => by omega)]
    exact ⟨(hr.2.2.2 q hq).1, (hr.2.2.2 q hq).2.1⟩
theorem Gd.days (h : Gd nt np r) {d : Nat} (hd : r 0 = nI d) : ∀ n, d + n ≤ 99999 → Gd nt np (sDays w nt np n r) ∧ sDays w nt np n r 0 = nI (d + n) := by
  intro n
  induction n with
  | zero => intro _; exact ⟨h, hd⟩
  | succ n ih =>
    intro hn
    obtain ⟨g1, g2⟩ := ih (by omega)
    exact g1.day g2 (by omega)
theorem sGone_k (r : Nat → Int32) : ∀ n, n ≤ 8 → ∃ k, k < 2 ^ n ∧ sGone r n = nI k := by
  intro n
  induction n with
  | zero => intro _; exact ⟨0, by decide, rfl⟩
  | succ n ih =>
    intro hn
    obtain ⟨k, hk, e⟩ := ih (by omega)
    show ∃ j, j < 2 ^ (n + 1) ∧ sGone r n ||| _ = nI j
    rw [e]
    split
    · refine ⟨k + 2 ^ n, by rw [Nat.pow_succ]; omega, ?_⟩
      have hb : ∀ m, m < 8 → ∀ k, k < 2 ^ m → nI k ||| bit m = nI (k + 2 ^ m) := by decide +kernel
      exact hb n (by omega) k hk
    · refine ⟨k, by rw [Nat.pow_succ]; omega, ?_⟩
      exact (orz (v := nI k)).symm
end GDY
end
section
/-! ===== change, go, strolls ===== -/
abbrev mayC (a v : Int32) : Prop := (a = 0 ∧ (nI 0 ≤ v ∧ v ≤ nI 6)) ∨ ((a = nI 1 ∨ a = nI 2) ∧ (nI 0 ≤ v ∧ v ≤ nI 15)) ∨ ((nI 3 ≤ a ∧ a ≤ nI 6) ∧ (nI 0 ≤ v ∧ v ≤ nI 9))
def fChange (nt np : Nat) (r : Nat → Int32) (a1 a2 a3 : Int32) : Sq4 :=
  if bI (nI 0 ≤ a1 ∧ a1 ≤ nI np - nI 1) = 0 then (-1000001, nt, np, r) else if bI (mayC a2 a3) = 0 then (-1000001, nt, np, r) else (r (62 + 7 * a1.toNatClampNeg + a2.toNatClampNeg), nt, np, put1 r (62 + 7 * a1.toNatClampNeg + a2.toNatClampNeg) a3)
theorem bIc {p q : Prop} [Decidable p] [Decidable q] (h : p ↔ q) : bI p = bI q := by
  by_cases g : p
  · exact (bI_t g).symm.trans (bI_t (h.mp g))
  · exact (bI_f g).symm.trans (bI_f fun z => g (h.mpr z))
theorem le36 {a : Int32} (h : nI 3 ≤ a ∧ a ≤ nI 6) : 3 ≤ a.toInt ∧ a.toInt ≤ 6 := by
  have h1 := Int32.le_iff_toInt_le.mp h.1
  have h2 := Int32.le_iff_toInt_le.mp h.2
  rw [jI_int (by decide)] at h1 h2
  omega
theorem mayC_0 {a v : Int32} (h : a = 0) : (nI 0 ≤ v ∧ v ≤ nI 6) ↔ mayC a v := by
  subst h
  refine ⟨fun g => Or.inl ⟨rfl, g⟩, fun g => ?_⟩
  rcases g with g | ⟨g, -⟩ | ⟨g, -⟩
  · exact g.2
  · exact absurd g (by decide)
  · exact absurd g (by decide)
theorem mayC_12 {a v : Int32} (h : a = nI 1 ∨ a = nI 2) : (nI 0 ≤ v ∧ v ≤ nI 15) ↔ mayC a v := by
  refine ⟨fun g => Or.inr (Or.inl ⟨h, g⟩), fun g => ?_⟩
  rcases g with ⟨rfl, -⟩ | g | ⟨g, -⟩
  · exact absurd h (by decide)
  · exact g.2
  · rcases h with rfl | rfl <;> exact absurd g (by decide)
theorem mayC_e {a v : Int32} (h0 : ¬ a = 0) (h1 : ¬ a = nI 1) (h2 : ¬ a = nI 2) : mayC a v ↔ ((nI 3 ≤ a ∧ a ≤ nI 6) ∧ (nI 0 ≤ v ∧ v ≤ nI 9)) := by
  refine ⟨fun g => ?_, fun g => Or.inr (Or.inr g)⟩
  rcases g with ⟨g, -⟩ | ⟨g, -⟩ | g
  · exact absurd g h0
  · rcases g with g | g
    · exact absurd g h1
    · exact absurd g h2
  · exact g
theorem ts_ne {a : Int32} (h : a.toInt < 0 ∨ 2 < a.toInt) : ¬ a = 0 ∧ ¬ a = nI 1 ∧ ¬ a = nI 2 := by
  refine ⟨fun e => ?_, fun e => ?_, fun e => ?_⟩ <;> subst e <;> exact absurd h (by decide)
theorem mayC_f {a v : Int32} (h : mayC a v) : ∃ f, f < 7 ∧ a = nI f := by
  rcases h with ⟨rfl, -⟩ | ⟨rfl | rfl, -⟩ | ⟨g, -⟩
  · exact ⟨0, by decide, rfl⟩
  · exact ⟨1, by decide, rfl⟩
  · exact ⟨2, by decide, rfl⟩
  · obtain ⟨k, hk, e⟩ := bt_k (by decide) (by decide) g
    exact ⟨k, by omega, e⟩
section EK
variable {X : mSc} {Q : Option Value → mHp → Prop} {M : mM} {nt np : Nat} {r : Nat → Int32}
theorem Tc.tm {q : Nat → Int32} {N : mM} (h : Tc 1 nt np q M N) : Tm nt np q M N := h.1.tm h.2.1 (fun a ha => h.2.2 a (by omega))
theorem g27 {a1 a2 : Int32} : mT X 27 [.int a1, .int a2] (con M) (some (.int (bI (mayC a1 a2)))) (con M) := by
  refine mT.of (row := _) rfl (Nat.le_of_ble_eq_true rfl) ?_
  have hm : mMet 27 = some _ := rfl
  refine x_iload_n hm rfl rfl ?_
  refine x_ts hm rfl (fun h1 => ⟨44, rfl, ?_⟩) (fun i1 h1 g1 => ?_)
  · refine x_iload_n hm rfl rfl ?_
    refine x_iconst hm rfl (v := nI 3) (by decide) ?_
    refine x_bipush hm rfl (v := nI 6) (by decide) ?_
    refine x_callS hm rfl rfl (t6) ?_
    refine x_if_eq hm rfl (t := 68) rfl (fun h2 => ?_) (fun h2 => ?_)
    · have hv : nI 0 = bI (mayC a1 a2) := bI_f fun q => bI_eq0.mp h2 ((mayC_e (ts_ne h1).1 (ts_ne h1).2.1 (ts_ne h1).2.2).mp q).1
      refine x_iconst hm rfl (v := nI 0) (by decide) ?_
      refine x_iret hm rfl rfl (by first | rfl | exact bI_nar | decide) ?_
      exact qt (congrArg Value.int hv)
    · have h36 := bI_ne0 h2
      refine x_iload_n hm rfl rfl ?_
      refine x_iconst hm rfl (v := nI 0) (by decide) ?_
      refine x_bipush hm rfl (v := nI 9) (by decide) ?_
      refine x_callS hm rfl rfl (t6) ?_
      refine x_if_eq hm rfl (t := 68) rfl (fun h3 => ?_) (fun h3 => ?_)
      · have hv : nI 0 = bI (mayC a1 a2) := bI_f fun q => bI_eq0.mp h3 ((mayC_e (ts_ne h1).1 (ts_ne h1).2.1 (ts_ne h1).2.2).mp q).2
        refine x_iconst hm rfl (v := nI 0) (by decide) ?_
        refine x_iret hm rfl rfl (by first | rfl | exact bI_nar | decide) ?_
        exact qt (congrArg Value.int hv)
      · have hv : nI 1 = bI (mayC a1 a2) := bI_t ((mayC_e (ts_ne h1).1 (ts_ne h1).2.1 (ts_ne h1).2.2).mpr ⟨h36, bI_ne0 h3⟩)
        refine x_iconst hm rfl (v := nI 1) (by decide) ?_
        refine x_goto hm rfl (t := 69) rfl ?_
        refine x_iret hm rfl rfl (by first | rfl | exact bI_nar | decide) ?_
        exact qt (congrArg Value.int hv)
  · have k1 : i1 = 0 ∨ i1 = 1 ∨ i1 = 2 := by omega
    rcases k1 with rfl | rfl | rfl
    · refine ⟨_, 28, rfl, rfl, ?_⟩
      refine x_iload_n hm rfl rfl ?_
      refine x_iconst hm rfl (v := nI 0) (by decide) ?_
      refine x_bipush hm rfl (v := nI 6) (by decide) ?_
      refine x_callS hm rfl rfl (t6) ?_
      refine x_iret hm rfl rfl (by first | rfl | exact bI_nar | decide) ?_
      exact qt (congrArg Value.int (bIc (mayC_0 ((tn h1 (by decide)).trans (by decide)))))
    · refine ⟨_, 36, rfl, rfl, ?_⟩
      refine x_iload_n hm rfl rfl ?_
      refine x_iconst hm rfl (v := nI 0) (by decide) ?_
      refine x_bipush hm rfl (v := nI 15) (by decide) ?_
      refine x_callS hm rfl rfl (t6) ?_
      refine x_iret hm rfl rfl (by first | rfl | exact bI_nar | decide) ?_
      first
        | exact qt (congrArg Value.int (bIc (mayC_12 (Or.inl (tn h1 (by decide))))))
        | exact qt (congrArg Value.int (bIc (mayC_12 (Or.inr (tn h1 (by decide))))))
    · refine ⟨_, 36, rfl, rfl, ?_⟩
      refine x_iload_n hm rfl rfl ?_
      refine x_iconst hm rfl (v := nI 0) (by decide) ?_
      refine x_bipush hm rfl (v := nI 15) (by decide) ?_
      refine x_callS hm rfl rfl (t6) ?_
      refine x_iret hm rfl rfl (by first | rfl | exact bI_nar | decide) ?_
      first
        | exact qt (congrArg Value.int (bIc (mayC_12 (Or.inl (tn h1 (by decide))))))
        | exact qt (congrArg Value.int (bIc (mayC_12 (Or.inr (tn h1 (by decide))))))
theorem g26 {a1 a2 a3 : Int32} (hR : Rel 1 nt np M r) (hn8 : nt ≤ 8) (hp8 : np ≤ 8) : ∃ v M', mT X 26 [.ref 0, .int a1, .int a2, .int a3] (con M) (some (.int v)) (con M') ∧ Tq (fChange nt np r a1 a2 a3) v M M' := by
  refine ti_of (row := _) rfl (Nat.le_of_ble_eq_true rfl) ?_
  have hm : mMet 26 = some _ := rfl
  refine x_aload_n hm rfl rfl ?_
  refine x_getf hm rfl (gR rfl rfl) ?_
  refine x_iload_n hm rfl rfl ?_
  refine x_callV hm rfl rfl (t19 (by decide)) ?_
  rw [hR.2.1]
  refine x_if_eq hm rfl (t := 19) rfl (fun h1 => ?_) (fun h1 => ?_)
  · refine x_aload_n hm rfl rfl ?_
    refine x_ldcI hm rfl (v := (-1000001 : Int32)) (by decide +kernel) ?_
    refine x_cVi hm rfl rfl (t7 (by decide +kernel)) (fun v2 M2 r2 => ?_)
    refine x_iret hm rfl rfl (by first | rfl | exact bI_nar | decide) ?_
    first
      | (have hq : fChange nt np r a1 a2 a3 = (-1000001, nt, np, r) := by
           unfold fChange
           rw [if_pos (by assumption)]
         exact ⟨_, _, rfl, rfl, by rw [hq]; exact ⟨r2.1, hR.bq r2.2⟩⟩)
      | (have hq : fChange nt np r (nI p) a2 a3 = (-1000001, nt, np, r) := by
           unfold fChange
           rw [if_neg (by assumption), if_pos (by assumption)]
         exact ⟨_, _, rfl, rfl, by rw [hq]; exact ⟨r2.1, hR.bq r2.2⟩⟩)
      | (have hq : fChange nt np r a1 a2 a3 = (-1000001, nt, np, r) := by
           unfold fChange
           rw [if_pos (by assumption)]
         exact ⟨_, _, rfl, rfl, by rw [hq]; exact ⟨r1.1, hR.bq r1.2⟩⟩)
      | (have hq : fChange nt np r a1 a2 a3 = (-1000001, nt, np, r) := by
           unfold fChange
           rw [if_pos (by assumption)]
         exact ⟨_, _, rfl, rfl, by rw [hq]; exact ⟨r3.1, hR.bq r3.2⟩⟩)
      | (have hq : fChange nt np r a1 a2 a3 = (-1000001, nt, np, r) := by
           unfold fChange
           rw [if_pos (by assumption)]
         exact ⟨_, _, rfl, rfl, by rw [hq]; exact ⟨r4.1, hR.bq r4.2⟩⟩)
      | (have hq : fChange nt np r a1 a2 a3 = (-1000001, nt, np, r) := by
           unfold fChange
           rw [if_pos (by assumption)]
         exact ⟨_, _, rfl, rfl, by rw [hq]; exact ⟨r5.1, hR.bq r5.2⟩⟩)
      | (have hq : fChange nt np r a1 a2 a3 = (-1000001, nt, np, r) := by
           unfold fChange
           rw [if_pos (by assumption)]
         exact ⟨_, _, rfl, rfl, by rw [hq]; exact ⟨r6.1, hR.bq r6.2⟩⟩)
      | (have hq : fChange nt np r a1 a2 a3 = (-1000001, nt, np, r) := by
           unfold fChange
           rw [if_pos (by assumption)]
         exact ⟨_, _, rfl, rfl, by rw [hq]; exact ⟨r7.1, hR.bq r7.2⟩⟩)
      | (have hq : fChange nt np r a1 a2 a3 = (-1000001, nt, np, r) := by
           unfold fChange
           rw [if_pos (by assumption)]
         exact ⟨_, _, rfl, rfl, by rw [hq]; exact ⟨r8.1, hR.bq r8.2⟩⟩)
      | (have hq : fChange nt np r (nI p) a2 a3 = (-1000001, nt, np, r) := by
           unfold fChange
           rw [if_neg (by assumption), if_pos (by assumption)]
         exact ⟨_, _, rfl, rfl, by rw [hq]; exact ⟨r1.1, hR.bq r1.2⟩⟩)
      | (have hq : fChange nt np r (nI p) a2 a3 = (-1000001, nt, np, r) := by
           unfold fChange
           rw [if_neg (by assumption), if_pos (by assumption)]
         exact ⟨_, _, rfl, rfl, by rw [hq]; exact ⟨r3.1, hR.bq r3.2⟩⟩)
      | (have hq : fChange nt np r (nI p) a2 a3 = (-1000001, nt, np, r) := by
           unfold fChange
           rw [if_neg (by assumption), if_pos (by assumption)]
         exact ⟨_, _, rfl, rfl, by rw [hq]; exact ⟨r4.1, hR.bq r4.2⟩⟩)
      | (have hq : fChange nt np r (nI p) a2 a3 = (-1000001, nt, np, r) := by
           unfold fChange
           rw [if_neg (by assumption), if_pos (by assumption)]
         exact ⟨_, _, rfl, rfl, by rw [hq]; exact ⟨r5.1, hR.bq r5.2⟩⟩)
      | (have hq : fChange nt np r (nI p) a2 a3 = (-1000001, nt, np, r) := by
           unfold fChange
           rw [if_neg (by assumption), if_pos (by assumption)]
         exact ⟨_, _, rfl, rfl, by rw [hq]; exact ⟨r6.1, hR.bq r6.2⟩⟩)
      | (have hq : fChange nt np r (nI p) a2 a3 = (-1000001, nt, np, r) := by
           unfold fChange
           rw [if_neg (by assumption), if_pos (by assumption)]
         exact ⟨_, _, rfl, rfl, by rw [hq]; exact ⟨r7.1, hR.bq r7.2⟩⟩)
      | (have hq : fChange nt np r (nI p) a2 a3 = (-1000001, nt, np, r) := by
           unfold fChange
           rw [if_neg (by assumption), if_pos (by assumption)]
         exact ⟨_, _, rfl, rfl, by rw [hq]; exact ⟨r8.1, hR.bq r8.2⟩⟩)
  · obtain ⟨p, hp, rfl⟩ := in_k rfl (by omega) (bI_ne0 h1)
    refine x_iload_n hm rfl rfl ?_
    refine x_iload_n hm rfl rfl ?_
    refine x_callS hm rfl rfl (g27) ?_
    refine x_if_ne hm rfl (t := 26) rfl (fun h3 => ?_) (fun h3 => ?_)
    · obtain ⟨f, hf, rfl⟩ := mayC_f (bI_ne0 h3)
      refine x_aload_n hm rfl rfl ?_
      refine x_getf hm rfl (gR rfl rfl) ?_
      refine x_getf hm rfl (gR rfl rfl) ?_
      refine x_iload_n hm rfl rfl ?_
      refine x_aald hm rfl (lQ 3 (Or.inr (Or.inl rfl)) (tF (b := 1) (by decide)) (tFk (by omega)) (by omega) (by decide)) ?_
      refine x_iload_n hm rfl rfl ?_
      refine x_iald hm rfl (lI (tRowF (b := 1) (by decide) (by omega)) (by omega) (by decide)) ?_
      refine x_istore hm rfl rfl ?_
      refine x_aload_n hm rfl rfl ?_
      refine x_getf hm rfl (gR rfl rfl) ?_
      refine x_getf hm rfl (gR rfl rfl) ?_
      refine x_iload_n hm rfl rfl ?_
      refine x_aald hm rfl (lQ 3 (Or.inr (Or.inl rfl)) (tF (b := 1) (by decide)) (tFk (by omega)) (by omega) (by decide)) ?_
      refine x_iload_n hm rfl rfl ?_
      refine x_iload_n hm rfl rfl ?_
      refine x_iast hm rfl (sI (tRowF (b := 1) (by decide) (by omega)) (by omega) (by decide)) ?_
      refine x_iload hm rfl rfl ?_
      refine x_iret hm rfl rfl (by first | rfl | exact bI_nar | decide) ?_
      have hq : fChange nt np r (nI p) (nI f) a3 = (r (62 + 7 * p + f), nt, np, put1 r (62 + 7 * p + f) a3) := by
        unfold fChange
        rw [if_neg (by assumption), if_neg (by assumption)]
        rw [jI_nat (k := p) (by omega)]
        rw [jI_nat (k := f) (by omega)]
      exact ⟨_, _, rfl, rfl, by rw [hq]; exact ⟨hR.folk hf hp, (hR.pf hn8 hf hp).tm (mpn (by omega)) (fun a ha => mpo (by omega))⟩⟩
    · refine x_aload_n hm rfl rfl ?_
      refine x_ldcI hm rfl (v := (-1000001 : Int32)) (by decide +kernel) ?_
      refine x_cVi hm rfl rfl (t7 (by decide +kernel)) (fun v4 M4 r4 => ?_)
      refine x_iret hm rfl rfl (by first | rfl | exact bI_nar | decide) ?_
      first
        | (have hq : fChange nt np r a1 a2 a3 = (-1000001, nt, np, r) := by
             unfold fChange
             rw [if_pos (by assumption)]
           exact ⟨_, _, rfl, rfl, by rw [hq]; exact ⟨r4.1, hR.bq r4.2⟩⟩)
        | (have hq : fChange nt np r (nI p) a2 a3 = (-1000001, nt, np, r) := by
             unfold fChange
             rw [if_neg (by assumption), if_pos (by assumption)]
           exact ⟨_, _, rfl, rfl, by rw [hq]; exact ⟨r4.1, hR.bq r4.2⟩⟩)
        | (have hq : fChange nt np r a1 a2 a3 = (-1000001, nt, np, r) := by
             unfold fChange
             rw [if_pos (by assumption)]
           exact ⟨_, _, rfl, rfl, by rw [hq]; exact ⟨r1.1, hR.bq r1.2⟩⟩)
        | (have hq : fChange nt np r a1 a2 a3 = (-1000001, nt, np, r) := by
             unfold fChange
             rw [if_pos (by assumption)]
           exact ⟨_, _, rfl, rfl, by rw [hq]; exact ⟨r2.1, hR.bq r2.2⟩⟩)
        | (have hq : fChange nt np r a1 a2 a3 = (-1000001, nt, np, r) := by
             unfold fChange
             rw [if_pos (by assumption)]
           exact ⟨_, _, rfl, rfl, by rw [hq]; exact ⟨r3.1, hR.bq r3.2⟩⟩)
        | (have hq : fChange nt np r a1 a2 a3 = (-1000001, nt, np, r) := by
             unfold fChange
             rw [if_pos (by assumption)]
           exact ⟨_, _, rfl, rfl, by rw [hq]; exact ⟨r5.1, hR.bq r5.2⟩⟩)
        | (have hq : fChange nt np r a1 a2 a3 = (-1000001, nt, np, r) := by
             unfold fChange
             rw [if_pos (by assumption)]
           exact ⟨_, _, rfl, rfl, by rw [hq]; exact ⟨r6.1, hR.bq r6.2⟩⟩)
        | (have hq : fChange nt np r a1 a2 a3 = (-1000001, nt, np, r) := by
             unfold fChange
             rw [if_pos (by assumption)]
           exact ⟨_, _, rfl, rfl, by rw [hq]; exact ⟨r7.1, hR.bq r7.2⟩⟩)
        | (have hq : fChange nt np r a1 a2 a3 = (-1000001, nt, np, r) := by
             unfold fChange
             rw [if_pos (by assumption)]
           exact ⟨_, _, rfl, rfl, by rw [hq]; exact ⟨r8.1, hR.bq r8.2⟩⟩)
        | (have hq : fChange nt np r (nI p) a2 a3 = (-1000001, nt, np, r) := by
             unfold fChange
             rw [if_neg (by assumption), if_pos (by assumption)]
           exact ⟨_, _, rfl, rfl, by rw [hq]; exact ⟨r1.1, hR.bq r1.2⟩⟩)
        | (have hq : fChange nt np r (nI p) a2 a3 = (-1000001, nt, np, r) := by
             unfold fChange
             rw [if_neg (by assumption), if_pos (by assumption)]
           exact ⟨_, _, rfl, rfl, by rw [hq]; exact ⟨r2.1, hR.bq r2.2⟩⟩)
        | (have hq : fChange nt np r (nI p) a2 a3 = (-1000001, nt, np, r) := by
             unfold fChange
             rw [if_neg (by assumption), if_pos (by assumption)]
           exact ⟨_, _, rfl, rfl, by rw [hq]; exact ⟨r3.1, hR.bq r3.2⟩⟩)
        | (have hq : fChange nt np r (nI p) a2 a3 = (-1000001, nt, np, r) := by
             unfold fChange
             rw [if_neg (by assumption), if_pos (by assumption)]
           exact ⟨_, _, rfl, rfl, by rw [hq]; exact ⟨r5.1, hR.bq r5.2⟩⟩)
        | (have hq : fChange nt np r (nI p) a2 a3 = (-1000001, nt, np, r) := by
             unfold fChange
             rw [if_neg (by assumption), if_pos (by assumption)]
           exact ⟨_, _, rfl, rfl, by rw [hq]; exact ⟨r6.1, hR.bq r6.2⟩⟩)
        | (have hq : fChange nt np r (nI p) a2 a3 = (-1000001, nt, np, r) := by
             unfold fChange
             rw [if_neg (by assumption), if_pos (by assumption)]
           exact ⟨_, _, rfl, rfl, by rw [hq]; exact ⟨r7.1, hR.bq r7.2⟩⟩)
        | (have hq : fChange nt np r (nI p) a2 a3 = (-1000001, nt, np, r) := by
             unfold fChange
             rw [if_neg (by assumption), if_pos (by assumption)]
           exact ⟨_, _, rfl, rfl, by rw [hq]; exact ⟨r8.1, hR.bq r8.2⟩⟩)
theorem g161 {a1 a2 a3 : Int32} (h67 : M 67 = r) (hnt : M 67 1 = nI nt) (hn8 : nt ≤ 8) (hnp : M 67 2 = nI np) (hp8 : np ≤ 8) : ∃ v M', mT X 161 [.ref 66, .int a1, .int a2, .int a3] (con M) (some (.int v)) (con M') ∧ Uq (fChange nt np r a1 a2 a3) v M M' := by
  refine ti_of (row := _) rfl (Nat.le_of_ble_eq_true rfl) ?_
  have hm : mMet 161 = some _ := rfl
  have J52 : ∀ (v4 : Int32) (hv : v4 = bI (mayC a2 a3)), mEv X (QI (fun v M' => Uq (fChange nt np r a1 a2 a3) v M M')) 161 52 [some (.ref 66), some (.int a1), some (.int a2), some (.int a3), some (.int v4)] [] (con M) := by
    intro v4 hv
    refine x_aload_n hm rfl rfl ?_
    refine x_iload_n hm rfl rfl ?_
    refine x_callV hm rfl rfl (t153) ?_
    rw [hnp]
    refine x_if_eq hm rfl (t := 78) rfl (fun h1 => ?_) (fun h1 => ?_)
    · refine x_aload_n hm rfl rfl ?_
      refine x_ldcI hm rfl (v := (-1000001 : Int32)) (by decide +kernel) ?_
      refine x_callV hm rfl rfl (e135 (by decide +kernel)) ?_
      refine x_iret hm rfl rfl (by first | rfl | exact bI_nar | decide) ?_
      first
        | (have hq : fChange nt np r a1 a2 a3 = (-1000001, nt, np, r) := by
             unfold fChange
             rw [if_pos (by assumption)]
           exact ⟨_, _, rfl, rfl, by rw [hq]; exact ⟨rfl, fnd_rm h67⟩⟩)
        | (have hq : fChange nt np r (nI p) a2 a3 = (-1000001, nt, np, r) := by
             unfold fChange
             rw [if_neg (by assumption), if_pos (by assumption)]
           exact ⟨_, _, rfl, rfl, by rw [hq]; exact ⟨rfl, fnd_rm h67⟩⟩)
        | (have hq : fChange nt np r (nI p) (nI f) a3 = (r (62 + 7 * p + f), nt, np, put1 r (62 + 7 * p + f) a3) := by
             unfold fChange
             rw [if_neg (by assumption), if_neg (by assumption)]
             rw [jI_nat (k := p) (by omega)]
             rw [jI_nat (k := f) (by omega)]
           exact ⟨_, _, rfl, rfl, by rw [hq]; exact ⟨congrFun h67 _, by rw [← h67]; exact mput67, fun a h _ _ _ => mpo h⟩⟩)
    · obtain ⟨p, hp, rfl⟩ := in_k rfl (by omega) (bI_ne0 h1)
      refine x_iload hm rfl rfl ?_
      rw [hv]
      refine x_if_eq hm rfl (t := 78) rfl (fun h2 => ?_) (fun h2 => ?_)
      · refine x_aload_n hm rfl rfl ?_
        refine x_ldcI hm rfl (v := (-1000001 : Int32)) (by decide +kernel) ?_
        refine x_callV hm rfl rfl (e135 (by decide +kernel)) ?_
        refine x_iret hm rfl rfl (by first | rfl | exact bI_nar | decide) ?_
        first
          | (have hq : fChange nt np r a1 a2 a3 = (-1000001, nt, np, r) := by
               unfold fChange
               rw [if_pos (by assumption)]
             exact ⟨_, _, rfl, rfl, by rw [hq]; exact ⟨rfl, fnd_rm h67⟩⟩)
          | (have hq : fChange nt np r (nI p) a2 a3 = (-1000001, nt, np, r) := by
               unfold fChange
               rw [if_neg (by assumption), if_pos (by assumption)]
             exact ⟨_, _, rfl, rfl, by rw [hq]; exact ⟨rfl, fnd_rm h67⟩⟩)
          | (have hq : fChange nt np r (nI p) (nI f) a3 = (r (62 + 7 * p + f), nt, np, put1 r (62 + 7 * p + f) a3) := by
               unfold fChange
               rw [if_neg (by assumption), if_neg (by assumption)]
               rw [jI_nat (k := p) (by omega)]
               rw [jI_nat (k := f) (by omega)]
             exact ⟨_, _, rfl, rfl, by rw [hq]; exact ⟨congrFun h67 _, by rw [← h67]; exact mput67, fun a h _ _ _ => mpo h⟩⟩)
      · obtain ⟨f, hf, rfl⟩ := mayC_f (bI_ne0 h2)
        refine x_aload_n hm rfl rfl ?_
        refine x_iload_n hm rfl rfl ?_
        refine x_iload_n hm rfl rfl ?_
        refine x_callS hm rfl rfl (t142) ?_
        refine x_iload_n hm rfl rfl ?_
        refine x_callV hm rfl rfl (t155 (by omega)) ?_
        refine x_goto hm rfl (t := 84) rfl ?_
        refine x_iret hm rfl rfl (by first | rfl | exact bI_nar | decide) ?_
        first
          | (have hq : fChange nt np r a1 a2 a3 = (-1000001, nt, np, r) := by
               unfold fChange
               rw [if_pos (by assumption)]
             exact ⟨_, _, rfl, rfl, by rw [hq]; exact ⟨rfl, fnd_rm h67⟩⟩)
          | (have hq : fChange nt np r (nI p) a2 a3 = (-1000001, nt, np, r) := by
               unfold fChange
               rw [if_neg (by assumption), if_pos (by assumption)]
             exact ⟨_, _, rfl, rfl, by rw [hq]; exact ⟨rfl, fnd_rm h67⟩⟩)
          | (have hq : fChange nt np r (nI p) (nI f) a3 = (r (62 + 7 * p + f), nt, np, put1 r (62 + 7 * p + f) a3) := by
               unfold fChange
               rw [if_neg (by assumption), if_neg (by assumption)]
               rw [jI_nat (k := p) (by omega)]
               rw [jI_nat (k := f) (by omega)]
             exact ⟨_, _, rfl, rfl, by rw [hq]; exact ⟨congrFun h67 _, by rw [← h67]; exact mput67, fun a h _ _ _ => mpo h⟩⟩)
  refine x_iload_n hm rfl rfl ?_
  refine x_if_ne hm rfl (t := 11) rfl (fun h3 => ?_) (fun h3 => ?_)
  · have n0 := h3
    refine x_iload_n hm rfl rfl ?_
    refine x_iconst hm rfl (v := nI 1) (by decide) ?_
    refine x_icmp_eq hm rfl (t := 21) rfl (fun h4 => ?_) (fun h4 => ?_)
    · have hv : bI (nI 0 ≤ a3 ∧ a3 ≤ nI 15) = bI (mayC a2 a3) := bIc (mayC_12 (Or.inl h4))
      refine x_iload_n hm rfl rfl ?_
      refine x_callS hm rfl rfl (t134) ?_
      refine x_goto hm rfl (t := 50) rfl ?_
      refine x_istore hm rfl rfl ?_
      exact J52 _ hv
    · have n1 := h4
      refine x_iload_n hm rfl rfl ?_
      refine x_iconst hm rfl (v := nI 2) (by decide) ?_
      refine x_icmp_ne hm rfl (t := 28) rfl (fun h5 => ?_) (fun h5 => ?_)
      · have n2 := h5
        refine x_iload_n hm rfl rfl ?_
        refine x_iconst hm rfl (v := nI 3) (by decide) ?_
        refine x_bipush hm rfl (v := nI 6) (by decide) ?_
        refine x_callS hm rfl rfl (t133) ?_
        refine x_if_eq hm rfl (t := 49) rfl (fun h6 => ?_) (fun h6 => ?_)
        · have hv : nI 0 = bI (mayC a2 a3) := bI_f fun q => bI_eq0.mp h6 ((mayC_e n0 n1 n2).mp q).1
          refine x_iconst hm rfl (v := nI 0) (by decide) ?_
          refine x_istore hm rfl rfl ?_
          exact J52 _ hv
        · have h36 := bI_ne0 h6
          refine x_iload_n hm rfl rfl ?_
          refine x_callS hm rfl rfl (t152) ?_
          refine x_if_eq hm rfl (t := 49) rfl (fun h7 => ?_) (fun h7 => ?_)
          · have hv : nI 0 = bI (mayC a2 a3) := bI_f fun q => bI_eq0.mp h7 ((mayC_e n0 n1 n2).mp q).2
            refine x_iconst hm rfl (v := nI 0) (by decide) ?_
            refine x_istore hm rfl rfl ?_
            exact J52 _ hv
          · have hv : nI 1 = bI (mayC a2 a3) := bI_t ((mayC_e n0 n1 n2).mpr ⟨h36, bI_ne0 h7⟩)
            refine x_iconst hm rfl (v := nI 1) (by decide) ?_
            refine x_goto hm rfl (t := 50) rfl ?_
            refine x_istore hm rfl rfl ?_
            exact J52 _ hv
      · have hv : bI (nI 0 ≤ a3 ∧ a3 ≤ nI 15) = bI (mayC a2 a3) := bIc (mayC_12 (Or.inr h5))
        refine x_iload_n hm rfl rfl ?_
        refine x_callS hm rfl rfl (t134) ?_
        refine x_goto hm rfl (t := 50) rfl ?_
        refine x_istore hm rfl rfl ?_
        exact J52 _ hv
  · have hv : bI (nI 0 ≤ a3 ∧ a3 ≤ nI 6) = bI (mayC a2 a3) := bIc (mayC_0 h3)
    refine x_iload_n hm rfl rfl ?_
    refine x_callS hm rfl rfl (t157) ?_
    refine x_goto hm rfl (t := 50) rfl ?_
    refine x_istore hm rfl rfl ?_
    exact J52 _ hv
theorem g36 {s : Nat} (hs : s < 256) : mT X 36 [.int (nI s)] (con M) (some (.int (sBits 256 (nI 0) (nI s)))) (con M) := by
  refine mT.of (row := _) rfl (Nat.le_of_ble_eq_true rfl) ?_
  have hm : mMet 36 = some _ := rfl
  refine x_iload_n hm rfl rfl ?_
  refine x_iload_n hm rfl rfl ?_
  refine x_iconst hm rfl (v := nI 1) (by decide) ?_
  refine x_iushr hm rfl ?_
  refine x_ldc_wI hm rfl (v := nI 1431655765) (by decide) ?_
  refine x_iand hm rfl ?_
  refine x_isub hm rfl ?_
  refine x_istore_n hm rfl rfl ?_
  refine x_iload_n hm rfl rfl ?_
  refine x_ldc_wI hm rfl (v := nI 858993459) (by decide) ?_
  refine x_iand hm rfl ?_
  refine x_iload_n hm rfl rfl ?_
  refine x_iconst hm rfl (v := nI 2) (by decide) ?_
  refine x_iushr hm rfl ?_
  refine x_ldc_wI hm rfl (v := nI 858993459) (by decide) ?_
  refine x_iand hm rfl ?_
  refine x_iadd hm rfl ?_
  refine x_istore_n hm rfl rfl ?_
  refine x_iload_n hm rfl rfl ?_
  refine x_iload_n hm rfl rfl ?_
  refine x_iconst hm rfl (v := nI 4) (by decide) ?_
  refine x_iushr hm rfl ?_
  refine x_iadd hm rfl ?_
  refine x_ldc_wI hm rfl (v := nI 252645135) (by decide) ?_
  refine x_iand hm rfl ?_
  refine x_istore_n hm rfl rfl ?_
  refine x_iload_n hm rfl rfl ?_
  refine x_iload_n hm rfl rfl ?_
  refine x_bipush hm rfl (v := nI 8) (by decide) ?_
  refine x_iushr hm rfl ?_
  refine x_iadd hm rfl ?_
  refine x_istore_n hm rfl rfl ?_
  refine x_iload_n hm rfl rfl ?_
  refine x_iload_n hm rfl rfl ?_
  refine x_bipush hm rfl (v := nI 16) (by decide) ?_
  refine x_iushr hm rfl ?_
  refine x_iadd hm rfl ?_
  refine x_istore_n hm rfl rfl ?_
  refine x_iload_n hm rfl rfl ?_
  refine x_bipush hm rfl (v := nI 63) (by decide) ?_
  refine x_iand hm rfl ?_
  refine x_iret hm rfl rfl (by first | rfl | exact bI_nar | decide) ?_
  exact qt (congrArg Value.int (bcn_eq s hs))
theorem m168 {a1 : Int32} : ∀ (n k : Nat) (s : Int32), k < n → k < 256 → ∀ f, k < f → mEv X (fun r D => r = some (.int (sBits f s (nI k))) ∧ D = con M) 168 4 [some (.int a1), some (.int s), some (.int (nI k))] [] (con M) := by
  have hm : mMet 168 = some _ := rfl
  intro n
  induction n with
  | zero =>
    intro k s hkn hk f hf
    omega
  | succ n ih =>
    intro k s hkn hk f hf
    obtain ⟨f, rfl⟩ : ∃ g, f = g + 1 := ⟨f - 1, by omega⟩
    obtain ⟨g1, g2, g3⟩ := bits_le k hk
    refine x_iload_n hm rfl rfl ?_
    refine x_if_eq hm rfl (t := 20) rfl (fun h1 => ?_) (fun h1 => ?_)
    · have hq : sBits (f + 1) s (nI k) = s := if_pos h1
      refine x_iload_n hm rfl rfl ?_
      refine x_iret hm rfl rfl (by first | rfl | exact bI_nar | decide) ?_
      exact ⟨by rw [hq], rfl⟩
    · have h0 : ¬ k = 0 := fun e => h1 (by rw [e]; rfl)
      have hq : sBits (f + 1) s (nI k) = sBits f (s + nI 1) (nI k &&& (nI k - nI 1)) := if_neg h1
      refine x_iinc hm rfl rfl (v := nI 1) (by decide) rfl ?_
      refine x_iload_n hm rfl rfl ?_
      refine x_iload_n hm rfl rfl ?_
      refine x_iconst hm rfl (v := nI 1) (by decide) ?_
      refine x_isub hm rfl ?_
      refine x_iand hm rfl ?_
      refine x_istore_n hm rfl rfl ?_
      refine x_goto hm rfl (t := 4) rfl ?_
      rw [hq, ← g2]
      exact ih _ _ (by have := g3 h0; omega) g1 f (by have := g3 h0; omega)
theorem g168 {s : Nat} (hs : s < 256) : mT X 168 [.int (nI s)] (con M) (some (.int (sBits 256 (nI 0) (nI s)))) (con M) := by
  refine mT.of (row := _) rfl (Nat.le_of_ble_eq_true rfl) ?_
  have hm : mMet 168 = some _ := rfl
  refine x_iconst hm rfl (v := nI 0) (by decide) ?_
  refine x_istore_n hm rfl rfl ?_
  refine x_iload_n hm rfl rfl ?_
  refine x_istore_n hm rfl rfl ?_
  exact m168 _ s _ (Nat.lt_succ_self _) hs 256 hs
theorem g29 {a1 : Int32} (hR : Rel 1 nt np M r) (hn8 : nt ≤ 8) (hp8 : np ≤ 8) (hV : Vs nt np r) (hc : M 1 7 = -1) : ∃ v M', mT X 29 [.ref 0, .int a1] (con M) (some (.int v)) (con M') ∧ Tq (fGo nt np r a1) v M M' := by
  refine ti_of (row := _) rfl (Nat.le_of_ble_eq_true rfl) ?_
  have hm : mMet 29 = some _ := rfl
  refine x_iload_n hm rfl rfl ?_
  refine x_iconst hm rfl (v := nI 1) (by decide) ?_
  refine x_bipush hm rfl (v := nI 60) (by decide) ?_
  refine x_callS hm rfl rfl (t6) ?_
  refine x_if_ne hm rfl (t := 17) rfl (fun h1 => ?_) (fun h1 => ?_)
  · obtain ⟨a, ha, ha1, rfl⟩ := le1_k (by omega) (bI_ne0 h1)
    refine x_aload_n hm rfl rfl ?_
    refine x_getf hm rfl (gR rfl rfl) ?_
    refine x_getf hm rfl (gI rfl rfl) ?_
    rw [hR.2.2.1]
    refine x_iload_n hm rfl rfl ?_
    refine x_iadd hm rfl ?_
    refine x_ldcI hm rfl (v := nI 99999) (by decide +kernel) ?_
    refine x_icmp_le hm rfl (t := 38) rfl (fun h2 => ?_) (fun h2 => ?_)
    · have hng : ¬ nI 99999 < r 0 + nI a := Int32.not_lt.mpr h2
      refine x_aload_n hm rfl rfl ?_
      refine x_getf hm rfl (gR rfl rfl) ?_
      refine x_iload_n hm rfl rfl ?_
      refine x_cVv hm rfl rfl (e30 (by decide) hR hV (by omega)) (fun M3 r3 => ?_)
      rw [hc] at r3
      refine x_aload_n hm rfl rfl ?_
      refine x_getf hm rfl (gR rfl rfl) ?_
      refine x_callV hm rfl rfl (e35 (by decide) r3.1 (hV.days _)) ?_
      obtain ⟨g, hg, eg⟩ := sGone_k (sDays (-1) nt np a r) nt hn8
      have hg2 : g < 256 := Nat.lt_of_lt_of_le hg (Nat.pow_le_pow_right (by decide) hn8)
      rw [eg]
      refine x_callS hm rfl rfl (g36 hg2) ?_
      refine x_iret hm rfl rfl (by first | rfl | exact bI_nar | decide) ?_
      have hq : fGo nt np r (nI a) = (sBits 256 (nI 0) (sGone (sDays (-1) nt np a r) nt), nt, np, sDays (-1) nt np a r) := by
        unfold fGo
        rw [if_neg (by assumption), if_neg (by assumption)]
        rw [jI_nat (k := a) (by omega)]
      exact ⟨_, _, rfl, rfl, by rw [hq]; exact ⟨by rw [eg], r3.tm⟩⟩
    · have hps : nI 99999 < r 0 + nI a := Int32.not_le.mp h2
      refine x_aload_n hm rfl rfl ?_
      refine x_ldcI hm rfl (v := (-1000005 : Int32)) (by decide +kernel) ?_
      refine x_cVi hm rfl rfl (t7 (by decide +kernel)) (fun v4 M4 r4 => ?_)
      refine x_iret hm rfl rfl (by first | rfl | exact bI_nar | decide) ?_
      first
        | (have hq : fGo nt np r (nI a) = (-1000005, nt, np, r) := by
             unfold fGo
             rw [if_neg (by assumption), if_pos (by assumption)]
           exact ⟨_, _, rfl, rfl, by rw [hq]; exact ⟨r4.1, hR.bq r4.2⟩⟩)
        | (have hq : fGo nt np r (nI a) = (-1000005, nt, np, r) := by
             unfold fGo
             rw [if_neg (by assumption), if_pos (by assumption)]
           exact ⟨_, _, rfl, rfl, by rw [hq]; exact ⟨r1.1, hR.bq r1.2⟩⟩)
        | (have hq : fGo nt np r (nI a) = (-1000005, nt, np, r) := by
             unfold fGo
             rw [if_neg (by assumption), if_pos (by assumption)]
           exact ⟨_, _, rfl, rfl, by rw [hq]; exact ⟨r2.1, hR.bq r2.2⟩⟩)
        | (have hq : fGo nt np r (nI a) = (-1000005, nt, np, r) := by
             unfold fGo
             rw [if_neg (by assumption), if_pos (by assumption)]
           exact ⟨_, _, rfl, rfl, by rw [hq]; exact ⟨r3.1, hR.bq r3.2⟩⟩)
        | (have hq : fGo nt np r (nI a) = (-1000005, nt, np, r) := by
             unfold fGo
             rw [if_neg (by assumption), if_pos (by assumption)]
           exact ⟨_, _, rfl, rfl, by rw [hq]; exact ⟨r5.1, hR.bq r5.2⟩⟩)
        | (have hq : fGo nt np r (nI a) = (-1000005, nt, np, r) := by
             unfold fGo
             rw [if_neg (by assumption), if_pos (by assumption)]
           exact ⟨_, _, rfl, rfl, by rw [hq]; exact ⟨r6.1, hR.bq r6.2⟩⟩)
        | (have hq : fGo nt np r (nI a) = (-1000005, nt, np, r) := by
             unfold fGo
             rw [if_neg (by assumption), if_pos (by assumption)]
           exact ⟨_, _, rfl, rfl, by rw [hq]; exact ⟨r7.1, hR.bq r7.2⟩⟩)
        | (have hq : fGo nt np r (nI a) = (-1000005, nt, np, r) := by
             unfold fGo
             rw [if_neg (by assumption), if_pos (by assumption)]
           exact ⟨_, _, rfl, rfl, by rw [hq]; exact ⟨r8.1, hR.bq r8.2⟩⟩)
  · refine x_aload_n hm rfl rfl ?_
    refine x_ldcI hm rfl (v := (-1000001 : Int32)) (by decide +kernel) ?_
    refine x_cVi hm rfl rfl (t7 (by decide +kernel)) (fun v5 M5 r5 => ?_)
    refine x_iret hm rfl rfl (by first | rfl | exact bI_nar | decide) ?_
    first
      | (have hq : fGo nt np r a1 = (-1000001, nt, np, r) := by
           unfold fGo
           rw [if_pos (by assumption)]
         exact ⟨_, _, rfl, rfl, by rw [hq]; exact ⟨r5.1, hR.bq r5.2⟩⟩)
      | (have hq : fGo nt np r a1 = (-1000001, nt, np, r) := by
           unfold fGo
           rw [if_pos (by assumption)]
         exact ⟨_, _, rfl, rfl, by rw [hq]; exact ⟨r1.1, hR.bq r1.2⟩⟩)
      | (have hq : fGo nt np r a1 = (-1000001, nt, np, r) := by
           unfold fGo
           rw [if_pos (by assumption)]
         exact ⟨_, _, rfl, rfl, by rw [hq]; exact ⟨r2.1, hR.bq r2.2⟩⟩)
      | (have hq : fGo nt np r a1 = (-1000001, nt, np, r) := by
           unfold fGo
           rw [if_pos (by assumption)]
         exact ⟨_, _, rfl, rfl, by rw [hq]; exact ⟨r3.1, hR.bq r3.2⟩⟩)
      | (have hq : fGo nt np r a1 = (-1000001, nt, np, r) := by
           unfold fGo
           rw [if_pos (by assumption)]
         exact ⟨_, _, rfl, rfl, by rw [hq]; exact ⟨r4.1, hR.bq r4.2⟩⟩)
      | (have hq : fGo nt np r a1 = (-1000001, nt, np, r) := by
           unfold fGo
           rw [if_pos (by assumption)]
         exact ⟨_, _, rfl, rfl, by rw [hq]; exact ⟨r6.1, hR.bq r6.2⟩⟩)
      | (have hq : fGo nt np r a1 = (-1000001, nt, np, r) := by
           unfold fGo
           rw [if_pos (by assumption)]
         exact ⟨_, _, rfl, rfl, by rw [hq]; exact ⟨r7.1, hR.bq r7.2⟩⟩)
      | (have hq : fGo nt np r a1 = (-1000001, nt, np, r) := by
           unfold fGo
           rw [if_pos (by assumption)]
         exact ⟨_, _, rfl, rfl, by rw [hq]; exact ⟨r8.1, hR.bq r8.2⟩⟩)
theorem g163 {a1 : Int32} (h67 : M 67 = r) (hnt : M 67 1 = nI nt) (hn8 : nt ≤ 8) (hnp : M 67 2 = nI np) (hp8 : np ≤ 8) (hW : Wf M) (h6 : M 66 6 = -1) : ∃ v M', mT X 163 [.ref 66, .int a1] (con M) (some (.int v)) (con M') ∧ Uq (fGo nt np r a1) v M M' := by
  refine ti_of (row := _) rfl (Nat.le_of_ble_eq_true rfl) ?_
  have hm : mMet 163 = some _ := rfl
  refine x_iload_n hm rfl rfl ?_
  refine x_iconst hm rfl (v := nI 1) (by decide) ?_
  refine x_bipush hm rfl (v := nI 60) (by decide) ?_
  refine x_callS hm rfl rfl (t133) ?_
  refine x_if_ne hm rfl (t := 17) rfl (fun h1 => ?_) (fun h1 => ?_)
  · obtain ⟨a, ha, ha1, rfl⟩ := le1_k (by omega) (bI_ne0 h1)
    refine x_aload_n hm rfl rfl ?_
    refine x_getf hm rfl (gR rfl rfl) ?_
    refine x_iconst hm rfl (v := nI 0) (by decide) ?_
    refine x_iald hm rfl (lI rfl (by omega) (by decide)) ?_
    rw [h67]
    refine x_iload_n hm rfl rfl ?_
    refine x_iadd hm rfl ?_
    refine x_ldcI hm rfl (v := nI 99999) (by decide +kernel) ?_
    refine x_icmp_le hm rfl (t := 37) rfl (fun h2 => ?_) (fun h2 => ?_)
    · have hng : ¬ nI 99999 < r 0 + nI a := Int32.not_lt.mpr h2
      refine x_aload_n hm rfl rfl ?_
      refine x_iload_n hm rfl rfl ?_
      refine x_cVv hm rfl rfl (e164 hW hnt hn8 hnp hp8 (by omega)) (fun M3 r3 => ?_)
      rw [h6, h67] at r3
      have e67 := r3.2.1
      refine x_aload_n hm rfl rfl ?_
      refine x_callV hm rfl rfl (e167 (r3.1.1.2.1.trans hnt) hn8) ?_
      rw [e67]
      obtain ⟨g, hg, eg⟩ := sGone_k (sDays (-1) nt np a r) nt hn8
      have hg2 : g < 256 := Nat.lt_of_lt_of_le hg (Nat.pow_le_pow_right (by decide) hn8)
      rw [eg]
      refine x_callS hm rfl rfl (g168 hg2) ?_
      refine x_iret hm rfl rfl (by first | rfl | exact bI_nar | decide) ?_
      have hq : fGo nt np r (nI a) = (sBits 256 (nI 0) (sGone (sDays (-1) nt np a r) nt), nt, np, sDays (-1) nt np a r) := by
        unfold fGo
        rw [if_neg (by assumption), if_neg (by assumption)]
        rw [jI_nat (k := a) (by omega)]
      exact ⟨_, _, rfl, rfl, by rw [hq]; exact ⟨by rw [eg], e67, fun a h1 _ _ h4 => r3.2.2 a h1 h4⟩⟩
    · have hps : nI 99999 < r 0 + nI a := Int32.not_le.mp h2
      refine x_aload_n hm rfl rfl ?_
      refine x_ldcI hm rfl (v := (-1000005 : Int32)) (by decide +kernel) ?_
      refine x_callV hm rfl rfl (e135 (by decide +kernel)) ?_
      refine x_iret hm rfl rfl (by first | rfl | exact bI_nar | decide) ?_
      have hq : fGo nt np r (nI a) = (-1000005, nt, np, r) := by
        unfold fGo
        rw [if_neg (by assumption), if_pos (by assumption)]
      exact ⟨_, _, rfl, rfl, by rw [hq]; exact ⟨rfl, fnd_rm h67⟩⟩
  · refine x_aload_n hm rfl rfl ?_
    refine x_ldcI hm rfl (v := (-1000001 : Int32)) (by decide +kernel) ?_
    refine x_callV hm rfl rfl (e135 (by decide +kernel)) ?_
    refine x_iret hm rfl rfl (by first | rfl | exact bI_nar | decide) ?_
    have hq : fGo nt np r a1 = (-1000001, nt, np, r) := by
      unfold fGo
      rw [if_pos (by assumption)]
    exact ⟨_, _, rfl, rfl, by rw [hq]; exact ⟨rfl, fnd_rm h67⟩⟩
theorem Gd.go {a1 : Int32} (h : Gd nt np r) : Gd (fGo nt np r a1).2.1 (fGo nt np r a1).2.2.1 (fGo nt np r a1).2.2.2 := by
  unfold fGo
  split
  · exact h
  · rename_i h1
    obtain ⟨a, ha, ha1, rfl⟩ := le1_k (by decide) (bI_ne0 h1)
    split
    · exact h
    · rename_i h2
      rw [jI_nat (by omega)]
      obtain ⟨d, hd, ed⟩ := h.2.2.2.1
      refine (h.days ed a ?_).1
      rw [ed, jI_add] at h2
      rcases Nat.lt_or_ge 99999 (d + a) with g | g
      · exact absurd ((jI_lt (by omega) (by omega)).mpr g) h2
      · exact g
theorem Gd.pf {p f : Nat} {v : Int32} (h : Gd nt np r) (hp : p < np) (hf : f < 7) (h0 : f = 0 → Le 6 v) (h1 : f = 1 ∨ f = 2 → Le 15 v) (h3 : 3 ≤ f → Le 9 v) : Gd nt np (put1 r (62 + 7 * p + f) v) := by
  obtain ⟨g1, g2, ⟨v1, v2, v3, v4⟩, ⟨w1, w2, w3, w4⟩⟩ := h
  refine ⟨(put1_o (by omega)).trans g1, (put1_o (by omega)).trans g2, ⟨v1, v2, fun t ht => ?_, fun q hq => ?_⟩, ⟨?_, fun z hz => ?_, fun t ht => ?_, fun q hq => ?_⟩⟩
  · rw [put1_o (by omega), put1_o (by omega), put1_o (by omega)]; exact v3 t ht
  · by_cases e : q = p ∧ f = 0
    · obtain ⟨rfl, rfl⟩ := e
      rw [put1_s]; exact h0 rfl
    · rw [put1_o (by omega)]; exact v4 q hq
  · rw [put1_o (by omega)]; exact w1
  · rw [put1_o (by omega)]; exact w2 z hz
  · rw [put1_o (by omega), put1_o (by omega), put1_o (by omega)]; exact w3 t ht
  · obtain ⟨k1, k2, k3⟩ := w4 q hq
    refine ⟨?_, ?_, fun z hz => ?_⟩
    · by_cases e : q = p ∧ f = 1
      · obtain ⟨rfl, rfl⟩ := e
        rw [put1_s]; exact h1 (Or.inl rfl)
      · rw [put1_o (by omega)]; exact k1
    · by_cases e : q = p ∧ f = 2
      · obtain ⟨rfl, rfl⟩ := e
        rw [put1_s]; exact h1 (Or.inr rfl)
      · rw [put1_o (by omega)]; exact k2
    · by_cases e : q = p ∧ f = 3 + z
      · obtain ⟨rfl, rfl⟩ := e
        rw [put1_s]; exact h3 (by omega)
      · rw [put1_o (by omega)]; exact k3 z hz
theorem Gd.change {a1 a2 a3 : Int32} (h : Gd nt np r) : Gd (fChange nt np r a1 a2 a3).2.1 (fChange nt np r a1 a2 a3).2.2.1 (fChange nt np r a1 a2 a3).2.2.2 := by
  unfold fChange
  split
  · exact h
  · rename_i h1
    have hp8 := h.2.2.1.2.1
    obtain ⟨p, hp, rfl⟩ := in_k rfl (by omega) (bI_ne0 h1)
    split
    · exact h
    · rename_i h2
      have hm := bI_ne0 h2
      obtain ⟨f, hf, rfl⟩ := mayC_f hm
      rw [jI_nat (by omega), jI_nat (by omega)]
      refine h.pf hp hf (fun e => ?_) (fun e => ?_) (fun e => ?_)
      · subst e
        exact le_k (by decide) ((mayC_0 rfl).mpr hm)
      · have : nI f = nI 1 ∨ nI f = nI 2 := e.imp (fun e => by rw [e]) (fun e => by rw [e])
        exact le_k (by decide) ((mayC_12 this).mpr hm)
      · have n0 : ¬ nI f = 0 := fun q => by have := jI_inj (b := 0) (by omega) (by decide) q; omega
        have n1 : ¬ nI f = nI 1 := fun q => by have := jI_inj (by omega) (by decide) q; omega
        have n2 : ¬ nI f = nI 2 := fun q => by have := jI_inj (by omega) (by decide) q; omega
        exact le_k (by decide) ((mayC_e n0 n1 n2).mp hm).2
theorem j_change {a1 a2 a3 : Int32} (hJ : J M) : JJ X 26 161 [.ref 0, .int a1, .int a2, .int a3] [.ref 66, .int a1, .int a2, .int a3] M Eq := by
  obtain ⟨nt, np, hR, h1, h2, hV, hr, -⟩ := hJ.2.2.1
  exact J.join hJ (t26 hJ.1.1) (g26 hR hV.1 hV.2.1) (fun M1 i => t161 i) (fun M1 _ k => g161 (k 67 (by decide)) (by rw [k 67 (by decide)]; exact h1) hV.1 (by rw [k 67 (by decide)]; exact h2) hV.2.1) (Gd.change ⟨h1, h2, hV, hr⟩)
theorem j_go {a1 : Int32} (hJ : J M) : JJ X 29 163 [.ref 0, .int a1] [.ref 66, .int a1] M Eq := by
  obtain ⟨nt, np, hR, h1, h2, hV, hr, hc⟩ := hJ.2.2.1
  exact J.join hJ (t29 hJ.1.1) (g29 hR hV.1 hV.2.1 hV hc) (fun M1 i => t163 i) (fun M1 i k => g163 (k 67 (by decide)) (by rw [k 67 (by decide)]; exact h1) hV.1 (by rw [k 67 (by decide)]; exact h2) hV.2.1 i.1 (by rw [k 66 (by decide)]; exact hJ.2.2.2.2.2.2)) (Gd.go ⟨h1, h2, hV, hr⟩)
end EK
end
section
/-! ===== strolls ===== -/
def sDr (z : Int32) : Int32 := z * nI 1103515245 + nI 12345
def sSc1 (p : Nat) (q : Nat → Int32) : Nat → Int32 := put1 (put1 q 3 (sDr (q 3))) (62 + 7 * p + 1) (rem16 (ush (sDr (q 3)) (nI 8)))
def sScat (np : Nat) (r : Nat → Int32) : Nat → Int32 := fo sSc1 np r
def sStr (nt np n : Nat) (r : Nat → Int32) : Nat → Int32 := fo (fun _ q => sDay (-1) nt np (sScat np q)) n r
def fStrolls (nt np : Nat) (r : Nat → Int32) (a1 : Int32) : Sq4 :=
  if bI (nI 1 ≤ a1 ∧ a1 ≤ nI 20) = 0 then (-1000001, nt, np, r) else if nI 99999 < r 0 + a1 then (-1000005, nt, np, r) else (sThick r nt - sThick (sStr nt np a1.toNatClampNeg r) nt, nt, np, sStr nt np a1.toNatClampNeg r)
theorem ush8 (z : Int32) : ∃ k, k < 16777216 ∧ ush z (nI 8) = nI k := by
  refine ⟨(z.toUInt32 >>> 8).toNat, ?_, ?_⟩
  · rw [UInt32.toNat_shiftRight, Nat.shiftRight_eq_div_pow]
    have := z.toUInt32.toNat_lt
    have e : (8 : UInt32).toNat % 32 = 8 := by decide +kernel
    rw [e]
    omega
  · have e : (nI 8).toUInt32 &&& Int32.toUInt32 31 = 8 := by decide +kernel
    unfold ush
    rw [e]
    exact congrArg UInt32.toInt32 UInt32.ofNat_toNat.symm
theorem div16 {k : Nat} (h : k < 2147483648) : nI k / nI 16 = nI (k / 16) := by
  apply Int32.toInt_inj.mp
  rw [Int32.toInt_div, jI_int h, jI_int (by decide), jI_int (by omega), Int.tdiv_eq_ediv_of_nonneg (by omega), Int.bmod_def]
  omega
theorem rem16_k {k : Nat} (h : k < 2147483648) : Le 15 (rem16 (nI k)) := by
  refine ⟨k % 16, by omega, ?_⟩
  unfold rem16
  rw [div16 h, jI_mul, sub_le (by omega)]
  congr 1
  omega
theorem sScat_o {np : Nat} {r : Nat → Int32} : ∀ (n j : Nat), n ≤ np → j ≠ 3 → (∀ p, p < n → j ≠ 62 + 7 * p + 1) → fo sSc1 n r j = r j := by
  intro n
  induction n with
  | zero => intro j _ _ _; rfl
  | succ n ih =>
    intro j hn h3 h
    show put1 (put1 (fo sSc1 n r) 3 _) (62 + 7 * n + 1) _ j = r j
    rw [put1_o (h n (Nat.lt_succ_self n)), put1_o h3]
    exact ih j (by omega) h3 fun p hp => h p (by omega)
theorem sScat_at {np : Nat} {r : Nat → Int32} (h : ∀ p, p < np → Le 15 (r (62 + 7 * p + 1))) : ∀ p, p < np → Le 15 (sScat np r (62 + 7 * p + 1)) := by
  refine fo_p (P := fun z : Nat → Int32 => ∀ p, p < np → Le 15 (z (62 + 7 * p + 1))) np r h (fun k z hk hz => ?_)
  intro p hp
  unfold sSc1
  by_cases e : p = k
  · subst e
    rw [put1_s]
    obtain ⟨m, hm, em⟩ := ush8 (sDr (z 3))
    rw [em]
    exact rem16_k (by omega)
  · rw [put1_o (by omega), put1_o (by omega)]
    exact hz p hp
section ES
variable {nt np : Nat} {r : Nat → Int32}
theorem Vs.scat (h : Vs nt np r) : Vs nt np (sScat np r) := h.of (fun t f ht hf => sScat_o np _ (Nat.le_refl _) (by omega) (fun p hp => by have := h.1; omega)) (fun p hp => sScat_o np _ (Nat.le_refl _) (by omega) (fun q hq => by omega))
theorem Gd.scat (h : Gd nt np r) : Gd nt np (sScat np r) := by
  obtain ⟨h1, h2, hV, hr⟩ := h
  have t8 := hV.1
  have p8 := hV.2.1
  have o : ∀ j, j ≠ 3 → (∀ p, p < np → j ≠ 62 + 7 * p + 1) → sScat np r j = r j := fun j a b => sScat_o np j (Nat.le_refl _) a b
  refine ⟨(o 1 (by decide) (fun _ _ => by omega)).trans h1, (o 2 (by decide) (fun _ _ => by omega)).trans h2, hV.scat, ?_, fun s hs => ?_, fun t ht => ?_, fun p hp => ?_⟩
  · rw [o 0 (by decide) (fun _ _ => by omega)]; exact hr.1
  · rw [o _ (by omega) (fun _ _ => by omega)]; exact hr.2.1 s hs
  · rw [o _ (by omega) (fun _ _ => by omega), o _ (by omega) (fun _ _ => by omega), o _ (by omega) (fun _ _ => by omega)]; exact hr.2.2.1 t ht
  · obtain ⟨g1, g2, g3⟩ := hr.2.2.2 p hp
    exact ⟨sScat_at (fun q hq => (hr.2.2.2 q hq).1) p hp, by rw [o _ (by omega) (fun _ _ => by omega)]; exact g2, fun s hs => by rw [o _ (by omega) (fun _ _ => by omega)]; exact g3 s hs⟩
theorem Gd.str (h : Gd nt np r) {d : Nat} (hd : r 0 = nI d) : ∀ n, d + n ≤ 99999 → Gd nt np (sStr nt np n r) ∧ sStr nt np n r 0 = nI (d + n) := by
  intro n
  induction n with
  | zero => intro _; exact ⟨h, hd⟩
  | succ n ih =>
    intro hn
    obtain ⟨g1, g2⟩ := ih (by omega)
    have g0 : sScat np (sStr nt np n r) 0 = nI (d + n) := (sScat_o np 0 (Nat.le_refl _) (by decide) (fun _ _ => by omega)).trans g2
    exact g1.scat.day g0 (by omega)
theorem Vs.str (h : Vs nt np r) : ∀ n, Vs nt np (sStr nt np n r) := by
  intro n
  induction n with
  | zero => exact h
  | succ n ih => exact ih.scat.day
theorem Gd.strolls {a1 : Int32} (h : Gd nt np r) : Gd (fStrolls nt np r a1).2.1 (fStrolls nt np r a1).2.2.1 (fStrolls nt np r a1).2.2.2 := by
  unfold fStrolls
  split
  · exact h
  · rename_i h1
    obtain ⟨a, ha, ha1, rfl⟩ := le1_k (by decide) (bI_ne0 h1)
    split
    · exact h
    · rename_i h2
      rw [jI_nat (by omega)]
      obtain ⟨d, hd, ed⟩ := h.2.2.2.1
      refine (h.str ed a ?_).1
      rw [ed, jI_add] at h2
      rcases Nat.lt_or_ge 99999 (d + a) with g | g
      · exact absurd ((jI_lt (by omega) (by omega)).mpr g) h2
      · exact g
end ES
section ET
variable {X : mSc} {Q : Option Value → mHp → Prop} {M : mM} {b nt np : Nat} {r : Nat → Int32}
theorem m83 (hb : b = 1 ∨ b = 18 ∨ b = 35) (hV : Vs nt np r) : ∀ (n k : Nat) (M1 : mM), np - k < n → k ≤ np → Tc b nt np (fo sSc1 k r) M M1 → mEv X (QV (fun M' => Tc b nt np (sScat np r) M M')) 83 2 [some (.ref b), some (.int (nI k))] [] (con M1) := by
  have hm : mMet 83 = some _ := rfl
  intro n
  induction n with
  | zero =>
    intro k M1 hkn hkb hC
    omega
  | succ n ih =>
    intro k M1 hkn hkb hC
    obtain ⟨hnb, hmb, -⟩ := id hC.1
    have hR1 := hC.1
    have h8 := hV.1
    have hp8 := hV.2.1
    refine x_iload_n hm rfl rfl ?_
    refine x_aload_n hm rfl rfl ?_
    refine x_getf hm rfl (gI (tO hb) rfl) ?_
    rw [hmb]
    refine x_icmp_ge hm rfl (t := 49) rfl (fun h1 => ?_) (fun h1 => ?_)
    · obtain rfl : k = np := Nat.le_antisymm hkb ((jI_le (by omega) (by omega)).mp h1)
      refine x_ret hm rfl rfl ?_
      exact ⟨_, rfl, rfl, hC⟩
    · have hk : k < np := Nat.lt_of_not_le fun h => h1 (nI_le h (by omega))
      refine x_aload_n hm rfl rfl ?_
      refine x_aload_n hm rfl rfl ?_
      refine x_getf hm rfl (gI (tO hb) rfl) ?_
      rw [hC.1.2.2.2.1]
      refine x_ldcI hm rfl (v := nI 1103515245) (by decide +kernel) ?_
      refine x_imul hm rfl ?_
      refine x_sipush hm rfl (v := nI 12345) (by decide) ?_
      refine x_iadd hm rfl ?_
      refine x_putf hm rfl (pI (tO hb) rfl (by decide) (by first | exact mFit_int | rfl | decide) rfl) ?_
      refine x_aload_n hm rfl rfl ?_
      refine x_getf hm rfl (gR (tO hb) rfl) ?_
      refine x_iconst hm rfl (v := nI 1) (by decide) ?_
      refine x_aald hm rfl (by first | exact lQ 3 (Or.inr (Or.inl rfl)) (tI hb) rfl (by omega) (by decide) | exact lQ 3 (Or.inr (Or.inl rfl)) (tF hb) rfl (by omega) (by decide) | exact lQ 3 (Or.inr (Or.inl rfl)) (tI hb) (tIk (by omega)) (by omega) (by decide) | exact lQ 3 (Or.inr (Or.inl rfl)) (tF hb) (tFk (by omega)) (by omega) (by decide)) ?_
      refine x_iload_n hm rfl rfl ?_
      refine x_aload_n hm rfl rfl ?_
      refine x_getf hm rfl (gI (tO hb) rfl) ?_
      rw [mp0]
      refine x_bipush hm rfl (v := nI 8) (by decide) ?_
      refine x_iushr hm rfl ?_
      refine x_bipush hm rfl (v := nI 16) (by decide) ?_
      refine x_irem hm rfl (by decide) ?_
      refine x_iast hm rfl (by first | exact sI (tRow hb (by omega)) (by omega) (by decide) | exact sI (tRowI hb (by omega)) (by omega) (by decide) | exact sI (tRowF hb (by omega)) (by omega) (by decide) | exact sI (tSp hb) (by omega) (by decide) | exact sI rfl (by omega) (by decide)) ?_
      refine x_iinc hm rfl rfl (v := nI 1) (by decide) rfl ?_
      rw [jI_add]
      refine x_goto hm rfl (t := 2) rfl ?_
      exact ih (k + 1) _ (by omega) (by omega) (hC.pz.pf (f := 1) h8 (by decide) hk)
theorem e83 (hb : b = 1 ∨ b = 18 ∨ b = 35) (hR : Rel b nt np M r) (hV : Vs nt np r) : ∃ M', mT X 83 [.ref b] (con M) none (con M') ∧ Tc b nt np (sScat np r) M M' := by
  refine tv_of (row := _) rfl (Nat.le_of_ble_eq_true rfl) ?_
  have hm : mMet 83 = some _ := rfl
  refine x_iconst hm rfl (v := nI 0) (by decide) ?_
  refine x_istore_n hm rfl rfl ?_
  exact m83 hb hV _ 0 _ (Nat.lt_succ_self _) (Nat.zero_le _) hR.tc
theorem sDays_1 {w : Int32} {q : Nat → Int32} : sDays w nt np 1 q = sDay w nt np q := rfl
theorem sStr_s {k : Nat} : sStr nt np (k + 1) r = sDay (-1) nt np (sScat np (sStr nt np k r)) := rfl
theorem m82 {a : Nat} {c : Int32} (ha : a ≤ 1000) (hV : Vs nt np r) (hc : M 1 7 = -1) : ∀ (n k : Nat) (M1 : mM), a - k < n → k ≤ a → Tc 1 nt np (sStr nt np k r) M M1 → mEv X (QI (fun v M' => v = c - sThick (sStr nt np a r) nt ∧ Tc 1 nt np (sStr nt np a r) M M')) 82 48 [some (.ref 0), some (.int (nI a)), some (.int c), some (.int (nI k))] [] (con M1) := by
  have hm : mMet 82 = some _ := rfl
  intro n
  induction n with
  | zero =>
    intro k M1 hkn hkb hC
    omega
  | succ n ih =>
    intro k M1 hkn hkb hC
    refine x_iload_n hm rfl rfl ?_
    refine x_iload_n hm rfl rfl ?_
    refine x_icmp_ge hm rfl (t := 74) rfl (fun h1 => ?_) (fun h1 => ?_)
    · obtain rfl : k = a := Nat.le_antisymm hkb ((jI_le (by omega) (by omega)).mp h1)
      refine x_iload_n hm rfl rfl ?_
      refine x_aload_n hm rfl rfl ?_
      refine x_getf hm rfl (gR rfl rfl) ?_
      refine x_callV hm rfl rfl (e38 (by decide) hC.1 (hV.str _)) ?_
      refine x_isub hm rfl ?_
      refine x_iret hm rfl rfl (by first | rfl | exact bI_nar | decide) ?_
      exact ⟨_, _, rfl, rfl, rfl, hC⟩
    · have hk : k < a := Nat.lt_of_not_le fun h => h1 (nI_le h (by omega))
      refine x_aload_n hm rfl rfl ?_
      refine x_getf hm rfl (gR rfl rfl) ?_
      refine x_cVv hm rfl rfl (e83 (by decide) hC.1 (hV.str k)) (fun M2 r2 => ?_)
      refine x_aload_n hm rfl rfl ?_
      refine x_getf hm rfl (gR rfl rfl) ?_
      refine x_iconst hm rfl (v := nI 1) (by decide) ?_
      refine x_cVv hm rfl rfl (e30 (a := 1) (by decide) r2.1 (hV.str k).scat (by decide)) (fun M3 r3 => ?_)
      rw [r2.2.1, hC.2.1, hc, sDays_1, ← sStr_s] at r3
      refine x_iinc hm rfl rfl (v := nI 1) (by decide) rfl ?_
      rw [jI_add]
      refine x_goto hm rfl (t := 48) rfl ?_
      exact ih (k + 1) _ (by omega) (by omega) (hC.to (r2.to r3))
theorem g82 {a1 : Int32} (hR : Rel 1 nt np M r) (hn8 : nt ≤ 8) (hp8 : np ≤ 8) (hV : Vs nt np r) (hc : M 1 7 = -1) : ∃ v M', mT X 82 [.ref 0, .int a1] (con M) (some (.int v)) (con M') ∧ Tq (fStrolls nt np r a1) v M M' := by
  refine ti_of (row := _) rfl (Nat.le_of_ble_eq_true rfl) ?_
  have hm : mMet 82 = some _ := rfl
  refine x_iload_n hm rfl rfl ?_
  refine x_iconst hm rfl (v := nI 1) (by decide) ?_
  refine x_bipush hm rfl (v := nI 20) (by decide) ?_
  refine x_callS hm rfl rfl (t6) ?_
  refine x_if_ne hm rfl (t := 17) rfl (fun h1 => ?_) (fun h1 => ?_)
  · obtain ⟨a, ha, ha1, rfl⟩ := le1_k (by omega) (bI_ne0 h1)
    refine x_aload_n hm rfl rfl ?_
    refine x_getf hm rfl (gR rfl rfl) ?_
    refine x_getf hm rfl (gI rfl rfl) ?_
    rw [hR.2.2.1]
    refine x_iload_n hm rfl rfl ?_
    refine x_iadd hm rfl ?_
    refine x_ldcI hm rfl (v := nI 99999) (by decide +kernel) ?_
    refine x_icmp_le hm rfl (t := 38) rfl (fun h2 => ?_) (fun h2 => ?_)
    · have hng : ¬ nI 99999 < r 0 + nI a := Int32.not_lt.mpr h2
      refine x_aload_n hm rfl rfl ?_
      refine x_getf hm rfl (gR rfl rfl) ?_
      refine x_callV hm rfl rfl (e38 (by decide) hR hV) ?_
      refine x_istore_n hm rfl rfl ?_
      refine x_iconst hm rfl (v := nI 0) (by decide) ?_
      refine x_istore_n hm rfl rfl ?_
      have hq : fStrolls nt np r (nI a) = (sThick r nt - sThick (sStr nt np a r) nt, nt, np, sStr nt np a r) := by
        unfold fStrolls
        rw [if_neg (by assumption), if_neg (by assumption)]
        rw [jI_nat (k := a) (by omega)]
      exact ev_mono (m82 (by omega) hV hc _ 0 _ (Nat.lt_succ_self _) (Nat.zero_le _) hR.tc) (fun r0 D ⟨v, M2, g1, g2, g3, g4⟩ => ⟨v, M2, g1, g2, by rw [hq]; exact ⟨g3, g4.tm⟩⟩)
    · have hps : nI 99999 < r 0 + nI a := Int32.not_le.mp h2
      refine x_aload_n hm rfl rfl ?_
      refine x_ldcI hm rfl (v := (-1000005 : Int32)) (by decide +kernel) ?_
      refine x_cVi hm rfl rfl (t7 (by decide +kernel)) (fun v3 M3 r3 => ?_)
      refine x_iret hm rfl rfl (by first | rfl | exact bI_nar | decide) ?_
      first
        | (have hq : fStrolls nt np r (nI a) = (-1000005, nt, np, r) := by
             unfold fStrolls
             rw [if_neg (by assumption), if_pos (by assumption)]
           exact ⟨_, _, rfl, rfl, by rw [hq]; exact ⟨r3.1, hR.bq r3.2⟩⟩)
        | (have hq : fStrolls nt np r (nI a) = (-1000005, nt, np, r) := by
             unfold fStrolls
             rw [if_neg (by assumption), if_pos (by assumption)]
           exact ⟨_, _, rfl, rfl, by rw [hq]; exact ⟨r1.1, hR.bq r1.2⟩⟩)
        | (have hq : fStrolls nt np r (nI a) = (-1000005, nt, np, r) := by
             unfold fStrolls
             rw [if_neg (by assumption), if_pos (by assumption)]
           exact ⟨_, _, rfl, rfl, by rw [hq]; exact ⟨r2.1, hR.bq r2.2⟩⟩)
        | (have hq : fStrolls nt np r (nI a) = (-1000005, nt, np, r) := by
             unfold fStrolls
             rw [if_neg (by assumption), if_pos (by assumption)]
           exact ⟨_, _, rfl, rfl, by rw [hq]; exact ⟨r4.1, hR.bq r4.2⟩⟩)
        | (have hq : fStrolls nt np r (nI a) = (-1000005, nt, np, r) := by
             unfold fStrolls
             rw [if_neg (by assumption), if_pos (by assumption)]
           exact ⟨_, _, rfl, rfl, by rw [hq]; exact ⟨r5.1, hR.bq r5.2⟩⟩)
        | (have hq : fStrolls nt np r (nI a) = (-1000005, nt, np, r) := by
             unfold fStrolls
             rw [if_neg (by assumption), if_pos (by assumption)]
           exact ⟨_, _, rfl, rfl, by rw [hq]; exact ⟨r6.1, hR.bq r6.2⟩⟩)
        | (have hq : fStrolls nt np r (nI a) = (-1000005, nt, np, r) := by
             unfold fStrolls
             rw [if_neg (by assumption), if_pos (by assumption)]
           exact ⟨_, _, rfl, rfl, by rw [hq]; exact ⟨r7.1, hR.bq r7.2⟩⟩)
        | (have hq : fStrolls nt np r (nI a) = (-1000005, nt, np, r) := by
             unfold fStrolls
             rw [if_neg (by assumption), if_pos (by assumption)]
           exact ⟨_, _, rfl, rfl, by rw [hq]; exact ⟨r8.1, hR.bq r8.2⟩⟩)
  · refine x_aload_n hm rfl rfl ?_
    refine x_ldcI hm rfl (v := (-1000001 : Int32)) (by decide +kernel) ?_
    refine x_cVi hm rfl rfl (t7 (by decide +kernel)) (fun v4 M4 r4 => ?_)
    refine x_iret hm rfl rfl (by first | rfl | exact bI_nar | decide) ?_
    first
      | (have hq : fStrolls nt np r a1 = (-1000001, nt, np, r) := by
           unfold fStrolls
           rw [if_pos (by assumption)]
         exact ⟨_, _, rfl, rfl, by rw [hq]; exact ⟨r4.1, hR.bq r4.2⟩⟩)
      | (have hq : fStrolls nt np r a1 = (-1000001, nt, np, r) := by
           unfold fStrolls
           rw [if_pos (by assumption)]
         exact ⟨_, _, rfl, rfl, by rw [hq]; exact ⟨r1.1, hR.bq r1.2⟩⟩)
      | (have hq : fStrolls nt np r a1 = (-1000001, nt, np, r) := by
           unfold fStrolls
           rw [if_pos (by assumption)]
         exact ⟨_, _, rfl, rfl, by rw [hq]; exact ⟨r2.1, hR.bq r2.2⟩⟩)
      | (have hq : fStrolls nt np r a1 = (-1000001, nt, np, r) := by
           unfold fStrolls
           rw [if_pos (by assumption)]
         exact ⟨_, _, rfl, rfl, by rw [hq]; exact ⟨r3.1, hR.bq r3.2⟩⟩)
      | (have hq : fStrolls nt np r a1 = (-1000001, nt, np, r) := by
           unfold fStrolls
           rw [if_pos (by assumption)]
         exact ⟨_, _, rfl, rfl, by rw [hq]; exact ⟨r5.1, hR.bq r5.2⟩⟩)
      | (have hq : fStrolls nt np r a1 = (-1000001, nt, np, r) := by
           unfold fStrolls
           rw [if_pos (by assumption)]
         exact ⟨_, _, rfl, rfl, by rw [hq]; exact ⟨r6.1, hR.bq r6.2⟩⟩)
      | (have hq : fStrolls nt np r a1 = (-1000001, nt, np, r) := by
           unfold fStrolls
           rw [if_pos (by assumption)]
         exact ⟨_, _, rfl, rfl, by rw [hq]; exact ⟨r7.1, hR.bq r7.2⟩⟩)
      | (have hq : fStrolls nt np r a1 = (-1000001, nt, np, r) := by
           unfold fStrolls
           rw [if_pos (by assumption)]
         exact ⟨_, _, rfl, rfl, by rw [hq]; exact ⟨r8.1, hR.bq r8.2⟩⟩)
theorem g215 : mT X 215 [.ref 66] (con M) (some (.int (ush (sDr (M 67 3)) (nI 8)))) (con (mput M 67 3 (sDr (M 67 3)))) := by
  refine mT.of (row := _) rfl (Nat.le_of_ble_eq_true rfl) ?_
  have hm : mMet 215 = some _ := rfl
  refine x_aload_n hm rfl rfl ?_
  refine x_getf hm rfl (gR rfl rfl) ?_
  refine x_iconst hm rfl (v := nI 3) (by decide) ?_
  refine x_aload_n hm rfl rfl ?_
  refine x_getf hm rfl (gR rfl rfl) ?_
  refine x_iconst hm rfl (v := nI 3) (by decide) ?_
  refine x_iald hm rfl (lI rfl (by omega) (by decide)) ?_
  refine x_ldcI hm rfl (v := nI 1103515245) (by decide +kernel) ?_
  refine x_imul hm rfl ?_
  refine x_sipush hm rfl (v := nI 12345) (by decide) ?_
  refine x_iadd hm rfl ?_
  refine x_iast hm rfl (sI rfl (by omega) (by decide)) ?_
  refine x_aload_n hm rfl rfl ?_
  refine x_getf hm rfl (gR rfl rfl) ?_
  refine x_iconst hm rfl (v := nI 3) (by decide) ?_
  refine x_iald hm rfl (lI rfl (by omega) (by decide)) ?_
  rw [mp0]
  refine x_bipush hm rfl (v := nI 8) (by decide) ?_
  refine x_iushr hm rfl ?_
  refine x_iret hm rfl rfl (by first | rfl | exact bI_nar | decide) ?_
  exact ⟨rfl, rfl⟩
theorem m214b {a j : Nat} {c : Int32} (hW : Wf M) (hnt : M 67 1 = nI nt) (hn8 : nt ≤ 8) (hnp : M 67 2 = nI np) (hp8 : np ≤ 8) (h6 : M 66 6 = -1) (hout : ∀ (M1 : mM) (x : Option Value), Dy M M1 → Dd (sStr nt np (j + 1) (M 67)) M M1 → mEv X (QI (fun v M' => v = c - sThick (sStr nt np a (M 67)) nt ∧ Dd (sStr nt np a (M 67)) M M')) 214 44 [some (.ref 66), some (.int (nI a)), some (.int c), some (.int (nI (j + 1))), x] [] (con M1)) : ∀ (n k : Nat) (M1 : mM), np - k < n → k ≤ np → Dy M M1 → Dd (fo sSc1 k (sStr nt np j (M 67))) M M1 → mEv X (QI (fun v M' => v = c - sThick (sStr nt np a (M 67)) nt ∧ Dd (sStr nt np a (M 67)) M M')) 214 52 [some (.ref 66), some (.int (nI a)), some (.int c), some (.int (nI j)), some (.int (nI k))] [] (con M1) := by
  have hm : mMet 214 = some _ := rfl
  intro n
  induction n with
  | zero =>
    intro k M1 hkn hkb hD hd
    omega
  | succ n ih =>
    intro k M1 hkn hkb hD hd
    have hn1 : M1 67 2 = nI np := hD.1.2.2.1.trans hnp
    refine x_iload hm rfl rfl ?_
    refine x_aload_n hm rfl rfl ?_
    refine x_getf hm rfl (gR rfl rfl) ?_
    refine x_iconst hm rfl (v := nI 2) (by decide) ?_
    refine x_iald hm rfl (lI rfl (by omega) (by decide)) ?_
    rw [hn1]
    refine x_icmp_ge hm rfl (t := 87) rfl (fun h1 => ?_) (fun h1 => ?_)
    · have hkn2 : k = np := Nat.le_antisymm hkb ((jI_le (by omega) (by omega)).mp h1)
      rw [hkn2] at hd
      refine x_aload_n hm rfl rfl ?_
      refine x_cVv hm rfl rfl (e165 (hD.1.1 hW) (hD.1.2.1.trans hnt) hn8 (hD.1.2.2.1.trans hnp) hp8) (fun M2 r2 => ?_)
      refine x_iinc hm rfl rfl (v := nI 1) (by decide) rfl ?_
      rw [jI_add]
      refine x_goto hm rfl (t := 44) rfl ?_
      have hs := hd.to r2.2
      rw [hd.1, hd.2 66 (by decide) (by decide), h6] at hs
      exact hout _ _ (hD.trans r2.1) hs
    · have hk : k < np := Nat.lt_of_not_le fun h => h1 (nI_le h (by omega))
      refine x_aload_n hm rfl rfl ?_
      refine x_getf hm rfl (gR rfl rfl) ?_
      refine x_iload hm rfl rfl ?_
      refine x_iconst hm rfl (v := nI 1) (by decide) ?_
      refine x_callS hm rfl rfl (t142) ?_
      refine x_aload_n hm rfl rfl ?_
      refine x_callV hm rfl rfl (g215) ?_
      refine x_bipush hm rfl (v := nI 16) (by decide) ?_
      refine x_irem hm rfl (by decide) ?_
      refine x_iast hm rfl (sI rfl (by omega) (by decide)) ?_
      refine x_iinc hm rfl rfl (v := nI 1) (by decide) rfl ?_
      rw [jI_add]
      refine x_goto hm rfl (t := 52) rfl ?_
      exact ih (k + 1) _ (by omega) (by omega) ((hD.trans (Dy.put Sf.draw (by decide))).trans (Dy.put (Sf.person (by omega) (by decide)) (by decide))) (by rw [hd.1]; exact hd.p67.p67)
theorem m214a {a : Nat} {c : Int32} (hW : Wf M) (hnt : M 67 1 = nI nt) (hn8 : nt ≤ 8) (hnp : M 67 2 = nI np) (hp8 : np ≤ 8) (h6 : M 66 6 = -1) (ha : a ≤ 1000) : ∀ (n k : Nat) (x : Option Value) (M1 : mM), a - k < n → k ≤ a → Dy M M1 → Dd (sStr nt np k (M 67)) M M1 → mEv X (QI (fun v M' => v = c - sThick (sStr nt np a (M 67)) nt ∧ Dd (sStr nt np a (M 67)) M M')) 214 44 [some (.ref 66), some (.int (nI a)), some (.int c), some (.int (nI k)), x] [] (con M1) := by
  have hm : mMet 214 = some _ := rfl
  intro n
  induction n with
  | zero =>
    intro k x M1 hkn hkb hD hd
    omega
  | succ n ih =>
    intro k x M1 hkn hkb hD hd
    refine x_iload_n hm rfl rfl ?_
    refine x_iload_n hm rfl rfl ?_
    refine x_icmp_ge hm rfl (t := 97) rfl (fun h1 => ?_) (fun h1 => ?_)
    · obtain rfl : k = a := Nat.le_antisymm hkb ((jI_le (by omega) (by omega)).mp h1)
      refine x_iload_n hm rfl rfl ?_
      refine x_aload_n hm rfl rfl ?_
      refine x_callV hm rfl rfl (e170 (hD.1.2.1.trans hnt) hn8) ?_
      refine x_isub hm rfl ?_
      refine x_iret hm rfl rfl (by first | rfl | exact bI_nar | decide) ?_
      exact ⟨_, _, rfl, rfl, by rw [hd.1], hd⟩
    · have hk : k < a := Nat.lt_of_not_le fun h => h1 (nI_le h (by omega))
      refine x_iconst hm rfl (v := nI 0) (by decide) ?_
      refine x_istore hm rfl rfl ?_
      exact m214b hW hnt hn8 hnp hp8 h6 (fun M2 x g1 g2 => ih (k + 1) x M2 (by omega) (by omega) g1 g2) _ 0 _ (Nat.lt_succ_self _) (Nat.zero_le _) hD hd
theorem g214 {a1 : Int32} (h67 : M 67 = r) (hnt : M 67 1 = nI nt) (hn8 : nt ≤ 8) (hnp : M 67 2 = nI np) (hp8 : np ≤ 8) (hW : Wf M) (h6 : M 66 6 = -1) : ∃ v M', mT X 214 [.ref 66, .int a1] (con M) (some (.int v)) (con M') ∧ Uq (fStrolls nt np r a1) v M M' := by
  refine ti_of (row := _) rfl (Nat.le_of_ble_eq_true rfl) ?_
  have hm : mMet 214 = some _ := rfl
  refine x_iload_n hm rfl rfl ?_
  refine x_iconst hm rfl (v := nI 1) (by decide) ?_
  refine x_bipush hm rfl (v := nI 20) (by decide) ?_
  refine x_callS hm rfl rfl (t133) ?_
  refine x_if_ne hm rfl (t := 17) rfl (fun h1 => ?_) (fun h1 => ?_)
  · obtain ⟨a, ha, ha1, rfl⟩ := le1_k (by omega) (bI_ne0 h1)
    refine x_aload_n hm rfl rfl ?_
    refine x_getf hm rfl (gR rfl rfl) ?_
    refine x_iconst hm rfl (v := nI 0) (by decide) ?_
    refine x_iald hm rfl (lI rfl (by omega) (by decide)) ?_
    rw [h67]
    refine x_iload_n hm rfl rfl ?_
    refine x_iadd hm rfl ?_
    refine x_ldcI hm rfl (v := nI 99999) (by decide +kernel) ?_
    refine x_icmp_le hm rfl (t := 37) rfl (fun h2 => ?_) (fun h2 => ?_)
    · have hng : ¬ nI 99999 < r 0 + nI a := Int32.not_lt.mpr h2
      refine x_aload_n hm rfl rfl ?_
      refine x_callV hm rfl rfl (e170 hnt hn8) ?_
      refine x_istore_n hm rfl rfl ?_
      refine x_iconst hm rfl (v := nI 0) (by decide) ?_
      refine x_istore_n hm rfl rfl ?_
      have hq : fStrolls nt np r (nI a) = (sThick r nt - sThick (sStr nt np a r) nt, nt, np, sStr nt np a r) := by
        unfold fStrolls
        rw [if_neg (by assumption), if_neg (by assumption)]
        rw [jI_nat (k := a) (by omega)]
      have hm := m214a (X := X) (a := a) (c := sThick (M 67) nt) hW hnt hn8 hnp hp8 h6 (by omega) _ 0 none M (Nat.lt_succ_self _) (Nat.zero_le _) Dy.rf Dd.rf
      rw [h67] at hm ⊢
      exact ev_mono (hm) (fun r0 D ⟨v, M2, g1, g2, g3, g4⟩ => ⟨v, M2, g1, g2, by rw [hq]; exact ⟨g3, g4.1, fun a h1 _ _ h4 => g4.2 a h1 h4⟩⟩)
    · have hps : nI 99999 < r 0 + nI a := Int32.not_le.mp h2
      refine x_aload_n hm rfl rfl ?_
      refine x_ldcI hm rfl (v := (-1000005 : Int32)) (by decide +kernel) ?_
      refine x_callV hm rfl rfl (e135 (by decide +kernel)) ?_
      refine x_iret hm rfl rfl (by first | rfl | exact bI_nar | decide) ?_
      have hq : fStrolls nt np r (nI a) = (-1000005, nt, np, r) := by
        unfold fStrolls
        rw [if_neg (by assumption), if_pos (by assumption)]
      exact ⟨_, _, rfl, rfl, by rw [hq]; exact ⟨rfl, fnd_rm h67⟩⟩
  · refine x_aload_n hm rfl rfl ?_
    refine x_ldcI hm rfl (v := (-1000001 : Int32)) (by decide +kernel) ?_
    refine x_callV hm rfl rfl (e135 (by decide +kernel)) ?_
    refine x_iret hm rfl rfl (by first | rfl | exact bI_nar | decide) ?_
    have hq : fStrolls nt np r a1 = (-1000001, nt, np, r) := by
      unfold fStrolls
      rw [if_pos (by assumption)]
    exact ⟨_, _, rfl, rfl, by rw [hq]; exact ⟨rfl, fnd_rm h67⟩⟩
theorem j_strolls {a1 : Int32} (hJ : J M) : JJ X 82 214 [.ref 0, .int a1] [.ref 66, .int a1] M Eq := by
  obtain ⟨nt, np, hR, h1, h2, hV, hr, hc⟩ := hJ.2.2.1
  exact J.join hJ (t82 hJ.1.1) (g82 hR hV.1 hV.2.1 hV hc) (fun M1 i => t214 i) (fun M1 i k => g214 (k 67 (by decide)) (by rw [k 67 (by decide)]; exact h1) hV.1 (by rw [k 67 (by decide)]; exact h2) hV.2.1 i.1 (by rw [k 66 (by decide)]; exact hJ.2.2.2.2.2.2)) (Gd.strolls ⟨h1, h2, hV, hr⟩)
end ET
end
section
/-! ===== the tape fed and wiped ===== -/
def shb (a : Int32) (i : Nat) : Int32 := a >>> (nI 8 * nI i &&& 31)
def cvC (x : Int32) : Int32 := x.toInt8.toInt32.toInt8.toInt32
def cvR (x : Int32) : Int32 := x &&& nI 255
def fTp (cv : Int32 → Int32) (a : Int32) : Nat → Nat → (Nat → Int32) → (Nat → Int32)
  | 0, _, T => T
  | i + 1, c, T => fTp cv a i (c + 1) (put1 T c (cv (shb a i)))
def fFeed (cv : Int32 → Int32) (c : Int32) (T : Nat → Int32) (a1 a2 : Int32) : Int32 × Int32 × (Nat → Int32) :=
  if bI (nI 1 ≤ a2 ∧ a2 ≤ nI 4) = 0 then (-1000001, c, T) else if nI 120 < c + a2 then (-1000002, c, T) else (c + a2, c + a2, fTp cv a1 a2.toNatClampNeg c.toNatClampNeg T)
theorem b255 : ∀ i, i < 32 → (255#32).getLsbD i = decide (i < 8) := by decide +kernel
theorem cv_ok (x : Int32) : cvR x = cvC x &&& 255 ∧ cvC x = (cvR x).toInt8.toInt32 := by
  constructor
  · apply Int32.toBitVec_inj.mp
    apply BitVec.eq_of_getLsbD_eq
    intro i hi
    have e := b255 i hi
    have e2 : (255 : Int32).toBitVec = 255#32 := by decide +kernel
    have e3 : (nI 255).toBitVec = 255#32 := by decide +kernel
    simp only [cvR, cvC, Int32.toBitVec_and, e2, e3, BitVec.getLsbD_and, e, Int8.toBitVec_toInt32, Int32.toBitVec_toInt8, BitVec.getLsbD_signExtend, BitVec.getLsbD_setWidth]
    by_cases h : i < 8
    · simp [h, hi]
    · simp [h]
  · apply Int32.toBitVec_inj.mp
    apply BitVec.eq_of_getLsbD_eq
    intro i hi
    have e := b255 i hi
    have e7 := b255 7 (by decide)
    have e3 : (nI 255).toBitVec = 255#32 := by decide +kernel
    simp only [cvR, cvC, Int32.toBitVec_and, e3, BitVec.getLsbD_and, e, Int8.toBitVec_toInt32, Int32.toBitVec_toInt8, BitVec.getLsbD_signExtend, BitVec.getLsbD_setWidth, BitVec.msb_eq_getLsbD_last]
    by_cases h : i < 8
    · simp [h, hi]
    · simp [h, hi, e7]
def Tr (T S : Nat → Int32) : Prop := ∀ k, k < 120 → S k = T k &&& 255 ∧ T k = (S k).toInt8.toInt32
theorem Tr.put {T S : Nat → Int32} {c : Nat} {x : Int32} (h : Tr T S) : Tr (put1 T c (cvC x)) (put1 S c (cvR x)) := by
  intro k hk
  by_cases e : k = c
  · subst e
    rw [put1_s, put1_s]
    exact cv_ok x
  · rw [put1_o e, put1_o e]
    exact h k hk
theorem Tr.tp {a : Int32} : ∀ (i c : Nat) (T S : Nat → Int32), Tr T S → Tr (fTp cvC a i c T) (fTp cvR a i c S) := by
  intro i
  induction i with
  | zero => intro c T S h; exact h
  | succ i ih => intro c T S h; exact ih _ _ _ h.put
theorem Tr.feed {c a1 a2 : Int32} {T S : Nat → Int32} (h : Tr T S) : Tr (fFeed cvC c T a1 a2).2.2 (fFeed cvR c S a1 a2).2.2 ∧ (fFeed cvC c T a1 a2).2.1 = (fFeed cvR c S a1 a2).2.1 ∧ (fFeed cvC c T a1 a2).1 = (fFeed cvR c S a1 a2).1 := by
  unfold fFeed
  split
  · exact ⟨h, rfl, rfl⟩
  · split
    · exact ⟨h, rfl, rfl⟩
    · exact ⟨h.tp _ _ _ _, rfl, rfl⟩
section EU
variable {X : mSc} {Q : Option Value → mHp → Prop} {M : mM}
/-- the reader's tape became so -/
def Fc (q : Int32 × Int32 × (Nat → Int32)) (v : Int32) (M M' : mM) : Prop := v = q.1 ∧ M' 52 1 = q.2.1 ∧ M' 53 = q.2.2 ∧ ∀ a, (a < 35 ∨ (51 < a ∧ a ≠ 52 ∧ a ≠ 53 ∧ a ≠ 55 ∧ a ≠ 56 ∧ a ≠ 57)) → M' a = M a
def Fr (q : Int32 × Int32 × (Nat → Int32)) (v : Int32) (M M' : mM) : Prop := v = q.1 ∧ M' 66 9 = q.2.1 ∧ M' 73 = q.2.2 ∧ M' 66 3 = M 66 3 ∧ M' 66 6 = M 66 6 ∧ ∀ a, a ≠ 66 → a ≠ 70 → a ≠ 73 → M' a = M a
theorem Fc.cn {q : Int32 × Int32 × (Nat → Int32)} {v : Int32} {N : mM} (hM : cnm M = M) (h : Fc q v M N) : Fc q v M (cnm N) := ⟨h.1, h.2.1, h.2.2.1, fun a ha => cn_fr hM (h.2.2.2 a ha)⟩
theorem Fr.cn {q : Int32 × Int32 × (Nat → Int32)} {v : Int32} {N : mM} (hM : cnm M = M) (h : Fr q v M N) : Fr q v M (cnm N) := ⟨h.1, h.2.1, h.2.2.1, h.2.2.2.1, h.2.2.2.2.1, fun a b c d => cn_fr hM (h.2.2.2.2.2 a b c d)⟩
theorem Bq.fc {N : mM} {v : Int32} (g : Bq 35 M N) : Fc (v, M 52 1, M 53) v M N := ⟨rfl, by rw [g.2.1 52 (by decide)], g.2.1 53 (by decide), fun a ha => g.2.1 a (by omega)⟩
theorem fnd_fr {v : Int32} : Fr (v, M 66 9, M 73) v M (fndR M v) := by
  have e : ∀ a, a ≠ 70 → fndR M v a = M a := fun a h => (mpo h).trans (mpo h)
  exact ⟨rfl, by rw [e 66 (by decide)], e 73 (by decide), by rw [e 66 (by decide)], by rw [e 66 (by decide)], fun a _ h _ => e a h⟩
theorem J.tape {M1 M2 : mM} {v w : Int32} {q p : Int32 × Int32 × (Nat → Int32)} (h : J M) (c : Ck M M1) (f : Fc q v M M1) (i : Inv M2) (n : cnm M2 = M2) (g : Fr p w M1 M2) (h1 : q.2.1 = p.2.1) (ht : Tr q.2.2 p.2.2) : J M2 := by
  obtain ⟨j1, j2, j3, j4, j5, j6, j7⟩ := h
  obtain ⟨-, f2, f3, f4⟩ := f
  obtain ⟨-, g2, g3, g4, g5, g6⟩ := g
  have l : ∀ a, a < 66 → (a < 35 ∨ (51 < a ∧ a ≠ 52 ∧ a ≠ 53 ∧ a ≠ 55 ∧ a ≠ 56 ∧ a ≠ 57)) → M2 a = M a := fun a ga gb => (g6 a (by omega) (by omega) (by omega)).trans (f4 a gb)
  have u : ∀ a, 66 < a → a ≠ 70 → a ≠ 73 → M2 a = M a := fun a ga gb gc => (g6 a (by omega) gb gc).trans (c.2 a (by omega))
  have e66 : M1 66 = M 66 := c.2 66 (by decide)
  refine ⟨i, n, j3.of (fun x _ hx => l x (by omega) (by omega)) (u 67 (by decide) (by decide) (by decide)), j4.of (by rw [l 0 (by decide) (by decide)]) (by rw [g4, e66]) (fun x _ hx => l x (by omega) (by omega)) (u 68 (by decide) (by decide) (by decide)), ⟨?_, ?_⟩, j6.of (fun x _ _ => l x (by omega) (by omega)) (u 76 (by decide) (by decide) (by decide)) (u 77 (by decide) (by decide) (by decide)) (u 78 (by decide) (by decide) (by decide)), by rw [g5, e66]; exact j7⟩
  · rw [g6 52 (by decide) (by decide) (by decide), f2, g2, h1]
  · rw [g6 53 (by decide) (by decide) (by decide), f3, g3]
    exact ht
theorem m87 {b nn : Int32} : ∀ (n j c : Nat) (M1 : mM), j < n → c + j ≤ 120 → M1 52 1 = nI c → mEv X (QI (fun v M' => v = nI (c + j) ∧ M' 52 1 = nI (c + j) ∧ M' 53 = fTp cvC b j c (M1 53) ∧ ∀ a, a ≠ 52 → a ≠ 53 → M' a = M1 a)) 87 41 [some (.ref 0), some (.int b), some (.int nn), some (.int (nI j + (-1)))] [] (con M1) := by
  have hm : mMet 87 = some _ := rfl
  intro n
  induction n with
  | zero =>
    intro j c M1 hj hc hc1
    omega
  | succ n ih =>
    intro j c M1 hj hc hc1
    refine x_iload_n hm rfl rfl ?_
    refine x_if_lt hm rfl (t := 65) rfl (fun h1 => ?_) (fun h1 => ?_)
    · obtain rfl : j = 0 := by
        cases j with
        | zero => rfl
        | succ i => rw [dec1] at h1; exact absurd h1 (jI_nn (by omega))
      refine x_aload_n hm rfl rfl ?_
      refine x_getf hm rfl (gR rfl rfl) ?_
      refine x_getf hm rfl (gI rfl rfl) ?_
      refine x_iret hm rfl rfl (by first | rfl | exact bI_nar | decide) ?_
      exact ⟨_, _, rfl, rfl, hc1, hc1, rfl, fun _ _ _ => rfl⟩
    · obtain ⟨i, rfl⟩ : ∃ i, j = i + 1 := by
        cases j with
        | zero => exact absurd (by decide) h1
        | succ i => exact ⟨i, rfl⟩
      rw [dec1]
      refine x_aload_n hm rfl rfl ?_
      refine x_getf hm rfl (gR rfl rfl) ?_
      refine x_iload_n hm rfl rfl ?_
      refine x_bipush hm rfl (v := nI 8) (by decide) ?_
      refine x_iload_n hm rfl rfl ?_
      refine x_imul hm rfl ?_
      refine x_ishr hm rfl ?_
      refine x_i2b hm rfl ?_
      refine x_cVv hm rfl rfl (t88 hc1 (by omega)) (fun M2 r2 => ?_)
      refine x_iinc hm rfl rfl (v := (-1 : Int32)) (by decide) rfl ?_
      refine x_goto hm rfl (t := 41) rfl ?_
      subst r2
      refine ev_mono (ih i (c + 1) _ (by omega) (by omega) mp0) (fun r0 D ⟨v, M3, g1, g2, g3, g4, g5, g6⟩ => ⟨v, M3, g1, g2, g3.trans (by congr 1; omega), g4.trans (by congr 1; omega), ?_, fun a h1 h2 => (g6 a h1 h2).trans ((mpo h1).trans (mpo h2))⟩)
      rw [g5, mpo (by decide)]
      show fTp cvC b i (c + 1) _ = fTp cvC b i (c + 1) _
      congr 1
      funext k
      unfold mput put1
      by_cases e : k = c
      · rw [if_pos ⟨rfl, e⟩, if_pos e]; rfl
      · rw [if_neg (fun z => e z.2), if_neg e]
theorem g87 {a1 a2 : Int32} {c : Nat} (hc9 : M 52 1 = nI c) (hc : c ≤ 120) : ∃ v M', mT X 87 [.ref 0, .int a1, .int a2] (con M) (some (.int v)) (con M') ∧ Fc (fFeed cvC (M 52 1) (M 53) a1 a2) v M M' := by
  refine ti_of (row := _) rfl (Nat.le_of_ble_eq_true rfl) ?_
  have hm : mMet 87 = some _ := rfl
  refine x_iload_n hm rfl rfl ?_
  refine x_iconst hm rfl (v := nI 1) (by decide) ?_
  refine x_iconst hm rfl (v := nI 4) (by decide) ?_
  refine x_callS hm rfl rfl (t6) ?_
  refine x_if_ne hm rfl (t := 16) rfl (fun h1 => ?_) (fun h1 => ?_)
  · obtain ⟨a, ha, ha1, rfl⟩ := le1_k (by omega) (bI_ne0 h1)
    refine x_aload_n hm rfl rfl ?_
    refine x_getf hm rfl (gR rfl rfl) ?_
    refine x_getf hm rfl (gI rfl rfl) ?_
    rw [hc9]
    refine x_iload_n hm rfl rfl ?_
    refine x_iadd hm rfl ?_
    refine x_bipush hm rfl (v := nI 120) (by decide) ?_
    refine x_icmp_le hm rfl (t := 37) rfl (fun h2 => ?_) (fun h2 => ?_)
    · have hng : ¬ nI 120 < nI c + nI a := Int32.not_lt.mpr h2
      have hle : c + a ≤ 120 := by
        rw [jI_add] at h2
        exact (jI_le (by omega) (by decide)).mp h2
      refine x_iload_n hm rfl rfl ?_
      refine x_iconst hm rfl (v := nI 1) (by decide) ?_
      refine x_isub hm rfl ?_
      rw [sub1]
      refine x_istore_n hm rfl rfl ?_
      have hq : fFeed cvC (M 52 1) (M 53) a1 (nI a) = (nI (c + a), nI (c + a), fTp cvC a1 a c (M 53)) := by
        unfold fFeed
        rw [hc9, if_neg (by assumption), if_neg (by assumption), jI_nat (by omega), jI_nat (by omega), jI_add]
      exact ev_mono (m87 _ a c _ (Nat.lt_succ_self _) hle hc9) (fun r0 D ⟨v, M3, g1, g2, g3, g4, g5, g6⟩ => ⟨v, M3, g1, g2, by rw [← hc9, hq]; exact ⟨g3, g4, g5, fun x hx => g6 x (by omega) (by omega)⟩⟩)
    · have hps : nI 120 < nI c + nI a := Int32.not_le.mp h2
      refine x_aload_n hm rfl rfl ?_
      refine x_ldcI hm rfl (v := (-1000002 : Int32)) (by decide +kernel) ?_
      refine x_cVi hm rfl rfl (t7 (by decide +kernel)) (fun v3 M3 r3 => ?_)
      refine x_iret hm rfl rfl (by first | rfl | exact bI_nar | decide) ?_
      first
        | (have hq : fFeed cvC (M 52 1) (M 53) a1 (nI a) = (-1000002, M 52 1, M 53) := by
             unfold fFeed
             rw [hc9]
             rw [if_neg (by assumption), if_pos (by assumption)]
           exact ⟨_, _, rfl, rfl, by rw [← hc9, hq, r3.1]; exact r3.2.fc⟩)
        | (have hq : fFeed cvC (M 52 1) (M 53) a1 (nI a) = (-1000002, M 52 1, M 53) := by
             unfold fFeed
             rw [hc9]
             rw [if_neg (by assumption), if_pos (by assumption)]
           exact ⟨_, _, rfl, rfl, by rw [← hc9, hq, r1.1]; exact r1.2.fc⟩)
        | (have hq : fFeed cvC (M 52 1) (M 53) a1 (nI a) = (-1000002, M 52 1, M 53) := by
             unfold fFeed
             rw [hc9]
             rw [if_neg (by assumption), if_pos (by assumption)]
           exact ⟨_, _, rfl, rfl, by rw [← hc9, hq, r2.1]; exact r2.2.fc⟩)
        | (have hq : fFeed cvC (M 52 1) (M 53) a1 (nI a) = (-1000002, M 52 1, M 53) := by
             unfold fFeed
             rw [hc9]
             rw [if_neg (by assumption), if_pos (by assumption)]
           exact ⟨_, _, rfl, rfl, by rw [← hc9, hq, r4.1]; exact r4.2.fc⟩)
        | (have hq : fFeed cvC (M 52 1) (M 53) a1 (nI a) = (-1000002, M 52 1, M 53) := by
             unfold fFeed
             rw [hc9]
             rw [if_neg (by assumption), if_pos (by assumption)]
           exact ⟨_, _, rfl, rfl, by rw [← hc9, hq, r5.1]; exact r5.2.fc⟩)
        | (have hq : fFeed cvC (M 52 1) (M 53) a1 (nI a) = (-1000002, M 52 1, M 53) := by
             unfold fFeed
             rw [hc9]
             rw [if_neg (by assumption), if_pos (by assumption)]
           exact ⟨_, _, rfl, rfl, by rw [← hc9, hq, r6.1]; exact r6.2.fc⟩)
        | (have hq : fFeed cvC (M 52 1) (M 53) a1 (nI a) = (-1000002, M 52 1, M 53) := by
             unfold fFeed
             rw [hc9]
             rw [if_neg (by assumption), if_pos (by assumption)]
           exact ⟨_, _, rfl, rfl, by rw [← hc9, hq, r7.1]; exact r7.2.fc⟩)
        | (have hq : fFeed cvC (M 52 1) (M 53) a1 (nI a) = (-1000002, M 52 1, M 53) := by
             unfold fFeed
             rw [hc9]
             rw [if_neg (by assumption), if_pos (by assumption)]
           exact ⟨_, _, rfl, rfl, by rw [← hc9, hq, r8.1]; exact r8.2.fc⟩)
  · refine x_aload_n hm rfl rfl ?_
    refine x_ldcI hm rfl (v := (-1000001 : Int32)) (by decide +kernel) ?_
    refine x_cVi hm rfl rfl (t7 (by decide +kernel)) (fun v4 M4 r4 => ?_)
    refine x_iret hm rfl rfl (by first | rfl | exact bI_nar | decide) ?_
    first
      | (have hq : fFeed cvC (M 52 1) (M 53) a1 a2 = (-1000001, M 52 1, M 53) := by
           unfold fFeed
           rw [if_pos (by assumption)]
         exact ⟨_, _, rfl, rfl, by rw [hq, r4.1]; exact r4.2.fc⟩)
      | (have hq : fFeed cvC (M 52 1) (M 53) a1 a2 = (-1000001, M 52 1, M 53) := by
           unfold fFeed
           rw [if_pos (by assumption)]
         exact ⟨_, _, rfl, rfl, by rw [hq, r1.1]; exact r1.2.fc⟩)
      | (have hq : fFeed cvC (M 52 1) (M 53) a1 a2 = (-1000001, M 52 1, M 53) := by
           unfold fFeed
           rw [if_pos (by assumption)]
         exact ⟨_, _, rfl, rfl, by rw [hq, r2.1]; exact r2.2.fc⟩)
      | (have hq : fFeed cvC (M 52 1) (M 53) a1 a2 = (-1000001, M 52 1, M 53) := by
           unfold fFeed
           rw [if_pos (by assumption)]
         exact ⟨_, _, rfl, rfl, by rw [hq, r3.1]; exact r3.2.fc⟩)
      | (have hq : fFeed cvC (M 52 1) (M 53) a1 a2 = (-1000001, M 52 1, M 53) := by
           unfold fFeed
           rw [if_pos (by assumption)]
         exact ⟨_, _, rfl, rfl, by rw [hq, r5.1]; exact r5.2.fc⟩)
      | (have hq : fFeed cvC (M 52 1) (M 53) a1 a2 = (-1000001, M 52 1, M 53) := by
           unfold fFeed
           rw [if_pos (by assumption)]
         exact ⟨_, _, rfl, rfl, by rw [hq, r6.1]; exact r6.2.fc⟩)
      | (have hq : fFeed cvC (M 52 1) (M 53) a1 a2 = (-1000001, M 52 1, M 53) := by
           unfold fFeed
           rw [if_pos (by assumption)]
         exact ⟨_, _, rfl, rfl, by rw [hq, r7.1]; exact r7.2.fc⟩)
      | (have hq : fFeed cvC (M 52 1) (M 53) a1 a2 = (-1000001, M 52 1, M 53) := by
           unfold fFeed
           rw [if_pos (by assumption)]
         exact ⟨_, _, rfl, rfl, by rw [hq, r8.1]; exact r8.2.fc⟩)
theorem g89 : ∃ v M', mT X 89 [.ref 0] (con M) (some (.int v)) (con M') ∧ Fc (M 52 1, 0, M 53) v M M' := by
  refine ti_of (row := _) rfl (Nat.le_of_ble_eq_true rfl) ?_
  have hm : mMet 89 = some _ := rfl
  refine x_aload_n hm rfl rfl ?_
  refine x_getf hm rfl (gR rfl rfl) ?_
  refine x_getf hm rfl (gI rfl rfl) ?_
  refine x_istore_n hm rfl rfl ?_
  refine x_aload_n hm rfl rfl ?_
  refine x_getf hm rfl (gR rfl rfl) ?_
  refine x_iconst hm rfl (v := nI 0) (by decide) ?_
  refine x_putf hm rfl (pI rfl rfl (by decide) (by first | exact mFit_int | rfl | decide) rfl) ?_
  refine x_iload_n hm rfl rfl ?_
  refine x_iret hm rfl rfl (by first | rfl | exact bI_nar | decide) ?_
  exact ⟨_, _, rfl, rfl, rfl, mp0, mpo (by decide), fun a ha => mpo (by omega)⟩
theorem m218 {b nn : Int32} : ∀ (n j c : Nat) (M1 : mM), j < n → c + j ≤ 120 → M1 66 9 = nI c → mEv X (QI (fun v M' => v = nI (c + j) ∧ M' 66 9 = nI (c + j) ∧ M' 73 = fTp cvR b j c (M1 73) ∧ M' 66 3 = M1 66 3 ∧ M' 66 6 = M1 66 6 ∧ ∀ a, a ≠ 66 → a ≠ 73 → M' a = M1 a)) 218 38 [some (.ref 66), some (.int b), some (.int nn), some (.int (nI j + (-1)))] [] (con M1) := by
  have hm : mMet 218 = some _ := rfl
  intro n
  induction n with
  | zero =>
    intro j c M1 hj hc hm9
    omega
  | succ n ih =>
    intro j c M1 hj hc hm9
    refine x_iload_n hm rfl rfl ?_
    refine x_if_lt hm rfl (t := 77) rfl (fun h1 => ?_) (fun h1 => ?_)
    · obtain rfl : j = 0 := by
        cases j with
        | zero => rfl
        | succ i => rw [dec1] at h1; exact absurd h1 (jI_nn (by omega))
      refine x_aload_n hm rfl rfl ?_
      refine x_getf hm rfl (gI rfl rfl) ?_
      refine x_iret hm rfl rfl (by first | rfl | exact bI_nar | decide) ?_
      exact ⟨_, _, rfl, rfl, hm9, hm9, rfl, rfl, rfl, fun _ _ _ => rfl⟩
    · obtain ⟨i, rfl⟩ : ∃ i, j = i + 1 := by
        cases j with
        | zero => exact absurd (by decide) h1
        | succ i => exact ⟨i, rfl⟩
      rw [dec1]
      refine x_aload_n hm rfl rfl ?_
      refine x_getf hm rfl (gR rfl rfl) ?_
      refine x_aload_n hm rfl rfl ?_
      refine x_getf hm rfl (gI rfl rfl) ?_
      rw [hm9]
      refine x_iload_n hm rfl rfl ?_
      refine x_bipush hm rfl (v := nI 8) (by decide) ?_
      refine x_iload_n hm rfl rfl ?_
      refine x_imul hm rfl ?_
      refine x_ishr hm rfl ?_
      refine x_sipush hm rfl (v := nI 255) (by decide) ?_
      refine x_iand hm rfl ?_
      refine x_iast hm rfl (sI rfl (by omega) (by decide)) ?_
      refine x_aload_n hm rfl rfl ?_
      refine x_dup hm rfl rfl ?_
      refine x_getf hm rfl (gI rfl rfl) ?_
      rw [mput_ne (a := 73) (i := 66) (by decide), hm9]
      refine x_iconst hm rfl (v := nI 1) (by decide) ?_
      refine x_iadd hm rfl ?_
      rw [jI_add]
      refine x_putf hm rfl (pI rfl rfl (by decide) (by first | exact mFit_int | rfl | decide) rfl) ?_
      refine x_iinc hm rfl rfl (v := (-1 : Int32)) (by decide) rfl ?_
      refine x_goto hm rfl (t := 38) rfl ?_
      refine ev_mono (ih i (c + 1) _ (by omega) (by omega) mp0) (fun r0 D ⟨v, M3, g1, g2, g3, g4, g5, g6, g7, g8⟩ => ⟨v, M3, g1, g2, g3.trans (by congr 1; omega), g4.trans (by congr 1; omega), ?_, g6.trans ((mpf (by decide)).trans (congrFun (mpo (by decide)) 3)), g7.trans ((mpf (by decide)).trans (congrFun (mpo (by decide)) 6)), fun a h1 h2 => (g8 a h1 h2).trans ((mpo h1).trans (mpo h2))⟩)
      rw [g5, mpo (by decide)]
      show fTp cvR b i (c + 1) _ = fTp cvR b i (c + 1) _
      congr 1
      funext k
      unfold mput put1
      by_cases e : k = c
      · rw [if_pos ⟨rfl, e⟩, if_pos e]; rfl
      · rw [if_neg (fun z => e z.2), if_neg e]
theorem g218 {a1 a2 : Int32} {c : Nat} (hc9 : M 66 9 = nI c) (hc : c ≤ 120) : ∃ v M', mT X 218 [.ref 66, .int a1, .int a2] (con M) (some (.int v)) (con M') ∧ Fr (fFeed cvR (M 66 9) (M 73) a1 a2) v M M' := by
  refine ti_of (row := _) rfl (Nat.le_of_ble_eq_true rfl) ?_
  have hm : mMet 218 = some _ := rfl
  refine x_iload_n hm rfl rfl ?_
  refine x_iconst hm rfl (v := nI 1) (by decide) ?_
  refine x_iconst hm rfl (v := nI 4) (by decide) ?_
  refine x_callS hm rfl rfl (t133) ?_
  refine x_if_ne hm rfl (t := 16) rfl (fun h1 => ?_) (fun h1 => ?_)
  · obtain ⟨a, ha, ha1, rfl⟩ := le1_k (by omega) (bI_ne0 h1)
    refine x_aload_n hm rfl rfl ?_
    refine x_getf hm rfl (gI rfl rfl) ?_
    rw [hc9]
    refine x_iload_n hm rfl rfl ?_
    refine x_iadd hm rfl ?_
    refine x_bipush hm rfl (v := nI 120) (by decide) ?_
    refine x_icmp_le hm rfl (t := 34) rfl (fun h2 => ?_) (fun h2 => ?_)
    · have hng : ¬ nI 120 < nI c + nI a := Int32.not_lt.mpr h2
      have hle : c + a ≤ 120 := by
        rw [jI_add] at h2
        exact (jI_le (by omega) (by decide)).mp h2
      refine x_iload_n hm rfl rfl ?_
      refine x_iconst hm rfl (v := nI 1) (by decide) ?_
      refine x_isub hm rfl ?_
      rw [sub1]
      refine x_istore_n hm rfl rfl ?_
      have hq : fFeed cvR (M 66 9) (M 73) a1 (nI a) = (nI (c + a), nI (c + a), fTp cvR a1 a c (M 73)) := by
        unfold fFeed
        rw [hc9, if_neg (by assumption), if_neg (by assumption), jI_nat (by omega), jI_nat (by omega), jI_add]
      exact ev_mono (m218 _ a c _ (Nat.lt_succ_self _) hle hc9) (fun r0 D ⟨v, M3, g1, g2, g3, g4, g5, g6, g7, g8⟩ => ⟨v, M3, g1, g2, by rw [← hc9, hq]; exact ⟨g3, g4, g5, g6, g7, fun x h1 _ h3 => g8 x h1 h3⟩⟩)
    · have hps : nI 120 < nI c + nI a := Int32.not_le.mp h2
      refine x_aload_n hm rfl rfl ?_
      refine x_ldcI hm rfl (v := (-1000002 : Int32)) (by decide +kernel) ?_
      refine x_callV hm rfl rfl (e135 (by decide +kernel)) ?_
      refine x_iret hm rfl rfl (by first | rfl | exact bI_nar | decide) ?_
      have hq : fFeed cvR (M 66 9) (M 73) a1 (nI a) = (-1000002, M 66 9, M 73) := by
        unfold fFeed
        rw [hc9]
        rw [if_neg (by assumption), if_pos (by assumption)]
      exact ⟨_, _, rfl, rfl, by rw [← hc9, hq]; exact fnd_fr⟩
  · refine x_aload_n hm rfl rfl ?_
    refine x_ldcI hm rfl (v := (-1000001 : Int32)) (by decide +kernel) ?_
    refine x_callV hm rfl rfl (e135 (by decide +kernel)) ?_
    refine x_iret hm rfl rfl (by first | rfl | exact bI_nar | decide) ?_
    have hq : fFeed cvR (M 66 9) (M 73) a1 a2 = (-1000001, M 66 9, M 73) := by
      unfold fFeed
      rw [if_pos (by assumption)]
    exact ⟨_, _, rfl, rfl, by rw [hq]; exact fnd_fr⟩
theorem g219 : ∃ v M', mT X 219 [.ref 66] (con M) (some (.int v)) (con M') ∧ Fr (M 66 9, 0, M 73) v M M' := by
  refine ti_of (row := _) rfl (Nat.le_of_ble_eq_true rfl) ?_
  have hm : mMet 219 = some _ := rfl
  refine x_aload_n hm rfl rfl ?_
  refine x_getf hm rfl (gI rfl rfl) ?_
  refine x_istore_n hm rfl rfl ?_
  refine x_aload_n hm rfl rfl ?_
  refine x_iconst hm rfl (v := nI 0) (by decide) ?_
  refine x_putf hm rfl (pI rfl rfl (by decide) (by first | exact mFit_int | rfl | decide) rfl) ?_
  refine x_iload_n hm rfl rfl ?_
  refine x_iret hm rfl rfl (by first | rfl | exact bI_nar | decide) ?_
  exact ⟨_, _, rfl, rfl, rfl, mp0, mpo (by decide), mpf (by decide), mpf (by decide), fun a h _ _ => mpo h⟩
theorem j_feed {a1 a2 : Int32} (hJ : J M) : JJ X 87 218 [.ref 0, .int a1, .int a2] [.ref 66, .int a1, .int a2] M Eq := by
  obtain ⟨c, hc, hc9⟩ := ok4 (show okx 4 (M 66 9) from hJ.1.1 66 9)
  have h52 : M 52 1 = nI c := hJ.2.2.2.2.1.1.trans hc9
  obtain ⟨v, M1, k1, k2, a3, a4⟩ := mT.both (t87 (X := X) (a1 := a1) (a2 := a2) hJ.1.1) (g87 h52 hc) (fun _ _ h => h.cn hJ.2.1) (fun _ _ h => h.cn hJ.2.1)
  obtain ⟨w, M2, b1, b2, b3, b4⟩ := mT.both (t218 (X := X) (a1 := a1) (a2 := a2) (a3.inv hJ.1)) (g218 (by rw [a3.2 66 (by decide)]; exact hc9) hc) (fun _ _ h => h.cn) (fun _ _ h => h.cn k2)
  have hT := Tr.feed (c := M 52 1) (T := M 53) (S := M1 73) (a1 := a1) (a2 := a2) (by rw [a3.2 73 (by decide)]; exact hJ.2.2.2.2.1.2)
  have e9 : M1 66 9 = M 52 1 := by rw [a3.2 66 (by decide)]; exact hJ.2.2.2.2.1.1.symm
  rw [e9] at b4
  exact ⟨v, M1, w, M2, k1, b1, hJ.tape a3 a4 b3 b2 b4 hT.2.1 hT.1, a4.1.trans (hT.2.2.trans b4.1.symm)⟩
theorem j_wipe (hJ : J M) : JJ X 89 219 [.ref 0] [.ref 66] M Eq := by
  obtain ⟨v, M1, a1, a2, a3, a4⟩ := mT.both (t89 (X := X) hJ.1.1) g89 (fun _ _ h => h.cn hJ.2.1) (fun _ _ h => h.cn hJ.2.1)
  obtain ⟨w, M2, b1, b2, b3, b4⟩ := mT.both (t219 (X := X) (a3.inv hJ.1)) g219 (fun _ _ h => h.cn) (fun _ _ h => h.cn a2)
  refine ⟨v, M1, w, M2, a1, b1, hJ.tape a3 a4 b3 b2 b4 rfl ?_, ?_⟩
  · show Tr (M 53) (M1 73)
    rw [a3.2 73 (by decide)]
    exact hJ.2.2.2.2.1.2
  · rw [a4.1, b4.1, a3.2 66 (by decide)]
    exact hJ.2.2.2.2.1.1
end EU
end
