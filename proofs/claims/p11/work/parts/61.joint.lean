/-! ===== two contracts of one call speak of one world ===== -/
theorem mT.det {X : mSc} {m : Nat} {as : List Value} {D D1 D2 : mHp} {r1 r2 : Option Value} (h : mT X m as D r1 D1) (g : mT X m as D r2 D2) : r1 = r2 ∧ D1 = D2 := by
  obtain ⟨row, n, h1, h2, h3⟩ := h
  obtain ⟨row', k, g1, g2, g3⟩ := g
  obtain rfl : row = row' := Option.some.inj (h1.symm.trans g1)
  have e1 := mRun_more X n _ _ _ _ _ _ k h3
  have e2 := mRun_more X k _ _ _ _ _ _ n g3
  rw [Nat.add_comm] at e2
  have e := Option.some.inj (e1.symm.trans e2)
  exact ⟨congrArg Prod.fst e, congrArg Prod.snd e⟩
/-- a cell's numbers, nothing where no number is -/
def cnc (k : Nat) (f : Nat → Int32) : Nat → Int32 := fun b => match mSp[k]? with
  | some (t, _, fs) => if t = 0 ∨ t = 1 ∨ (t = 5 ∧ fs[b]? = some 0) then f b else 0
  | none => 0
def cnm (M : mM) : mM := fun k => cnc k (M k)
theorem cnc_or (k : Nat) (f : Nat → Int32) (b : Nat) : cnc k f b = f b ∨ cnc k f b = 0 := by
  unfold cnc
  cases mSp[k]? with
  | none => exact Or.inr rfl
  | some q =>
    dsimp only
    by_cases h : q.1 = 0 ∨ q.1 = 1 ∨ (q.1 = 5 ∧ q.2.2[b]? = some 0)
    · exact Or.inl (if_pos h)
    · exact Or.inr (if_neg h)
theorem cnc_y {k t n : Nat} {fs : List Nat} {f : Nat → Int32} {b : Nat} (h : mSp[k]? = some (t, n, fs)) (g : t = 0 ∨ t = 1 ∨ (t = 5 ∧ fs[b]? = some 0)) : cnc k f b = f b := by
  unfold cnc
  rw [h]
  exact if_pos g
theorem cnc_n {k t n : Nat} {fs : List Nat} {f : Nat → Int32} {b : Nat} (h : mSp[k]? = some (t, n, fs)) (g : ¬ (t = 0 ∨ t = 1 ∨ (t = 5 ∧ fs[b]? = some 0))) : cnc k f b = 0 := by
  unfold cnc
  rw [h]
  exact if_neg g
theorem cell_cn {M : mM} {k : Nat} {q : Nat × Nat × List Nat} (h : mSp[k]? = some q) : mCellv (cnm M) k q = mCellv M k q := by
  obtain ⟨t, n, fs⟩ := q
  have e0 : t = 0 ∨ t = 1 → cnm M k = M k := fun g => funext fun b => cnc_y h (g.elim Or.inl fun e => Or.inr (Or.inl e))
  have e5 : t = 5 → ∀ b, fs[b]? = some 0 → cnm M k b = M k b := fun g b hb => cnc_y h (Or.inr (Or.inr ⟨g, hb⟩))
  unfold mCellv
  split
  · rename_i ht
    rw [e0 (Or.inl ht)]
  · rename_i ht
    rw [e0 (Or.inr ht)]
  · rename_i ht
    congr 2
    refine List.map_congr_left fun x hx => ?_
    have hg := List.mem_zipIdx hx
    split
    · rename_i h0
      congr 1
      refine e5 ht _ ?_
      rw [List.getElem?_eq_getElem (by simpa using hg.2.1)]
      have := hg.2.2
      simp only [Nat.sub_zero] at this
      rw [← this, h0]
    · rfl
  · rfl
theorem con_cn {M : mM} : con (cnm M) = con M := by
  refine List.ext_getElem? fun i => ?_
  cases hs : mSp[i]? with
  | none =>
    have hl : mSp.length = 80 := rfl
    have := List.getElem?_eq_none_iff.mp hs
    rw [con_none (by omega), con_none (by omega)]
  | some qi => rw [con_get hs, con_get hs, cell_cn hs]
theorem cn_of_con {M N : mM} (h : con M = con N) : cnm M = cnm N := by
  funext k b
  show cnc k (M k) b = cnc k (N k) b
  cases hs : mSp[k]? with
  | none =>
    unfold cnc
    rw [hs]
  | some q =>
    obtain ⟨t, n, fs⟩ := q
    have e := con_get (M := M) hs
    rw [h, con_get hs] at e
    have e1 := Option.some.inj e
    by_cases g : t = 0 ∨ t = 1 ∨ (t = 5 ∧ fs[b]? = some 0)
    · rw [cnc_y hs g, cnc_y hs g]
      unfold mCellv at e1
      rcases g with rfl | rfl | ⟨rfl, hb⟩
      · injection e1 with e2
        injection e2 with _ e3
        injection e3 with _ e4
        injection e4 with e5
        exact congrFun e5.symm b
      · injection e1 with e2
        injection e2 with _ e3
        injection e3 with _ e4
        injection e4 with e5
        exact congrFun e5.symm b
      · injection e1 with e2
        injection e2 with _ e3
        have e4 := congrArg (fun l => l[b]?) e3
        dsimp only at e4
        rw [con_fld, con_fld, hb] at e4
        have e5 := Option.some.inj e4
        injection e5 with e6
        exact e6.symm
    · rw [cnc_n hs g, cnc_n hs g]
theorem cn_cn {M : mM} : cnm (cnm M) = cnm M := cn_of_con con_cn
theorem cn_fr {M N : mM} {a : Nat} (hM : cnm M = M) (h : N a = M a) : cnm N a = M a := by
  show cnc a (N a) = M a
  rw [h]
  exact congrFun hM a
theorem Wf.cn {N : mM} (h : Wf N) : Wf (cnm N) := by
  intro a b
  rcases cnc_or a (N a) b with e | e
  · show okx _ (cnc a (N a) b)
    rw [e]
    exact h a b
  · show okx _ (cnc a (N a) b)
    rw [e]
    unfold okx
    split
    · trivial
    all_goals decide
theorem Inv.cn {N : mM} (h : Inv N) : Inv (cnm N) := ⟨h.1.cn, h.2.1, h.2.2⟩
theorem Ck.cn {M N : mM} (hM : cnm M = M) (h : Ck M N) : Ck M (cnm N) := ⟨h.1.cn, fun a ha => cn_fr hM (h.2 a ha)⟩
theorem Cq.cn {M N : mM} (hM : cnm M = M) (h : Cq M N) : Cq M (cnm N) := ⟨h.1.cn, fun a ha => cn_fr hM (h.2 a ha)⟩
theorem Iq.cn {M N : mM} (hM : cnm M = M) (h : Iq M N) : Iq M (cnm N) := ⟨h.1.cn, fun a ha => cn_fr hM (h.2 a ha)⟩
theorem Rel.cn {b nt np : Nat} {N : mM} {r : Nat → Int32} (hb : b = 1 ∨ b = 18 ∨ b = 35) (h : Rel b nt np N r) : Rel b nt np (cnm N) r := by
  obtain ⟨h1, h2, h3, h4, h5, h6, h7⟩ := h
  have hc : ∀ j, 1 ≤ j → j ≤ 16 → j ≠ 1 → j ≠ 8 → cnm N (b + j) = N (b + j) := by
    intro j g1 g2 g3 g4
    rcases hb with rfl | rfl | rfl <;> (have e : j = 2 ∨ j = 3 ∨ j = 4 ∨ j = 5 ∨ j = 6 ∨ j = 7 ∨ j = 9 ∨ j = 10 ∨ j = 11 ∨ j = 12 ∨ j = 13 ∨ j = 14 ∨ j = 15 ∨ j = 16 := by omega) <;> rcases e with rfl | rfl | rfl | rfl | rfl | rfl | rfl | rfl | rfl | rfl | rfl | rfl | rfl | rfl <;> rfl
  have hs : ∀ x, 3 ≤ x → x ≤ 7 → cnm N b x = N b x := by
    intro x g1 g2
    have e : x = 3 ∨ x = 4 ∨ x = 5 ∨ x = 6 ∨ x = 7 := by omega
    rcases hb with rfl | rfl | rfl <;> rcases e with rfl | rfl | rfl | rfl | rfl <;> rfl
  refine ⟨(hs 3 (by omega) (by omega)).trans h1, (hs 4 (by omega) (by omega)).trans h2, (hs 5 (by omega) (by omega)).trans h3, (hs 6 (by omega) (by omega)).trans h4, fun s h => ?_, fun f t hf ht => ?_, fun f p hf hp => ?_⟩
  · rw [hc 16 (by omega) (by omega) (by omega) (by omega)]; exact h5 s h
  · rw [Nat.add_assoc, hc (2 + f) (by omega) (by omega) (by omega) (by omega), ← Nat.add_assoc]; exact h6 f t hf ht
  · rw [Nat.add_assoc, hc (9 + f) (by omega) (by omega) (by omega) (by omega), ← Nat.add_assoc]; exact h7 f p hf hp
section BO
variable {X : mSc} {M : mM} {m : Nat} {as : List Value} {P Q : Int32 → mM → Prop}
/-- both of two contracts hold, and the world has no number where none is -/
theorem mT.both (h : ∃ v M1, mT X m as (con M) (some (.int v)) (con M1) ∧ P v M1) (g : ∃ v M1, mT X m as (con M) (some (.int v)) (con M1) ∧ Q v M1) (hP : ∀ v N, P v N → P v (cnm N)) (hQ : ∀ v N, Q v N → Q v (cnm N)) : ∃ v N, mT X m as (con M) (some (.int v)) (con N) ∧ cnm N = N ∧ P v N ∧ Q v N := by
  obtain ⟨v, M1, h1, h2⟩ := h
  obtain ⟨w, M2, g1, g2⟩ := g
  obtain ⟨e1, e2⟩ := h1.det g1
  injection e1 with e3
  injection e3 with e4
  subst e4
  have e5 := cn_of_con e2
  refine ⟨v, cnm M1, by rw [con_cn]; exact h1, cn_cn, hP _ _ h2, ?_⟩
  rw [e5]
  exact hQ _ _ g2
theorem mT.one (h : ∃ v M1, mT X m as (con M) (some (.int v)) (con M1) ∧ P v M1) (hP : ∀ v N, P v N → P v (cnm N)) : ∃ v N, mT X m as (con M) (some (.int v)) (con N) ∧ cnm N = N ∧ P v N := by
  obtain ⟨v, M1, h1, h2⟩ := h
  exact ⟨v, cnm M1, by rw [con_cn]; exact h1, cn_cn, hP _ _ h2⟩
end BO
/-- numbers of a row in their ranges -/
def Vr (nt np : Nat) (r : Nat → Int32) : Prop :=
  (∃ k, k ≤ 99999 ∧ r 0 = nI k) ∧ (∀ s, s < 10 → r (4 + s) = -1 ∨ ∃ k, k < np ∧ r (4 + s) = nI k)
  ∧ (∀ t, t < nt → (∃ k, k ≤ 15 ∧ r (14 + 6 * t + 1) = nI k) ∧ (∃ k, k ≤ 999 ∧ r (14 + 6 * t + 2) = nI k) ∧ ∃ k, k ≤ 9 ∧ r (14 + 6 * t + 3) = nI k)
  ∧ (∀ p, p < np → (∃ k, k ≤ 15 ∧ r (62 + 7 * p + 1) = nI k) ∧ (∃ k, k ≤ 15 ∧ r (62 + 7 * p + 2) = nI k) ∧ ∀ s, s < 4 → ∃ k, k ≤ 9 ∧ r (62 + 7 * p + (3 + s)) = nI k)
/-- a town of the class is as a row of the reference -/
def JT (b a : Nat) (M : mM) : Prop := ∃ nt np, Rel b nt np M (M a) ∧ M a 1 = nI nt ∧ M a 2 = nI np ∧ Vs nt np (M a) ∧ Vr nt np (M a) ∧ M b 7 = -1
theorem JT.of {b a : Nat} {M N : mM} (h : JT b a M) (hb : ∀ c, b ≤ c → c ≤ b + 16 → N c = M c) (ha : N a = M a) : JT b a N := by
  obtain ⟨nt, np, h1, h2, h3, h4, h5, h6⟩ := h
  have hB := hb b (Nat.le_refl _) (by omega)
  refine ⟨nt, np, ?_, by rw [ha]; exact h2, by rw [ha]; exact h3, by rw [ha]; exact h4, by rw [ha]; exact h5, by rw [hB]; exact h6⟩
  rw [ha]
  obtain ⟨g1, g2, g3, g4, g5, g6, g7⟩ := h1
  exact ⟨by rw [hB]; exact g1, by rw [hB]; exact g2, by rw [hB]; exact g3, by rw [hB]; exact g4, fun s hs => by rw [hb _ (by omega) (by omega)]; exact g5 s hs, fun f t hf ht => by rw [hb _ (by omega) (by omega)]; exact g6 f t hf ht, fun f p hf hp => by rw [hb _ (by omega) (by omega)]; exact g7 f p hf hp⟩
/-- sheets, tape, image -/
def JS (M : mM) : Prop := ∀ s, s < 4 → M (2 * s + 58) 1 = M 76 s ∧ M (2 * s + 58) 2 = M 77 s ∧ (M 76 s = 0 ∨ M 76 s = nI 8 ∨ M 76 s = nI 16 ∨ M 76 s = nI 32) ∧ ∀ j, j < 40 → M (2 * s + 59) j = M 78 (40 * s + j)
def JP (M : mM) : Prop := M 52 1 = M 66 9 ∧ ∀ k, k < 120 → M 73 k = M 53 k &&& 255 ∧ M 53 k = (M 73 k).toInt8.toInt32
def JI (M : mM) : Prop := (M 66 3 = 0 ∧ M 0 6 = 0) ∨ (M 66 3 = nI 1 ∧ M 0 6 = nI 1 ∧ JT 18 68 M)
def J (M : mM) : Prop := Inv M ∧ cnm M = M ∧ JT 1 67 M ∧ JI M ∧ JP M ∧ JS M ∧ M 66 6 = -1
theorem JS.of {M N : mM} (h : JS M) (h1 : ∀ c, 58 ≤ c → c ≤ 65 → N c = M c) (h2 : N 76 = M 76) (h3 : N 77 = M 77) (h4 : N 78 = M 78) : JS N := by
  intro s hs
  obtain ⟨g1, g2, g3, g4⟩ := h s hs
  exact ⟨by rw [h1 _ (by omega) (by omega), h2]; exact g1, by rw [h1 _ (by omega) (by omega), h3]; exact g2, by rw [h2]; exact g3, fun j hj => by rw [h1 _ (by omega) (by omega), h4]; exact g4 j hj⟩
theorem JP.of {M N : mM} (h : JP M) (h1 : N 52 1 = M 52 1) (h2 : N 66 9 = M 66 9) (h3 : N 73 = M 73) (h4 : N 53 = M 53) : JP N :=
  ⟨by rw [h1, h2]; exact h.1, fun k hk => by rw [h3, h4]; exact h.2 k hk⟩
theorem JI.of {M N : mM} (h : JI M) (h1 : N 0 6 = M 0 6) (h2 : N 66 3 = M 66 3) (h3 : ∀ c, 18 ≤ c → c ≤ 34 → N c = M c) (h4 : N 68 = M 68) : JI N := by
  rcases h with ⟨g1, g2⟩ | ⟨g1, g2, g3⟩
  · exact Or.inl ⟨h2.trans g1, h1.trans g2⟩
  · exact Or.inr ⟨h2.trans g1, h1.trans g2, g3.of (fun c a b => h3 c a (by omega)) h4⟩
/-- the class asked -/
theorem J.qc {M N : mM} (h : J M) (hN : cnm N = N) (g : Cq M N) : J N := by
  obtain ⟨h1, h2, h3, h4, h5, h6, h7⟩ := h
  have k : ∀ a, 66 ≤ a → N a = M a := fun a ha => g.2 a (Or.inl ha)
  have c : ∀ a, a < 35 → N a = M a := fun a ha => g.2 a (Or.inr ⟨by omega, by omega, by omega, by omega⟩)
  refine ⟨⟨g.1, by rw [k 67 (by decide)]; exact h1.2.1, by rw [k 68 (by decide)]; exact h1.2.2⟩, hN, h3.of (fun x _ hx => c x (by omega)) (k 67 (by decide)), h4.of (by rw [c 0 (by decide)]) (by rw [k 66 (by decide)]) (fun x _ hx => c x (by omega)) (k 68 (by decide)),
    h5.of (by rw [g.2 52 (by decide)]) (by rw [k 66 (by decide)]) (k 73 (by decide)) (g.2 53 (by decide)), h6.of (fun x _ _ => g.2 x (by omega)) (k 76 (by decide)) (k 77 (by decide)) (k 78 (by decide)), by rw [k 66 (by decide)]; exact h7⟩
/-- what asking leaves of the reference, as far as J goes -/
def Rq (M M' : mM) : Prop := Inv M' ∧ (∀ a, a ≠ 66 → a ≠ 69 → a ≠ 70 → a ≠ 71 → a ≠ 72 → M' a = M a) ∧ M' 66 3 = M 66 3 ∧ M' 66 6 = M 66 6 ∧ M' 66 9 = M 66 9
theorem Iq.rq {M M' : mM} (h : Iq M M') : Rq M M' := ⟨h.1, fun a _ _ h3 _ _ => h.2 a h3, by rw [h.2 66 (by decide)], by rw [h.2 66 (by decide)], by rw [h.2 66 (by decide)]⟩
theorem Rq.cn {M N : mM} (hM : cnm M = M) (h : Rq M N) : Rq M (cnm N) := ⟨h.1.cn, fun a h1 h2 h3 h4 h5 => cn_fr hM (h.2.1 a h1 h2 h3 h4 h5), h.2.2.1, h.2.2.2.1, h.2.2.2.2⟩
theorem J.qr {M N : mM} (h : J M) (hN : cnm N = N) (g : Rq M N) : J N := by
  obtain ⟨h1, h2, h3, h4, h5, h6, h7⟩ := h
  obtain ⟨g1, g2, g3, g4, g5⟩ := g
  have c : ∀ a, a < 66 → N a = M a := fun a ha => g2 a (by omega) (by omega) (by omega) (by omega) (by omega)
  exact ⟨g1, hN, h3.of (fun x _ hx => c x (by omega)) (g2 67 (by decide) (by decide) (by decide) (by decide) (by decide)), h4.of (by rw [c 0 (by decide)]) g3 (fun x _ hx => c x (by omega)) (g2 68 (by decide) (by decide) (by decide) (by decide) (by decide)),
    h5.of (by rw [c 52 (by decide)]) g5 (g2 73 (by decide) (by decide) (by decide) (by decide) (by decide)) (c 53 (by decide)), h6.of (fun x _ _ => c x (by omega)) (g2 76 (by decide) (by decide) (by decide) (by decide) (by decide)) (g2 77 (by decide) (by decide) (by decide) (by decide) (by decide)) (g2 78 (by decide) (by decide) (by decide) (by decide) (by decide)), g4.trans h7⟩
