section
/-! ===== what asking what will be rests on: pure facts ===== -/
section PQ
variable {nt np : Nat} {r q : Nat → Int32} {w : Int32}
/-- alike but for the day -/
def Eq0 (q r : Nat → Int32) : Prop := ∀ j, j ≠ 0 → q j = r j
theorem Eq0.eq (h : Eq0 q r) : q = put1 r 0 (q 0) := by
  funext j
  by_cases e : j = 0
  · subst e; exact put1_s.symm
  · rw [put1_o e]; exact h j e
theorem sEnv_0 {v o : Int32} {p t : Nat} : sEnv (put1 r 0 v) w o p t = sEnv r w o p t := by
  unfold sEnv sPl sRi sPl
  simp (disch := omega) only [put1_o]
theorem sWs_0 {v : Int32} {t : Nat} : ∀ k, sWs (put1 r 0 v) w t k = sWs r w t k := by
  intro k
  unfold sWs
  refine fo_c k _ fun p s _ => ?_
  simp (disch := omega) only [put1_o, sEnv_0]
theorem sWear_0 {v : Int32} {t : Nat} : sWear (put1 r 0 v) w np t = sWear r w np t := by
  unfold sWear
  rw [sWs_0, put1_o (by omega)]
theorem Eq0.put (h : Eq0 q r) {i : Nat} {v v' : Int32} (e : v = v') : Eq0 (put1 q i v) (put1 r i v') := by
  intro j hj
  subst e
  by_cases g : j = i
  · subst g; rw [put1_s, put1_s]
  · rw [put1_o g, put1_o g]; exact h j hj
theorem Eq0.worn (h : Eq0 q r) : ∀ n, Eq0 (sWorn q w np n q) (sWorn r w np n r) := by
  intro n
  induction n with
  | zero => exact h
  | succ n ih =>
    refine ih.put ?_
    have e := ih (14 + 6 * n + 2) (by omega)
    have e2 : sWear q w np n = sWear r w np n := by
      rw [h.eq]
      exact sWear_0
    show sWorn q w np n q (14 + 6 * n + 2) - sWear q w np n = sWorn r w np n r (14 + 6 * n + 2) - sWear r w np n
    rw [e, e2]
theorem Eq0.fp1 {s : Int32} (h : Eq0 q r) (t : Nat) : Eq0 (sFp1 t (q, s)).1 (sFp1 t (r, s)).1 ∧ (sFp1 t (q, s)).2 = (sFp1 t (r, s)).2 := by
  have e2 := h (14 + 6 * t + 2) (by omega)
  have e5 := h (14 + 6 * t + 5) (by omega)
  have e6 := h (14 + 6 * (r (14 + 6 * t + 5)).toNatClampNeg + 2) (by omega)
  by_cases g : ¬ r (14 + 6 * t + 2) = 0 ∧ ¬ r (14 + 6 * t + 5) < 0 ∧ r (14 + 6 * (r (14 + 6 * t + 5)).toNatClampNeg + 2) = 0
  · have g' : ¬ q (14 + 6 * t + 2) = 0 ∧ ¬ q (14 + 6 * t + 5) < 0 ∧ q (14 + 6 * (q (14 + 6 * t + 5)).toNatClampNeg + 2) = 0 := by rw [e2, e5, e6]; exact g
    rw [show sFp1 t (q, s) = (put1 q (14 + 6 * t + 2) (nI 0), nI 1) from if_pos g', show sFp1 t (r, s) = (put1 r (14 + 6 * t + 2) (nI 0), nI 1) from if_pos g]
    exact ⟨h.put rfl, rfl⟩
  · have g' : ¬ (¬ q (14 + 6 * t + 2) = 0 ∧ ¬ q (14 + 6 * t + 5) < 0 ∧ q (14 + 6 * (q (14 + 6 * t + 5)).toNatClampNeg + 2) = 0) := by rw [e2, e5, e6]; exact g
    rw [show sFp1 t (q, s) = (q, s) from if_neg g', show sFp1 t (r, s) = (r, s) from if_neg g]
    exact ⟨h, rfl⟩
theorem Eq0.fp (h : Eq0 q r) : ∀ n, Eq0 (sFp n q).1 (sFp n r).1 ∧ (sFp n q).2 = (sFp n r).2 := by
  intro n
  induction n with
  | zero => exact ⟨h, rfl⟩
  | succ n ih =>
    have e := ih.1.fp1 (s := (sFp n q).2) n
    rw [show ((sFp n r).1, (sFp n q).2) = sFp n r by rw [ih.2]] at e
    exact e
theorem Eq0.fall {n : Nat} : ∀ (f : Nat) {q r : Nat → Int32}, Eq0 q r → Eq0 (sFall n f q) (sFall n f r) := by
  intro f
  induction f with
  | zero => exact fun h => h
  | succ f ih =>
    intro q r h
    obtain ⟨h1, h2⟩ := h.fp n
    by_cases g : (sFp n r).2 = nI 0
    · rw [show sFall n (f + 1) q = (sFp n q).1 from if_pos (h2.trans g), show sFall n (f + 1) r = (sFp n r).1 from if_pos g]
      exact h1
    · rw [show sFall n (f + 1) q = sFall n f (sFp n q).1 from if_neg (fun e => g (h2.symm.trans e)), show sFall n (f + 1) r = sFall n f (sFp n r).1 from if_neg g]
      exact ih h1
theorem Eq0.go (h : Eq0 q r) : ∀ n, Eq0 (sGo n q) (sGo n r) := by
  intro n
  induction n with
  | zero => exact h
  | succ n ih =>
    refine ih.put ?_
    have e := ih (62 + 7 * n + 1) (by omega)
    have e2 := ih (62 + 7 * n + 2) (by omega)
    show rem16 (sGo n q (62 + 7 * n + 1) + sGo n q (62 + 7 * n + 2)) = rem16 (sGo n r (62 + 7 * n + 1) + sGo n r (62 + 7 * n + 2))
    rw [e, e2]
theorem Eq0.day (h : Eq0 q r) : Eq0 (sDay w nt np q) (sDay w nt np r) := by
  intro j hj
  show put1 _ 0 _ j = put1 _ 0 _ j
  rw [put1_o hj, put1_o hj]
  exact (Eq0.fall 8 (h.worn nt)).go np j hj
theorem Eq0.days (h : Eq0 q r) : ∀ n, Eq0 (sDays w nt np n q) (sDays w nt np n r) := by
  intro n
  induction n with
  | zero => exact h
  | succ n ih => exact ih.day
theorem Gd.d0 (h : Gd nt np r) : Gd nt np (put1 r 0 (nI 0)) := by
  obtain ⟨h1, h2, ⟨v1, v2, v3, v4⟩, ⟨w1, w2, w3, w4⟩⟩ := h
  refine ⟨(put1_o (by decide)).trans h1, (put1_o (by decide)).trans h2, ⟨v1, v2, fun t ht => ?_, fun q hq => ?_⟩, ⟨⟨0, by decide, put1_s⟩, fun z hz => ?_, fun t ht => ?_, fun q hq => ?_⟩⟩
  · rw [put1_o (by omega), put1_o (by omega), put1_o (by omega)]; exact v3 t ht
  · rw [put1_o (by omega)]; exact v4 q hq
  · rw [put1_o (by omega)]; exact w2 z hz
  · rw [put1_o (by omega), put1_o (by omega), put1_o (by omega)]; exact w3 t ht
  · obtain ⟨g1, g2, g3⟩ := w4 q hq
    rw [put1_o (by omega), put1_o (by omega)]
    exact ⟨g1, g2, fun z hz => by rw [put1_o (by omega)]; exact g3 z hz⟩
theorem Eq0.rst {v : Int32} : Eq0 r (put1 r 0 v) := fun j hj => (put1_o hj).symm
theorem days_le (h : Gd nt np r) {n t : Nat} (hn : n ≤ 1000) (ht : t < nt) : Le 999 (sDays w nt np n r (14 + 6 * t + 2)) := by
  rw [(Eq0.rst (r := r) (v := nI 0)).days n _ (by omega)]
  exact ((h.d0.days (w := w) (d := 0) put1_s n (by omega)).1.2.2.2.2.2.1 t ht).2.1
theorem thick_le : ∀ n, (∀ t, t < n → Le 999 (r (14 + 6 * t + 2))) → Le (999 * n) (sThick r n) := by
  intro n
  induction n with
  | zero => exact fun _ => ⟨0, Nat.zero_le _, rfl⟩
  | succ n ih =>
    intro h
    obtain ⟨a, ha, ea⟩ := ih fun t ht => h t (by omega)
    obtain ⟨b, hb, eb⟩ := h n (Nat.lt_succ_self n)
    refine ⟨a + b, by omega, ?_⟩
    show sThick r n + r (14 + 6 * n + 2) = _
    rw [ea, eb, jI_add]
theorem lost_le (h : Gd nt np r) {n : Nat} (hn : n ≤ 1000) : Le 8000 (sThick (sDays w nt np n r) nt) := by
  obtain ⟨k, hk, e⟩ := thick_le nt fun t ht => days_le (w := w) h hn ht
  have := h.2.2.1.1
  exact ⟨k, by omega, e⟩
theorem thick_o {pl : Nat} {v : Int32} (h : ∀ t, t < nt → ¬ 14 + 6 * t + 2 = pl) : sThick (put1 r pl v) nt = sThick r nt := fo_c nt _ fun t s ht => by rw [put1_o (h t ht)]
/-- the class's choice: what leaves most, the first of them -/
def sCl (L : Nat → Int32) (k : Nat) (z : Int32 × Int32) : Int32 × Int32 := if z.2 < L k then (nI k, L k) else z
theorem cmp_k {x l m : Nat} (hx : x ≤ 8000) (hl : l ≤ 8000) (hm : m ≤ 8000) : nI x - nI l < nI x - nI m ↔ nI m < nI l := by
  rw [Int32.lt_iff_toInt_lt, Int32.lt_iff_toInt_lt, Int32.toInt_sub, Int32.toInt_sub, jI_int (by omega), jI_int (by omega), jI_int (by omega), Int.bmod_def, Int.bmod_def]
  omega
theorem cmp_m {x l : Nat} (hx : x ≤ 8000) (hl : l ≤ 8000) : nI x - nI l < nI 2147483647 := by
  rw [Int32.lt_iff_toInt_lt, Int32.toInt_sub, jI_int (by omega), jI_int (by omega), jI_int (by decide), Int.bmod_def]
  omega
theorem neg1_lt {l : Nat} (hl : l ≤ 8000) : (-1 : Int32) < nI l := by
  rw [Int32.lt_iff_toInt_lt, jI_int (by omega), show (-1 : Int32).toInt = -1 from by decide]
  omega
theorem mn2_t {x y : Int32} (h : y < x) : mn2 x y = y := if_pos h
theorem mn2_f {x y : Int32} (h : ¬ y < x) : mn2 x y = x := if_neg h
/-- least lost is most left -/
theorem pick_lost {T : Int32} {L : Nat → Int32} {F : Nat → Int32 × Int32 → Int32 × Int32} {c : Nat} {b0 b1 : Int32} (hT : Le 8000 T) (hL : ∀ k, k < c → Le 8000 (L k)) (hF : ∀ k z, k < c → F k z = (if T - L k < z.2 then nI k else z.1, mn2 z.2 (T - L k))) (hb : 0 < c ∨ b0 = b1) : (fo F c (b0, nI 2147483647)).1 = (fo (sCl L) c (b1, -1)).1 := by
  obtain ⟨x, hx, rfl⟩ := hT
  have main : ∀ k, k ≤ c → 0 < k → (fo F k (b0, nI 2147483647)).1 = (fo (sCl L) k (b1, -1)).1 ∧ ∃ m, m ≤ 8000 ∧ (fo (sCl L) k (b1, -1)).2 = nI m ∧ (fo F k (b0, nI 2147483647)).2 = nI x - nI m := by
    intro k
    induction k with
    | zero => exact fun _ h => absurd h (Nat.lt_irrefl _)
    | succ k ih =>
      intro hk _
      obtain ⟨l, hl, el⟩ := hL k hk
      show (F k (fo F k (b0, nI 2147483647))).1 = (sCl L k (fo (sCl L) k (b1, -1))).1 ∧ ∃ m, m ≤ 8000 ∧ (sCl L k (fo (sCl L) k (b1, -1))).2 = nI m ∧ (F k (fo F k (b0, nI 2147483647))).2 = nI x - nI m
      rw [hF k _ hk, el]
      by_cases h0 : k = 0
      · subst h0
        rw [show fo F 0 (b0, nI 2147483647) = (b0, nI 2147483647) from rfl, show sCl L 0 (fo (sCl L) 0 (b1, -1)) = (nI 0, L 0) from if_pos (by rw [el]; exact neg1_lt hl)]
        dsimp only
        rw [if_pos (cmp_m hx hl), mn2_t (cmp_m hx hl)]
        exact ⟨rfl, l, hl, el, rfl⟩
      · obtain ⟨e1, m, hm, e2, e3⟩ := ih (by omega) (by omega)
        dsimp only
        rw [e3]
        by_cases g : nI m < nI l
        · rw [show sCl L k (fo (sCl L) k (b1, -1)) = (nI k, L k) from if_pos (by rw [e2, el]; exact g), if_pos ((cmp_k hx hl hm).mpr g), mn2_t ((cmp_k hx hl hm).mpr g)]
          exact ⟨rfl, l, hl, el, rfl⟩
        · rw [show sCl L k (fo (sCl L) k (b1, -1)) = fo (sCl L) k (b1, -1) from if_neg (by rw [e2, el]; exact g), if_neg (fun z => g ((cmp_k hx hl hm).mp z)), mn2_f (fun z => g ((cmp_k hx hl hm).mp z))]
          exact ⟨e1, m, hm, e2, rfl⟩
  rcases Nat.eq_zero_or_pos c with h | h
  · subst h
    exact hb.resolve_left (Nat.lt_irrefl _)
  · exact (main c (Nat.le_refl _) h).1
theorem pick_most {L : Nat → Int32} {F : Nat → Int32 × Int32 → Int32 × Int32} {c : Nat} {b0 b1 : Int32} (hL : ∀ k, k < c → Le 8000 (L k)) (hF : ∀ k z, k < c → F k z = (if z.2 < L k then nI k else z.1, if z.2 < L k then L k else z.2)) (hb : 0 < c) : (fo F c (b0, -1)).1 = (fo (sCl L) c (b1, -1)).1 := by
  have main : ∀ k, k ≤ c → 0 < k → fo F k (b0, -1) = fo (sCl L) k (b1, -1) := by
    intro k
    induction k with
    | zero => exact fun _ h => absurd h (Nat.lt_irrefl _)
    | succ k ih =>
      intro hk _
      obtain ⟨l, hl, el⟩ := hL k hk
      show F k (fo F k (b0, -1)) = sCl L k (fo (sCl L) k (b1, -1))
      rw [hF k _ hk]
      by_cases h0 : k = 0
      · subst h0
        rw [show fo F 0 (b0, -1) = (b0, -1) from rfl, show sCl L 0 (fo (sCl L) 0 (b1, -1)) = (nI 0, L 0) from if_pos (by rw [el]; exact neg1_lt hl)]
        dsimp only
        rw [el, if_pos (neg1_lt hl), if_pos (neg1_lt hl)]
      · rw [ih (by omega) (by omega)]
        by_cases g : (fo (sCl L) k (b1, -1)).2 < L k
        · rw [show sCl L k (fo (sCl L) k (b1, -1)) = (nI k, L k) from if_pos g, if_pos g, if_pos g]
        · rw [show sCl L k (fo (sCl L) k (b1, -1)) = fo (sCl L) k (b1, -1) from if_neg g, if_neg g, if_neg g]
  rw [main c (Nat.le_refl _) hb]
/-- where one is behind i days of walking -/
def pos (w x : Int32) (i : Nat) : Int32 := fo (fun _ z => rem16 (z + w)) i x
theorem pos_16 : ∀ a, a < 16 → ∀ w, w < 16 → pos (nI w) (nI a) 16 = nI a := by decide +kernel
theorem pos_p {x : Int32} (h : pos w x 16 = x) : ∀ i, pos w x (16 + i) = pos w x i := by
  intro i
  induction i with
  | zero => exact h
  | succ i ih =>
    show rem16 (pos w x (16 + i) + w) = rem16 (pos w x i + w)
    rw [ih]
theorem pos_m {x : Int32} (h : pos w x 16 = x) (i : Nat) : pos w x i = pos w x (i % 16) := by
  have e : ∀ j k, pos w x (16 * k + j) = pos w x j := by
    intro j k
    induction k with
    | zero => rw [Nat.mul_zero, Nat.zero_add]
    | succ k ih => rw [show 16 * (k + 1) + j = 16 + (16 * k + j) by omega, pos_p h, ih]
  have := e (i % 16) (i / 16)
  rw [Nat.div_add_mod] at this
  exact this
theorem pos_s {x : Int32} : ∀ i, pos w (rem16 (x + w)) i = pos w x (i + 1) := by
  intro i
  induction i with
  | zero => rfl
  | succ i ih =>
    show rem16 (pos w (rem16 (x + w)) i + w) = rem16 (pos w x (i + 1) + w)
    rw [ih]
theorem sSe_no {g : Int32} : ∀ (m n : Nat) (x : Int32), (∀ i, i < m → ¬ pos w x i = g) → sSe g w m n x = (-1000004, true) := by
  intro m
  induction m with
  | zero => intro n x _; rfl
  | succ m ih =>
    intro n x h
    show (if x = g then (nI n, false) else sSe g w m (n + 1) (rem16 (x + w))) = _
    rw [if_neg (show ¬ x = g from h 0 (Nat.succ_pos m))]
    exact ih _ _ fun i hi => by rw [pos_s]; exact h (i + 1) (by omega)
theorem sSe_yes {g : Int32} {f : Nat} : ∀ (m n : Nat) (x : Int32), (∃ i, i < m ∧ pos w x i = g) → sSe g w (m + f) n x = sSe g w m n x := by
  intro m
  induction m with
  | zero => intro n x ⟨i, hi, _⟩; exact absurd hi (Nat.not_lt_zero _)
  | succ m ih =>
    intro n x ⟨i, hi, e⟩
    rw [show m + 1 + f = (m + f) + 1 by omega]
    show (if x = g then (nI n, false) else sSe g w (m + f) (n + 1) (rem16 (x + w))) = (if x = g then (nI n, false) else sSe g w m (n + 1) (rem16 (x + w)))
    by_cases h : x = g
    · rw [if_pos h, if_pos h]
    · rw [if_neg h, if_neg h]
      refine ih _ _ ⟨i - 1, ?_, ?_⟩
      · cases i with
        | zero => exact absurd e h
        | succ i => omega
      · cases i with
        | zero => exact absurd e h
        | succ i => rw [pos_s]; exact e
theorem sSe_101 {g x : Int32} (hx : Le 15 x) (hw : Le 15 w) : sSe g w 101 0 x = sSe g w 16 0 x := by
  obtain ⟨a, ha, rfl⟩ := hx
  obtain ⟨b, hb, rfl⟩ := hw
  have hp := pos_16 a (by omega) b (by omega)
  by_cases h : ∃ i, i < 16 ∧ pos (nI b) (nI a) i = g
  · exact sSe_yes (f := 85) 16 0 _ h
  · have h1 : ∀ i, ¬ pos (nI b) (nI a) i = g := fun i e => h ⟨i % 16, Nat.mod_lt _ (by decide), (pos_m hp i).symm.trans e⟩
    rw [sSe_no 101 0 _ fun i _ => h1 i, sSe_no 16 0 _ fun i _ => h1 i]
theorem orN_k {k : Nat} (h : k < 2147483648) : orN (nI k) = (nI k, false) := if_pos (Int32.not_lt.mp (jI_nn h))
theorem orN_m : orN (-1) = (-1000004, true) := if_neg (by decide)
end PQ
end
section
/-! ===== what will be, asked of the class ===== -/
section EV
variable {X : mSc} {Q : Option Value → mHp → Prop} {M : mM} {nt np : Nat} {r : Nat → Int32}
/-- a trial leaves the town -/
def Tz (M M1 : mM) : Prop := ∀ a, a < 35 → M1 a = M a
theorem Tz.rf : Tz M M := fun _ _ => rfl
theorem Tz.to {M1 M2 : mM} (h : Tz M M1) (g : Tz M1 M2) : Tz M M2 := fun a ha => (g a ha).trans (h a ha)
theorem Tz.put {j x : Nat} {v : Int32} : Tz M (mput M (35 + j) x v) := fun a ha => mpo (by omega)
theorem Tc.tz {q : Nat → Int32} {M1 : mM} (h : Tc 35 nt np q M M1) : Tz M M1 := fun a ha => h.2.2 a (by omega)
theorem Tz.rel {M1 : mM} (h : Tz M M1) (hR : Rel 1 nt np M r) : Rel 1 nt np M1 r := hR.fr fun a _ hx => h a (by omega)
theorem Tz.c {M1 : mM} (h : Tz M M1) (hc : M 1 7 = -1) : M1 1 7 = -1 := by rw [h 1 (by decide)]; exact hc
theorem Rel.calm {b : Nat} {v : Int32} (h : Rel b nt np M r) : Rel b nt np (mput M b 7 v) r := by
  obtain ⟨h1, h2, h3, h4, h5, h6, h7⟩ := h
  exact ⟨(mpn (by omega)).trans h1, (mpn (by omega)).trans h2, (mpn (by omega)).trans h3, (mpn (by omega)).trans h4, fun s hs => (mpn (by omega)).trans (h5 s hs), fun f t hf ht => (mpn (by omega)).trans (h6 f t hf ht), fun f p hf hp => (mpn (by omega)).trans (h7 f p hf hp)⟩
theorem g42 (hR : Rel 1 nt np M r) (hn8 : nt ≤ 8) (hp8 : np ≤ 8) (hc : M 1 7 = -1) : ∃ M', mT X 42 [.ref 0] (con M) none (con M') ∧ Rel 35 nt np M' r ∧ M' 35 7 = -1 ∧ Tz M M' := by
  refine tv_of (row := _) rfl (Nat.le_of_ble_eq_true rfl) ?_
  have hm : mMet 42 = some _ := rfl
  refine x_aload_n hm rfl rfl ?_
  refine x_getf hm rfl (gR rfl rfl) ?_
  refine x_aload_n hm rfl rfl ?_
  refine x_getf hm rfl (gR rfl rfl) ?_
  refine x_cVv hm rfl rfl (g43 (b := 35) (o := 1) (by decide) (by decide) (by decide)) (fun M1 r1 => ?_)
  refine x_ret hm rfl rfl ?_
  exact ⟨_, rfl, rfl, r1.rel hR hn8 hp8, r1.2.2.2.2.2.2.2.2.trans hc, fun a ha => r1.1 a (Or.inl ha)⟩
theorem kind_gd {p k : Nat} (hG : Gd nt np r) (hp : p < np) (hk : k < 7) : Gd nt np (put1 r (62 + 7 * p + 0) (nI k)) := hG.pf hp (by decide) (fun _ => ⟨k, by omega, rfl⟩) (fun h => by omega) (fun h => by omega)
theorem walk_gd {p k : Nat} (hG : Gd nt np r) (hp : p < np) (hk : k < 16) : Gd nt np (put1 r (62 + 7 * p + 2) (nI k)) := hG.pf hp (by decide) (fun h => by omega) (fun _ => ⟨k, by omega, rfl⟩) (fun h => by omega)
theorem place_gd {t k : Nat} (hG : Gd nt np r) (ht : t < nt) (hk : k < 16) : Gd nt np (put1 r (14 + 6 * t + 1) (nI k)) := hG.pt ht (by decide) (fun h => by omega) (fun _ => ⟨k, by omega, rfl⟩) (fun h => by omega) (fun h => by omega) (fun h => by omega) (fun h => by omega)
theorem owner_gd {t k : Nat} (hG : Gd nt np r) (ht : t < nt) (hk : k < np) : Gd nt np (put1 r (14 + 6 * t + 4) (nI k)) := hG.pt ht (by decide) (fun h => by omega) (fun h => by omega) (fun h => by omega) (fun h => by omega) (fun _ => Or.inr ⟨k, hk, rfl⟩) (fun h => by omega)
theorem paint_gd {t k : Nat} (hG : Gd nt np r) (ht : t < nt) (hk : k < 10) : Gd nt np (put1 r (14 + 6 * t + 3) (nI k)) := hG.pt ht (by decide) (fun h => by omega) (fun h => by omega) (fun h => by omega) (fun _ => ⟨k, by omega, rfl⟩) (fun h => by omega) (fun h => by omega)
theorem sCl_k {L : Nat → Int32} {g : Int32} : ∀ c, ∃ j, j ≤ c ∧ (fo (sCl L) c (nI 0, g)).1 = nI j := by
  intro c
  induction c with
  | zero => exact ⟨0, Nat.le_refl _, rfl⟩
  | succ c ih =>
    obtain ⟨j, hj, e⟩ := ih
    show ∃ j, j ≤ c + 1 ∧ (sCl L c (fo (sCl L) c (nI 0, g))).1 = nI j
    by_cases h : (fo (sCl L) c (nI 0, g)).2 < L c
    · exact ⟨c, by omega, by rw [show sCl L c (fo (sCl L) c (nI 0, g)) = (nI c, L c) from if_pos h]⟩
    · exact ⟨j, by omega, by rw [show sCl L c (fo (sCl L) c (nI 0, g)) = fo (sCl L) c (nI 0, g) from if_neg h]; exact e⟩
theorem fo_st {α : Type} {f : Nat → α → α} {z : α} {a : Nat} : ∀ n, a ≤ n → (∀ j, a ≤ j → j < n → ∀ x, f j x = x) → fo f n z = fo f a z := by
  intro n
  induction n with
  | zero => intro h _; rw [show a = 0 by omega]
  | succ n ih =>
    intro h g
    by_cases e : a = n + 1
    · rw [e]
    · show f n (fo f n z) = _
      rw [g n (by omega) (Nat.lt_succ_self _)]
      exact ih (by omega) fun j h1 h2 => g j h1 (by omega)
/-- the least coat that keeps a thing -/
theorem nd_yes {w : Int32} {n t k : Nat} (hk : k < 10) (h : 0 < sDays w nt np n (put1 r (14 + 6 * t + 3) (nI k)) (14 + 6 * t + 2)) (g : ∀ i, i < k → ¬ 0 < sDays w nt np n (put1 r (14 + 6 * t + 3) (nI i)) (14 + 6 * t + 2)) : fo (sNd r w nt np n t) 10 (-1) = nI k := by
  rw [fo_st (f := sNd r w nt np n t) (a := 10 - k) 10 (by omega) (fun j h1 h2 x => show sNd r w nt np n t j x = x from if_neg (g (9 - j) (by omega))), show 10 - k = (9 - k) + 1 by omega]
  show sNd r w nt np n t (9 - k) _ = _
  unfold sNd
  rw [show 9 - (9 - k) = k by omega, if_pos h]
theorem nd_no {w : Int32} {n t : Nat} (g : ∀ i, i < 10 → ¬ 0 < sDays w nt np n (put1 r (14 + 6 * t + 3) (nI i)) (14 + 6 * t + 2)) : fo (sNd r w nt np n t) 10 (-1) = -1 := fo_st (f := sNd r w nt np n t) (a := 0) 10 (by omega) (fun j h1 h2 x => show sNd r w nt np n t j x = x from if_neg (g (9 - j) (by omega)))
theorem pos_le {v : Int32} {n : Nat} (h : Le n v) (hn : n < 2147483648) (g : ¬ v = 0) : 0 < v := by
  obtain ⟨k, hk, rfl⟩ := h
  exact (jI_lt (a := 0) (by decide) (by omega)).mpr (Nat.pos_of_ne_zero fun e => g (by rw [e]; rfl))
theorem gv41 {a1 a2 : Int32} (hR : Rel 1 nt np M r) (hG : Gd nt np r) (hc : M 1 7 = -1) : ∃ v M', mT X 41 [.ref 0, .int a1, .int a2] (con M) (some (.int v)) (con M') ∧ v = (qAhead r nt np a1 a2).1 := by
  refine ti_of (row := _) rfl (Nat.le_of_ble_eq_true rfl) ?_
  have hm : mMet 41 = some _ := rfl
  have hV := hG.2.2.1
  have hn8 := hV.1
  have hp8 := hV.2.1
  refine x_aload_n hm rfl rfl ?_
  refine x_getf hm rfl (gR rfl rfl) ?_
  refine x_iload_n hm rfl rfl ?_
  refine x_callV hm rfl rfl (t10 (by decide)) ?_
  rw [hR.1]
  refine x_if_eq hm rfl (t := 21) rfl (fun h1 => ?_) (fun h1 => ?_)
  · refine x_aload_n hm rfl rfl ?_
    refine x_ldcI hm rfl (v := (-1000001 : Int32)) (by decide +kernel) ?_
    refine x_cVi hm rfl rfl (t7 (by decide +kernel)) (fun v2 M2 r2 => ?_)
    refine x_iret hm rfl rfl (by first | rfl | exact bI_nar | decide) ?_
    first
      | (have hq : qAhead r nt np a1 a2 = (-1000001, true) := by
           unfold qAhead
           rw [if_pos (by assumption)]
         exact ⟨_, _, rfl, rfl, r2.1.trans (fst_q hq)⟩)
      | (have hq : qAhead r nt np (nI t) a2 = (-1000001, true) := by
           unfold qAhead
           rw [if_neg (by assumption), if_pos (by assumption)]
         exact ⟨_, _, rfl, rfl, r2.1.trans (fst_q hq)⟩)
  · obtain ⟨t, ht, rfl⟩ := in_k rfl (by omega) (bI_ne0 h1)
    refine x_iload_n hm rfl rfl ?_
    refine x_iconst hm rfl (v := nI 0) (by decide) ?_
    refine x_bipush hm rfl (v := nI 100) (by decide) ?_
    refine x_callS hm rfl rfl (t6) ?_
    refine x_if_ne hm rfl (t := 28) rfl (fun h3 => ?_) (fun h3 => ?_)
    · obtain ⟨a, ha, rfl⟩ := le_k (by omega) (bI_ne0 h3)
      refine x_aload_n hm rfl rfl ?_
      refine x_cVv hm rfl rfl (g42 hR hn8 hp8 hc) (fun M4 r4 => ?_)
      have h7 := r4.2.1
      refine x_aload_n hm rfl rfl ?_
      refine x_getf hm rfl (gR rfl rfl) ?_
      refine x_iload_n hm rfl rfl ?_
      refine x_cVv hm rfl rfl (e30 (by decide) r4.1 hV (by omega)) (fun M5 r5 => ?_)
      rw [h7] at r5
      refine x_aload_n hm rfl rfl ?_
      refine x_getf hm rfl (gR rfl rfl) ?_
      refine x_getf hm rfl (gR rfl rfl) ?_
      refine x_iconst hm rfl (v := nI 2) (by decide) ?_
      refine x_aald hm rfl (lQ _ (by decide) rfl rfl (by omega) (by decide)) ?_
      refine x_iload_n hm rfl rfl ?_
      refine x_iald hm rfl (lI rfl (by omega) (by decide)) ?_
      refine x_iret hm rfl rfl (by first | rfl | exact bI_nar | decide) ?_
      have hq : qAhead r nt np (nI t) (nI a) = (sDays (-1) nt np a r (14 + 6 * t + 2), false) := by
        unfold qAhead
        rw [if_neg (by assumption), if_neg (by assumption)]
        rw [jI_nat (k := t) (by omega)]
        rw [jI_nat (k := a) (by omega)]
      exact ⟨_, _, rfl, rfl, (r5.1.thick ht).trans (fst_q hq)⟩
    · refine x_aload_n hm rfl rfl ?_
      refine x_ldcI hm rfl (v := (-1000001 : Int32)) (by decide +kernel) ?_
      refine x_cVi hm rfl rfl (t7 (by decide +kernel)) (fun v6 M6 r6 => ?_)
      refine x_iret hm rfl rfl (by first | rfl | exact bI_nar | decide) ?_
      first
        | (have hq : qAhead r nt np a1 a2 = (-1000001, true) := by
             unfold qAhead
             rw [if_pos (by assumption)]
           exact ⟨_, _, rfl, rfl, r6.1.trans (fst_q hq)⟩)
        | (have hq : qAhead r nt np (nI t) a2 = (-1000001, true) := by
             unfold qAhead
             rw [if_neg (by assumption), if_pos (by assumption)]
           exact ⟨_, _, rfl, rfl, r6.1.trans (fst_q hq)⟩)
theorem gv45 {a1 : Int32} (hR : Rel 1 nt np M r) (hG : Gd nt np r) (hc : M 1 7 = -1) : ∃ v M', mT X 45 [.ref 0, .int a1] (con M) (some (.int v)) (con M') ∧ v = (qGone r nt np a1).1 := by
  refine ti_of (row := _) rfl (Nat.le_of_ble_eq_true rfl) ?_
  have hm : mMet 45 = some _ := rfl
  have hV := hG.2.2.1
  have hn8 := hV.1
  have hp8 := hV.2.1
  refine x_iload_n hm rfl rfl ?_
  refine x_iconst hm rfl (v := nI 0) (by decide) ?_
  refine x_bipush hm rfl (v := nI 100) (by decide) ?_
  refine x_callS hm rfl rfl (t6) ?_
  refine x_if_ne hm rfl (t := 17) rfl (fun h1 => ?_) (fun h1 => ?_)
  · obtain ⟨a, ha, rfl⟩ := le_k (by omega) (bI_ne0 h1)
    refine x_aload_n hm rfl rfl ?_
    refine x_cVv hm rfl rfl (g42 hR hn8 hp8 hc) (fun M2 r2 => ?_)
    have h7 := r2.2.1
    refine x_aload_n hm rfl rfl ?_
    refine x_getf hm rfl (gR rfl rfl) ?_
    refine x_iload_n hm rfl rfl ?_
    refine x_cVv hm rfl rfl (e30 (by decide) r2.1 hV (by omega)) (fun M3 r3 => ?_)
    rw [h7] at r3
    refine x_aload_n hm rfl rfl ?_
    refine x_getf hm rfl (gR rfl rfl) ?_
    refine x_callV hm rfl rfl (e35 (by decide) r3.1 (hV.days _)) ?_
    refine x_iret hm rfl rfl (by first | rfl | exact bI_nar | decide) ?_
    have hq : qGone r nt np (nI a) = (sGone (sDays (-1) nt np a r) nt, false) := by
      unfold qGone
      rw [if_neg (by assumption)]
      rw [jI_nat (k := a) (by omega)]
    exact ⟨_, _, rfl, rfl, (rfl).trans (fst_q hq)⟩
  · refine x_aload_n hm rfl rfl ?_
    refine x_ldcI hm rfl (v := (-1000001 : Int32)) (by decide +kernel) ?_
    refine x_cVi hm rfl rfl (t7 (by decide +kernel)) (fun v4 M4 r4 => ?_)
    refine x_iret hm rfl rfl (by first | rfl | exact bI_nar | decide) ?_
    have hq : qGone r nt np a1 = (-1000001, true) := by
      unfold qGone
      rw [if_pos (by assumption)]
    exact ⟨_, _, rfl, rfl, r4.1.trans (fst_q hq)⟩
theorem gv46 {a1 : Int32} (hR : Rel 1 nt np M r) (hG : Gd nt np r) (hc : M 1 7 = -1) : ∃ v M', mT X 46 [.ref 0, .int a1] (con M) (some (.int v)) (con M') ∧ v = (qWorn r nt np a1).1 := by
  refine ti_of (row := _) rfl (Nat.le_of_ble_eq_true rfl) ?_
  have hm : mMet 46 = some _ := rfl
  have hV := hG.2.2.1
  have hn8 := hV.1
  have hp8 := hV.2.1
  refine x_iload_n hm rfl rfl ?_
  refine x_iconst hm rfl (v := nI 0) (by decide) ?_
  refine x_bipush hm rfl (v := nI 100) (by decide) ?_
  refine x_callS hm rfl rfl (t6) ?_
  refine x_if_ne hm rfl (t := 17) rfl (fun h1 => ?_) (fun h1 => ?_)
  · obtain ⟨a, ha, rfl⟩ := le_k (by omega) (bI_ne0 h1)
    refine x_aload_n hm rfl rfl ?_
    refine x_cVv hm rfl rfl (g42 hR hn8 hp8 hc) (fun M2 r2 => ?_)
    have h7 := r2.2.1
    have hz1 := r2.2.2
    refine x_aload_n hm rfl rfl ?_
    refine x_getf hm rfl (gR rfl rfl) ?_
    refine x_iload_n hm rfl rfl ?_
    refine x_cVv hm rfl rfl (e30 (by decide) r2.1 hV (by omega)) (fun M3 r3 => ?_)
    rw [h7] at r3
    refine x_aload_n hm rfl rfl ?_
    refine x_getf hm rfl (gR rfl rfl) ?_
    refine x_callV hm rfl rfl (e38 (by decide) ((hz1.to r3.tz).rel hR) hV) ?_
    refine x_aload_n hm rfl rfl ?_
    refine x_getf hm rfl (gR rfl rfl) ?_
    refine x_callV hm rfl rfl (e38 (by decide) r3.1 (hV.days _)) ?_
    refine x_isub hm rfl ?_
    refine x_iret hm rfl rfl (by first | rfl | exact bI_nar | decide) ?_
    have hq : qWorn r nt np (nI a) = (sThick r nt - sThick (sDays (-1) nt np a r) nt, false) := by
      unfold qWorn
      rw [if_neg (by assumption)]
      rw [jI_nat (k := a) (by omega)]
    exact ⟨_, _, rfl, rfl, (rfl).trans (fst_q hq)⟩
  · refine x_aload_n hm rfl rfl ?_
    refine x_ldcI hm rfl (v := (-1000001 : Int32)) (by decide +kernel) ?_
    refine x_cVi hm rfl rfl (t7 (by decide +kernel)) (fun v4 M4 r4 => ?_)
    refine x_iret hm rfl rfl (by first | rfl | exact bI_nar | decide) ?_
    have hq : qWorn r nt np a1 = (-1000001, true) := by
      unfold qWorn
      rw [if_pos (by assumption)]
    exact ⟨_, _, rfl, rfl, r4.1.trans (fst_q hq)⟩
theorem gv44l {t : Nat} (hV : Vs nt np r) (hn8 : nt ≤ 8) (ht : t < nt) : ∀ (n k : Nat) (M1 : mM), 101 - k < n → k ≤ 101 → Rel 35 nt np M1 (sDays (-1) nt np k r) → M1 35 7 = -1 → ((k ≤ 100 ∧ orN (sLa (-1) nt np t 100 0 r) = orN (sLa (-1) nt np t (100 - k) k (sDays (-1) nt np k r))) ∨ (k = 101 ∧ orN (sLa (-1) nt np t 100 0 r) = (-1000004, true))) → mEv X (QI (fun v M' => v = (orN (sLa (-1) nt np t 100 0 r)).1)) 44 24 [some (.ref 0), some (.int (nI t)), some (.int (nI k))] [] (con M1) := by
  have hm : mMet 44 = some _ := rfl
  intro n
  induction n with
  | zero =>
    intro k M1 hkn hkb hR1 h7 hq
    omega
  | succ n ih =>
    intro k M1 hkn hkb hR1 h7 hq
    have hth : M1 (35 + 4) t = sDays (-1) nt np k r (14 + 6 * t + 2) := hR1.thick ht
    refine x_iload_n hm rfl rfl ?_
    refine x_bipush hm rfl (v := nI 100) (by decide) ?_
    refine x_icmp_gt hm rfl (t := 57) rfl (fun h1 => ?_) (fun h1 => ?_)
    · have hk : ¬ k ≤ 100 := fun h => absurd h1 (Int32.not_lt.mpr ((jI_le (by omega) (by decide)).mpr h))
      have hq9 := (hq.resolve_left fun z => hk z.1).2
      refine x_aload_n hm rfl rfl ?_
      refine x_ldcI hm rfl (v := (-1000004 : Int32)) (by decide +kernel) ?_
      refine x_cVi hm rfl rfl (t7 (by decide +kernel)) (fun v2 M2 r2 => ?_)
      refine x_iret hm rfl rfl (by first | rfl | exact bI_nar | decide) ?_
      exact ⟨_, _, rfl, rfl, r2.1.trans (congrArg Prod.fst hq9).symm⟩
    · have hk : k ≤ 100 := Nat.le_of_not_lt fun h => h1 (nI_lt h (by omega))
      refine x_aload_n hm rfl rfl ?_
      refine x_getf hm rfl (gR rfl rfl) ?_
      refine x_iload_n hm rfl rfl ?_
      refine x_callV hm rfl rfl (t32 (by decide) (by omega)) ?_
      rw [hth]
      refine x_if_eq hm rfl (t := 43) rfl (fun h3 => ?_) (fun h3 => ?_)
      · have hng := bI_eq0.mp h3
        have hq2 : ((k + 1 ≤ 100 ∧ orN (sLa (-1) nt np t 100 0 r) = orN (sLa (-1) nt np t (100 - (k + 1)) (k + 1) (sDays (-1) nt np (k + 1) r))) ∨ (k + 1 = 101 ∧ orN (sLa (-1) nt np t 100 0 r) = (-1000004, true))) := by
          rcases hq with ⟨g1, g2⟩ | ⟨g1, -⟩
          · by_cases hk9 : k < 100
            · exact Or.inl ⟨hk9, g2.trans (congrArg orN (la_s hk9 hng))⟩
            · have hk9 : k = 100 := by omega
              exact Or.inr ⟨by omega, g2.trans ((congrArg orN (la_n hk9 hng)).trans orN_m)⟩
          · omega
        refine x_aload_n hm rfl rfl ?_
        refine x_getf hm rfl (gR rfl rfl) ?_
        refine x_iconst hm rfl (v := nI 1) (by decide) ?_
        refine x_cVv hm rfl rfl (e30 (by decide) hR1 (hV.days _) (by decide)) (fun M4 r4 => ?_)
        have h72 := r4.2.1.trans h7
        rw [h7] at r4
        refine x_iinc hm rfl rfl (v := nI 1) (by decide) rfl ?_
        rw [jI_add]
        refine x_goto hm rfl (t := 24) rfl ?_
        exact ih (k + 1) _ (by omega) (by omega) r4.1 h72 hq2
      · have hq9 := (hq.resolve_right fun z => by omega).2.trans ((congrArg orN (la_g (bI_ne0 h3))).trans (orN_k (by omega)))
        refine x_iload_n hm rfl rfl ?_
        refine x_iret hm rfl rfl (by first | rfl | exact bI_nar | decide) ?_
        exact ⟨_, _, rfl, rfl, (congrArg Prod.fst hq9).symm⟩
theorem gv44 {a1 : Int32} (hR : Rel 1 nt np M r) (hG : Gd nt np r) (hc : M 1 7 = -1) : ∃ v M', mT X 44 [.ref 0, .int a1] (con M) (some (.int v)) (con M') ∧ v = (qLasts r nt np a1).1 := by
  refine ti_of (row := _) rfl (Nat.le_of_ble_eq_true rfl) ?_
  have hm : mMet 44 = some _ := rfl
  have hV := hG.2.2.1
  have hn8 := hV.1
  have hp8 := hV.2.1
  refine x_aload_n hm rfl rfl ?_
  refine x_getf hm rfl (gR rfl rfl) ?_
  refine x_iload_n hm rfl rfl ?_
  refine x_callV hm rfl rfl (t10 (by decide)) ?_
  rw [hR.1]
  refine x_if_ne hm rfl (t := 18) rfl (fun h1 => ?_) (fun h1 => ?_)
  · obtain ⟨t, ht, rfl⟩ := in_k rfl (by omega) (bI_ne0 h1)
    refine x_aload_n hm rfl rfl ?_
    refine x_cVv hm rfl rfl (g42 hR hn8 hp8 hc) (fun M2 r2 => ?_)
    refine x_iconst hm rfl (v := nI 0) (by decide) ?_
    refine x_istore_n hm rfl rfl ?_
    have hq : qLasts r nt np (nI t) = orN (sLa (-1) nt np t 100 0 r) := by
      unfold qLasts
      rw [if_neg (by assumption), jI_nat (by omega)]
    rw [hq]
    exact gv44l hV hn8 ht _ 0 _ (Nat.lt_succ_self _) (Nat.zero_le _) r2.1 r2.2.1 (Or.inl ⟨Nat.zero_le _, rfl⟩)
  · refine x_aload_n hm rfl rfl ?_
    refine x_ldcI hm rfl (v := (-1000001 : Int32)) (by decide +kernel) ?_
    refine x_cVi hm rfl rfl (t7 (by decide +kernel)) (fun v3 M3 r3 => ?_)
    refine x_iret hm rfl rfl (by first | rfl | exact bI_nar | decide) ?_
    have hq : qLasts r nt np a1 = (-1000001, true) := by
      unfold qLasts
      rw [if_pos (by assumption)]
    exact ⟨_, _, rfl, rfl, r3.1.trans (fst_q hq)⟩
theorem gv47l {p t x y : Int32} {q0 : Int32 × Bool} : ∀ (n k : Nat) (z : Int32), 101 - k < n → k ≤ 101 → q0 = sSe x y (101 - k) k z → mEv X (QI (fun v M' => v = (q0).1)) 47 70 [some (.ref 0), some (.int p), some (.int t), some (.int x), some (.int y), some (.int z), some (.int (nI k))] [] (con M) := by
  have hm : mMet 47 = some _ := rfl
  intro n
  induction n with
  | zero =>
    intro k z hkn hkb hq
    omega
  | succ n ih =>
    intro k z hkn hkb hq
    refine x_iload hm rfl rfl ?_
    refine x_bipush hm rfl (v := nI 100) (by decide) ?_
    refine x_icmp_gt hm rfl (t := 101) rfl (fun h1 => ?_) (fun h1 => ?_)
    · have hk : k = 101 := by
        have : ¬ k ≤ 100 := fun h => absurd h1 (Int32.not_lt.mpr ((jI_le (by omega) (by decide)).mpr h))
        omega
      have hq9 : q0 = (-1000004, true) := by rw [hq, hk]; rfl
      refine x_aload_n hm rfl rfl ?_
      refine x_ldcI hm rfl (v := (-1000004 : Int32)) (by decide +kernel) ?_
      refine x_cVi hm rfl rfl (t7 (by decide +kernel)) (fun v2 M2 r2 => ?_)
      refine x_iret hm rfl rfl (by first | rfl | exact bI_nar | decide) ?_
      exact ⟨_, _, rfl, rfl, r2.1.trans (congrArg Prod.fst hq9).symm⟩
    · have hk : k ≤ 100 := Nat.le_of_not_lt fun h => h1 (nI_lt h (by omega))
      have hq1 := hq.trans (show sSe x y (101 - k) k z = sSe x y (101 - (k + 1) + 1) k z by rw [show 101 - k = 101 - (k + 1) + 1 by omega])
      refine x_iload hm rfl rfl ?_
      refine x_iload_n hm rfl rfl ?_
      refine x_icmp_ne hm rfl (t := 86) rfl (fun h3 => ?_) (fun h3 => ?_)
      · have hq2 : q0 = sSe x y (101 - (k + 1)) (k + 1) (rem16 (z + y)) := hq1.trans (if_neg h3)
        refine x_iload hm rfl rfl ?_
        refine x_iload hm rfl rfl ?_
        refine x_callS hm rfl rfl (e34) ?_
        refine x_istore hm rfl rfl ?_
        refine x_iinc hm rfl rfl (v := nI 1) (by decide) rfl ?_
        rw [jI_add]
        refine x_goto hm rfl (t := 70) rfl ?_
        exact ih _ _ (by omega) (by omega) hq2
      · have hq9 : q0 = (nI k, false) := hq1.trans (if_pos h3)
        refine x_iload hm rfl rfl ?_
        refine x_iret hm rfl rfl (by first | rfl | exact bI_nar | decide) ?_
        exact ⟨_, _, rfl, rfl, (congrArg Prod.fst hq9).symm⟩
theorem gv47 {a1 a2 : Int32} (hR : Rel 1 nt np M r) (hG : Gd nt np r) (hc : M 1 7 = -1) : ∃ v M', mT X 47 [.ref 0, .int a1, .int a2] (con M) (some (.int v)) (con M') ∧ v = (qSees r nt np a1 a2).1 := by
  refine ti_of (row := _) rfl (Nat.le_of_ble_eq_true rfl) ?_
  have hm : mMet 47 = some _ := rfl
  have hV := hG.2.2.1
  have hn8 := hV.1
  have hp8 := hV.2.1
  refine x_aload_n hm rfl rfl ?_
  refine x_getf hm rfl (gR rfl rfl) ?_
  refine x_iload_n hm rfl rfl ?_
  refine x_callV hm rfl rfl (t19 (by decide)) ?_
  rw [hR.2.1]
  refine x_if_eq hm rfl (t := 22) rfl (fun h1 => ?_) (fun h1 => ?_)
  · refine x_aload_n hm rfl rfl ?_
    refine x_ldcI hm rfl (v := (-1000001 : Int32)) (by decide +kernel) ?_
    refine x_cVi hm rfl rfl (t7 (by decide +kernel)) (fun v2 M2 r2 => ?_)
    refine x_iret hm rfl rfl (by first | rfl | exact bI_nar | decide) ?_
    first
      | (have hq : qSees r nt np a1 a2 = (-1000001, true) := by
           unfold qSees
           rw [if_pos (by assumption)]
         exact ⟨_, _, rfl, rfl, r2.1.trans (fst_q hq)⟩)
      | (have hq : qSees r nt np (nI p) a2 = (-1000001, true) := by
           unfold qSees
           rw [if_neg (by assumption), if_pos (by assumption)]
         exact ⟨_, _, rfl, rfl, r2.1.trans (fst_q hq)⟩)
  · obtain ⟨p, hp, rfl⟩ := in_k rfl (by omega) (bI_ne0 h1)
    refine x_aload_n hm rfl rfl ?_
    refine x_getf hm rfl (gR rfl rfl) ?_
    refine x_iload_n hm rfl rfl ?_
    refine x_callV hm rfl rfl (t10 (by decide)) ?_
    rw [hR.1]
    refine x_if_ne hm rfl (t := 29) rfl (fun h3 => ?_) (fun h3 => ?_)
    · obtain ⟨t, ht, rfl⟩ := in_k rfl (by omega) (bI_ne0 h3)
      refine x_aload_n hm rfl rfl ?_
      refine x_getf hm rfl (gR rfl rfl) ?_
      refine x_getf hm rfl (gR rfl rfl) ?_
      refine x_iconst hm rfl (v := nI 1) (by decide) ?_
      refine x_aald hm rfl (lQ _ (by decide) rfl rfl (by omega) (by decide)) ?_
      refine x_iload_n hm rfl rfl ?_
      refine x_iald hm rfl (lI rfl (by omega) (by decide)) ?_
      rw [show M 4 t = _ from hR.at_ ht]
      refine x_istore_n hm rfl rfl ?_
      refine x_aload_n hm rfl rfl ?_
      refine x_getf hm rfl (gR rfl rfl) ?_
      refine x_getf hm rfl (gR rfl rfl) ?_
      refine x_iconst hm rfl (v := nI 2) (by decide) ?_
      refine x_aald hm rfl (lQ _ (by decide) rfl rfl (by omega) (by decide)) ?_
      refine x_iload_n hm rfl rfl ?_
      refine x_iald hm rfl (lI rfl (by omega) (by decide)) ?_
      rw [show M 12 p = _ from hR.walk hp]
      refine x_istore hm rfl rfl ?_
      refine x_aload_n hm rfl rfl ?_
      refine x_getf hm rfl (gR rfl rfl) ?_
      refine x_getf hm rfl (gR rfl rfl) ?_
      refine x_iconst hm rfl (v := nI 1) (by decide) ?_
      refine x_aald hm rfl (lQ _ (by decide) rfl rfl (by omega) (by decide)) ?_
      refine x_iload_n hm rfl rfl ?_
      refine x_iald hm rfl (lI rfl (by omega) (by decide)) ?_
      rw [show M 11 p = _ from hR.pat hp]
      refine x_istore hm rfl rfl ?_
      refine x_iconst hm rfl (v := nI 0) (by decide) ?_
      refine x_istore hm rfl rfl ?_
      have hq : qSees r nt np (nI p) (nI t) = sSe (r (14 + 6 * t + 1)) (r (62 + 7 * p + 2)) 16 0 (r (62 + 7 * p + 1)) := by
        unfold qSees
        rw [if_neg (by assumption), if_neg (by assumption)]
        rw [jI_nat (k := t) (by omega)]
        rw [jI_nat (k := p) (by omega)]
      have hw := hG.2.2.2.2.2.2 p hp
      exact gv47l _ 0 _ (Nat.lt_succ_self _) (Nat.zero_le _) (hq.trans (sSe_101 hw.1 hw.2.1).symm)
    · refine x_aload_n hm rfl rfl ?_
      refine x_ldcI hm rfl (v := (-1000001 : Int32)) (by decide +kernel) ?_
      refine x_cVi hm rfl rfl (t7 (by decide +kernel)) (fun v4 M4 r4 => ?_)
      refine x_iret hm rfl rfl (by first | rfl | exact bI_nar | decide) ?_
      first
        | (have hq : qSees r nt np a1 a2 = (-1000001, true) := by
             unfold qSees
             rw [if_pos (by assumption)]
           exact ⟨_, _, rfl, rfl, r4.1.trans (fst_q hq)⟩)
        | (have hq : qSees r nt np (nI p) a2 = (-1000001, true) := by
             unfold qSees
             rw [if_neg (by assumption), if_pos (by assumption)]
           exact ⟨_, _, rfl, rfl, r4.1.trans (fst_q hq)⟩)
theorem gv49l {p f c a : Nat} (hR : Rel 1 nt np M r) (hV : Vs nt np r) (hc : M 1 7 = -1) (hp : p < np) (hf : f < 7) (hc1 : c ≤ 1000) (ha : a ≤ 1000) (hVk : ∀ k, k < c → Vs nt np (put1 r (62 + 7 * p + f) (nI k))) : ∀ (n k : Nat) (s g : Int32) (x8 : Option Value) (M1 : mM), c - k < n → k ≤ c → Tz M M1 → (s, g) = fo (sCl (fun k => sThick (sDays (-1) nt np a (put1 r (62 + 7 * p + f) (nI k))) nt)) k (nI 0, -1) → mEv X (QI (fun v M' => v = (fo (sCl (fun k => sThick (sDays (-1) nt np a (put1 r (62 + 7 * p + f) (nI k))) nt)) c (nI 0, -1)).1)) 49 9 [some (.ref 0), some (.int (nI p)), some (.int (nI f)), some (.int (nI c)), some (.int (nI a)), some (.int s), some (.int g), some (.int (nI k)), x8] [] (con M1) := by
  have hm : mMet 49 = some _ := rfl
  intro n
  induction n with
  | zero =>
    intro k s g x8 M1 hkn hkb hT hz
    omega
  | succ n ih =>
    intro k s g x8 M1 hkn hkb hT hz
    have hn8 := hV.1
    have hp8 := hV.2.1
    refine x_iload hm rfl rfl ?_
    refine x_iload_n hm rfl rfl ?_
    refine x_icmp_ge hm rfl (t := 71) rfl (fun h1 => ?_) (fun h1 => ?_)
    · obtain rfl : k = c := Nat.le_antisymm hkb ((jI_le (by omega) (by omega)).mp h1)
      refine x_iload hm rfl rfl ?_
      refine x_iret hm rfl rfl (by first | rfl | exact bI_nar | decide) ?_
      exact ⟨_, _, rfl, rfl, congrArg Prod.fst hz⟩
    · have hk : k < c := Nat.lt_of_not_le fun h => h1 (nI_le h (by omega))
      refine x_aload_n hm rfl rfl ?_
      refine x_cVv hm rfl rfl (g42 (hT.rel hR) hn8 hp8 (hT.c hc)) (fun M2 r2 => ?_)
      refine x_aload_n hm rfl rfl ?_
      refine x_getf hm rfl (gR rfl rfl) ?_
      refine x_getf hm rfl (gR rfl rfl) ?_
      refine x_iload_n hm rfl rfl ?_
      refine x_aald (v := .ref (35 + 9 + f)) hm rfl ?_ ?_
      · exact lQ 3 (Or.inr (Or.inl rfl)) (tF (b := 35) (by decide)) (tFk (by omega)) (by omega) (by decide)
      refine x_iload_n hm rfl rfl ?_
      refine x_iload hm rfl rfl ?_
      refine x_iast hm rfl (sI (tRowF (b := 35) (by decide) (by omega)) (by omega) (by decide)) ?_
      have hq2 := r2.1.pf (v := nI k) hn8 hf hp
      have h7 : mput M2 (35 + 9 + f) p (nI k) 35 7 = -1 := (mpn (by omega)).trans r2.2.1
      have hz2 : Tz M (mput M2 (35 + 9 + f) p (nI k)) := (hT.to r2.2.2).to (fun x hx => mpo (by omega))
      refine x_aload_n hm rfl rfl ?_
      refine x_getf hm rfl (gR rfl rfl) ?_
      refine x_iload hm rfl rfl ?_
      refine x_cVv hm rfl rfl (e30 (by decide) hq2 (hVk k hk) ha) (fun M3 r3 => ?_)
      rw [h7] at r3
      have hz3 := hz2.to r3.tz
      refine x_aload_n hm rfl rfl ?_
      refine x_getf hm rfl (gR rfl rfl) ?_
      refine x_callV hm rfl rfl (e38 (by decide) r3.1 ((hVk k hk).days _)) ?_
      refine x_istore hm rfl rfl ?_
      refine x_iload hm rfl rfl ?_
      refine x_iload hm rfl rfl ?_
      refine x_icmp_le hm rfl (t := 65) rfl (fun h4 => ?_) (fun h4 => ?_)
      · have hle := h4
        refine x_iinc hm rfl rfl (v := nI 1) (by decide) rfl ?_
        rw [jI_add]
        refine x_goto hm rfl (t := 9) rfl ?_
        first
          | exact ih _ _ _ _ _ (by omega) (by omega) hz3 (by show _ = sCl (fun k => sThick (sDays (-1) nt np a (put1 r (62 + 7 * p + f) (nI k))) nt) k _; rw [← hz]; exact (if_pos hlt).symm)
          | exact ih _ _ _ _ _ (by omega) (by omega) hz3 (by show _ = sCl (fun k => sThick (sDays (-1) nt np a (put1 r (62 + 7 * p + f) (nI k))) nt) k _; rw [← hz]; exact (if_neg (Int32.not_lt.mpr hle)).symm)
      · have hlt := Int32.not_le.mp h4
        refine x_iload hm rfl rfl ?_
        refine x_istore hm rfl rfl ?_
        refine x_iload hm rfl rfl ?_
        refine x_istore hm rfl rfl ?_
        refine x_iinc hm rfl rfl (v := nI 1) (by decide) rfl ?_
        rw [jI_add]
        refine x_goto hm rfl (t := 9) rfl ?_
        first
          | exact ih _ _ _ _ _ (by omega) (by omega) hz3 (by show _ = sCl (fun k => sThick (sDays (-1) nt np a (put1 r (62 + 7 * p + f) (nI k))) nt) k _; rw [← hz]; exact (if_pos hlt).symm)
          | exact ih _ _ _ _ _ (by omega) (by omega) hz3 (by show _ = sCl (fun k => sThick (sDays (-1) nt np a (put1 r (62 + 7 * p + f) (nI k))) nt) k _; rw [← hz]; exact (if_neg (Int32.not_lt.mpr hle)).symm)
theorem gv49 {p f c a : Nat} (hR : Rel 1 nt np M r) (hV : Vs nt np r) (hc : M 1 7 = -1) (hp : p < np) (hf : f < 7) (hc1 : c ≤ 1000) (ha : a ≤ 1000) (hVk : ∀ k, k < c → Vs nt np (put1 r (62 + 7 * p + f) (nI k))) : ∃ v M', mT X 49 [.ref 0, .int (nI p), .int (nI f), .int (nI c), .int (nI a)] (con M) (some (.int v)) (con M') ∧ v = (fo (sCl (fun k => sThick (sDays (-1) nt np a (put1 r (62 + 7 * p + f) (nI k))) nt)) c (nI 0, -1)).1 := by
  refine ti_of (row := _) rfl (Nat.le_of_ble_eq_true rfl) ?_
  have hm : mMet 49 = some _ := rfl
  refine x_iconst hm rfl (v := nI 0) (by decide) ?_
  refine x_istore hm rfl rfl ?_
  refine x_iconst hm rfl (v := (-1 : Int32)) (by decide) ?_
  refine x_istore hm rfl rfl ?_
  refine x_iconst hm rfl (v := nI 0) (by decide) ?_
  refine x_istore hm rfl rfl ?_
  exact gv49l hR hV hc hp hf hc1 ha hVk _ 0 _ _ _ _ (Nat.lt_succ_self _) (Nat.zero_le _) Tz.rf rfl
theorem gv52l {t f c a : Nat} (hR : Rel 1 nt np M r) (hV : Vs nt np r) (hc : M 1 7 = -1) (ht : t < nt) (hf : f < 6) (hc1 : c ≤ 1000) (ha : a ≤ 1000) (hVk : ∀ k, k < c → Vs nt np (put1 r (14 + 6 * t + f) (nI k))) : ∀ (n k : Nat) (s g : Int32) (x8 : Option Value) (M1 : mM), c - k < n → k ≤ c → Tz M M1 → (s, g) = fo (sCl (fun k => sDays (-1) nt np a (put1 r (14 + 6 * t + f) (nI k)) (14 + 6 * t + 2))) k (nI 0, -1) → mEv X (QI (fun v M' => v = (fo (sCl (fun k => sDays (-1) nt np a (put1 r (14 + 6 * t + f) (nI k)) (14 + 6 * t + 2))) c (nI 0, -1)).1)) 52 9 [some (.ref 0), some (.int (nI t)), some (.int (nI f)), some (.int (nI c)), some (.int (nI a)), some (.int s), some (.int g), some (.int (nI k)), x8] [] (con M1) := by
  have hm : mMet 52 = some _ := rfl
  intro n
  induction n with
  | zero =>
    intro k s g x8 M1 hkn hkb hT hz
    omega
  | succ n ih =>
    intro k s g x8 M1 hkn hkb hT hz
    have hn8 := hV.1
    have hp8 := hV.2.1
    refine x_iload hm rfl rfl ?_
    refine x_iload_n hm rfl rfl ?_
    refine x_icmp_ge hm rfl (t := 75) rfl (fun h1 => ?_) (fun h1 => ?_)
    · obtain rfl : k = c := Nat.le_antisymm hkb ((jI_le (by omega) (by omega)).mp h1)
      refine x_iload hm rfl rfl ?_
      refine x_iret hm rfl rfl (by first | rfl | exact bI_nar | decide) ?_
      exact ⟨_, _, rfl, rfl, congrArg Prod.fst hz⟩
    · have hk : k < c := Nat.lt_of_not_le fun h => h1 (nI_le h (by omega))
      refine x_aload_n hm rfl rfl ?_
      refine x_cVv hm rfl rfl (g42 (hT.rel hR) hn8 hp8 (hT.c hc)) (fun M2 r2 => ?_)
      refine x_aload_n hm rfl rfl ?_
      refine x_getf hm rfl (gR rfl rfl) ?_
      refine x_getf hm rfl (gR rfl rfl) ?_
      refine x_iload_n hm rfl rfl ?_
      refine x_aald (v := .ref (35 + 2 + f)) hm rfl ?_ ?_
      · exact lQ 3 (Or.inr (Or.inl rfl)) (tI (b := 35) (by decide)) (tIk (by omega)) (by omega) (by decide)
      refine x_iload_n hm rfl rfl ?_
      refine x_iload hm rfl rfl ?_
      refine x_iast hm rfl (sI (tRowI (b := 35) (by decide) (by omega)) (by omega) (by decide)) ?_
      have hq2 := r2.1.pi (v := nI k) hn8 hf ht
      have h7 : mput M2 (35 + 2 + f) t (nI k) 35 7 = -1 := (mpn (by omega)).trans r2.2.1
      have hz2 : Tz M (mput M2 (35 + 2 + f) t (nI k)) := (hT.to r2.2.2).to (fun x hx => mpo (by omega))
      refine x_aload_n hm rfl rfl ?_
      refine x_getf hm rfl (gR rfl rfl) ?_
      refine x_iload hm rfl rfl ?_
      refine x_cVv hm rfl rfl (e30 (by decide) hq2 (hVk k hk) ha) (fun M3 r3 => ?_)
      rw [h7] at r3
      have hz3 := hz2.to r3.tz
      refine x_aload_n hm rfl rfl ?_
      refine x_getf hm rfl (gR rfl rfl) ?_
      refine x_getf hm rfl (gR rfl rfl) ?_
      refine x_iconst hm rfl (v := nI 2) (by decide) ?_
      refine x_aald hm rfl (lQ _ (by decide) rfl rfl (by omega) (by decide)) ?_
      refine x_iload_n hm rfl rfl ?_
      refine x_iald hm rfl (lI rfl (by omega) (by decide)) ?_
      rw [show M3 39 t = _ from r3.1.thick ht]
      refine x_istore hm rfl rfl ?_
      refine x_iload hm rfl rfl ?_
      refine x_iload hm rfl rfl ?_
      refine x_icmp_le hm rfl (t := 69) rfl (fun h4 => ?_) (fun h4 => ?_)
      · have hle := h4
        refine x_iinc hm rfl rfl (v := nI 1) (by decide) rfl ?_
        rw [jI_add]
        refine x_goto hm rfl (t := 9) rfl ?_
        first
          | exact ih _ _ _ _ _ (by omega) (by omega) hz3 (by show _ = sCl (fun k => sDays (-1) nt np a (put1 r (14 + 6 * t + f) (nI k)) (14 + 6 * t + 2)) k _; rw [← hz]; exact (if_pos hlt).symm)
          | exact ih _ _ _ _ _ (by omega) (by omega) hz3 (by show _ = sCl (fun k => sDays (-1) nt np a (put1 r (14 + 6 * t + f) (nI k)) (14 + 6 * t + 2)) k _; rw [← hz]; exact (if_neg (Int32.not_lt.mpr hle)).symm)
      · have hlt := Int32.not_le.mp h4
        refine x_iload hm rfl rfl ?_
        refine x_istore hm rfl rfl ?_
        refine x_iload hm rfl rfl ?_
        refine x_istore hm rfl rfl ?_
        refine x_iinc hm rfl rfl (v := nI 1) (by decide) rfl ?_
        rw [jI_add]
        refine x_goto hm rfl (t := 9) rfl ?_
        first
          | exact ih _ _ _ _ _ (by omega) (by omega) hz3 (by show _ = sCl (fun k => sDays (-1) nt np a (put1 r (14 + 6 * t + f) (nI k)) (14 + 6 * t + 2)) k _; rw [← hz]; exact (if_pos hlt).symm)
          | exact ih _ _ _ _ _ (by omega) (by omega) hz3 (by show _ = sCl (fun k => sDays (-1) nt np a (put1 r (14 + 6 * t + f) (nI k)) (14 + 6 * t + 2)) k _; rw [← hz]; exact (if_neg (Int32.not_lt.mpr hle)).symm)
theorem gv52 {t f c a : Nat} (hR : Rel 1 nt np M r) (hV : Vs nt np r) (hc : M 1 7 = -1) (ht : t < nt) (hf : f < 6) (hc1 : c ≤ 1000) (ha : a ≤ 1000) (hVk : ∀ k, k < c → Vs nt np (put1 r (14 + 6 * t + f) (nI k))) : ∃ v M', mT X 52 [.ref 0, .int (nI t), .int (nI f), .int (nI c), .int (nI a)] (con M) (some (.int v)) (con M') ∧ v = (fo (sCl (fun k => sDays (-1) nt np a (put1 r (14 + 6 * t + f) (nI k)) (14 + 6 * t + 2))) c (nI 0, -1)).1 := by
  refine ti_of (row := _) rfl (Nat.le_of_ble_eq_true rfl) ?_
  have hm : mMet 52 = some _ := rfl
  refine x_iconst hm rfl (v := nI 0) (by decide) ?_
  refine x_istore hm rfl rfl ?_
  refine x_iconst hm rfl (v := (-1 : Int32)) (by decide) ?_
  refine x_istore hm rfl rfl ?_
  refine x_iconst hm rfl (v := nI 0) (by decide) ?_
  refine x_istore hm rfl rfl ?_
  exact gv52l hR hV hc ht hf hc1 ha hVk _ 0 _ _ _ _ (Nat.lt_succ_self _) (Nat.zero_le _) Tz.rf rfl
theorem thick_le8 (hG : Gd nt np r) : Le 8000 (sThick r nt) := by
  obtain ⟨k, hk, e⟩ := thick_le nt fun t ht => (hG.2.2.2.2.2.1 t ht).2.1
  have := hG.2.2.1.1
  exact ⟨k, by omega, e⟩
theorem le_8000 {v : Int32} (h : Le 999 v) : Le 8000 v := by
  obtain ⟨k, hk, e⟩ := h
  exact ⟨k, by omega, e⟩
theorem gv48 {a1 a2 : Int32} (hR : Rel 1 nt np M r) (hG : Gd nt np r) (hc : M 1 7 = -1) : ∃ v M', mT X 48 [.ref 0, .int a1, .int a2] (con M) (some (.int v)) (con M') ∧ v = (qKind r nt np a1 a2).1 := by
  refine ti_of (row := _) rfl (Nat.le_of_ble_eq_true rfl) ?_
  have hm : mMet 48 = some _ := rfl
  have hV := hG.2.2.1
  have hn8 := hV.1
  have hp8 := hV.2.1
  refine x_aload_n hm rfl rfl ?_
  refine x_getf hm rfl (gR rfl rfl) ?_
  refine x_iload_n hm rfl rfl ?_
  refine x_callV hm rfl rfl (t19 (by decide)) ?_
  rw [hR.2.1]
  refine x_if_eq hm rfl (t := 21) rfl (fun h1 => ?_) (fun h1 => ?_)
  · refine x_aload_n hm rfl rfl ?_
    refine x_ldcI hm rfl (v := (-1000001 : Int32)) (by decide +kernel) ?_
    refine x_cVi hm rfl rfl (t7 (by decide +kernel)) (fun v2 M2 r2 => ?_)
    refine x_iret hm rfl rfl (by first | rfl | exact bI_nar | decide) ?_
    first
      | (have hq : qKind r nt np a1 a2 = (-1000001, true) := by
           unfold qKind
           rw [if_pos (by assumption)]
         exact ⟨_, _, rfl, rfl, r2.1.trans (fst_q hq)⟩)
      | (have hq : qKind r nt np (nI p) a2 = (-1000001, true) := by
           unfold qKind
           rw [if_neg (by assumption), if_pos (by assumption)]
         exact ⟨_, _, rfl, rfl, r2.1.trans (fst_q hq)⟩)
  · obtain ⟨p, hp, rfl⟩ := in_k rfl (by omega) (bI_ne0 h1)
    refine x_iload_n hm rfl rfl ?_
    refine x_iconst hm rfl (v := nI 0) (by decide) ?_
    refine x_bipush hm rfl (v := nI 60) (by decide) ?_
    refine x_callS hm rfl rfl (t6) ?_
    refine x_if_ne hm rfl (t := 28) rfl (fun h3 => ?_) (fun h3 => ?_)
    · obtain ⟨a, ha, rfl⟩ := le_k (by omega) (bI_ne0 h3)
      refine x_aload_n hm rfl rfl ?_
      refine x_iload_n hm rfl rfl ?_
      refine x_iconst hm rfl (v := nI 0) (by decide) ?_
      refine x_bipush hm rfl (v := nI 7) (by decide) ?_
      refine x_iload_n hm rfl rfl ?_
      refine x_cVi hm rfl rfl (gv49 (f := 0) (c := 7) hR hV hc hp (by decide) (by decide) (by omega) (fun k hk => (kind_gd hG hp hk).2.2.1)) (fun v4 M4 r4 => ?_)
      refine x_iret hm rfl rfl (by first | rfl | exact bI_nar | decide) ?_
      have hq : qKind r nt np (nI p) (nI a) = ((fo (sLl r (-1) nt np a (62 + 7 * p + 0)) 7 (nI 0, 2147483647)).1, false) := by
        unfold qKind
        rw [if_neg (by assumption), if_neg (by assumption)]
        rw [jI_nat (k := p) (by omega)]
        rw [jI_nat (k := a) (by omega)]
      exact ⟨_, _, rfl, rfl, (r4.trans (pick_lost (T := sThick r nt) (c := 7) (thick_le8 hG) (fun k hk => lost_le (kind_gd hG hp hk) (by omega)) (fun k z hk => by unfold sLl; rw [thick_o (fun t ht => by omega)]) (Or.inl (by decide))).symm).trans (fst_q hq)⟩
    · refine x_aload_n hm rfl rfl ?_
      refine x_ldcI hm rfl (v := (-1000001 : Int32)) (by decide +kernel) ?_
      refine x_cVi hm rfl rfl (t7 (by decide +kernel)) (fun v5 M5 r5 => ?_)
      refine x_iret hm rfl rfl (by first | rfl | exact bI_nar | decide) ?_
      first
        | (have hq : qKind r nt np a1 a2 = (-1000001, true) := by
             unfold qKind
             rw [if_pos (by assumption)]
           exact ⟨_, _, rfl, rfl, r5.1.trans (fst_q hq)⟩)
        | (have hq : qKind r nt np (nI p) a2 = (-1000001, true) := by
             unfold qKind
             rw [if_neg (by assumption), if_pos (by assumption)]
           exact ⟨_, _, rfl, rfl, r5.1.trans (fst_q hq)⟩)
theorem gv50 {a1 a2 : Int32} (hR : Rel 1 nt np M r) (hG : Gd nt np r) (hc : M 1 7 = -1) : ∃ v M', mT X 50 [.ref 0, .int a1, .int a2] (con M) (some (.int v)) (con M') ∧ v = (qWalk r nt np a1 a2).1 := by
  refine ti_of (row := _) rfl (Nat.le_of_ble_eq_true rfl) ?_
  have hm : mMet 50 = some _ := rfl
  have hV := hG.2.2.1
  have hn8 := hV.1
  have hp8 := hV.2.1
  refine x_aload_n hm rfl rfl ?_
  refine x_getf hm rfl (gR rfl rfl) ?_
  refine x_iload_n hm rfl rfl ?_
  refine x_callV hm rfl rfl (t19 (by decide)) ?_
  rw [hR.2.1]
  refine x_if_eq hm rfl (t := 21) rfl (fun h1 => ?_) (fun h1 => ?_)
  · refine x_aload_n hm rfl rfl ?_
    refine x_ldcI hm rfl (v := (-1000001 : Int32)) (by decide +kernel) ?_
    refine x_cVi hm rfl rfl (t7 (by decide +kernel)) (fun v2 M2 r2 => ?_)
    refine x_iret hm rfl rfl (by first | rfl | exact bI_nar | decide) ?_
    first
      | (have hq : qWalk r nt np a1 a2 = (-1000001, true) := by
           unfold qWalk
           rw [if_pos (by assumption)]
         exact ⟨_, _, rfl, rfl, r2.1.trans (fst_q hq)⟩)
      | (have hq : qWalk r nt np (nI p) a2 = (-1000001, true) := by
           unfold qWalk
           rw [if_neg (by assumption), if_pos (by assumption)]
         exact ⟨_, _, rfl, rfl, r2.1.trans (fst_q hq)⟩)
  · obtain ⟨p, hp, rfl⟩ := in_k rfl (by omega) (bI_ne0 h1)
    refine x_iload_n hm rfl rfl ?_
    refine x_iconst hm rfl (v := nI 0) (by decide) ?_
    refine x_bipush hm rfl (v := nI 60) (by decide) ?_
    refine x_callS hm rfl rfl (t6) ?_
    refine x_if_ne hm rfl (t := 28) rfl (fun h3 => ?_) (fun h3 => ?_)
    · obtain ⟨a, ha, rfl⟩ := le_k (by omega) (bI_ne0 h3)
      refine x_aload_n hm rfl rfl ?_
      refine x_iload_n hm rfl rfl ?_
      refine x_iconst hm rfl (v := nI 2) (by decide) ?_
      refine x_bipush hm rfl (v := nI 16) (by decide) ?_
      refine x_iload_n hm rfl rfl ?_
      refine x_cVi hm rfl rfl (gv49 (f := 2) (c := 16) hR hV hc hp (by decide) (by decide) (by omega) (fun k hk => (walk_gd hG hp hk).2.2.1)) (fun v4 M4 r4 => ?_)
      refine x_iret hm rfl rfl (by first | rfl | exact bI_nar | decide) ?_
      have hq : qWalk r nt np (nI p) (nI a) = ((fo (sLl r (-1) nt np a (62 + 7 * p + 2)) 16 (nI 0, 2147483647)).1, false) := by
        unfold qWalk
        rw [if_neg (by assumption), if_neg (by assumption)]
        rw [jI_nat (k := p) (by omega)]
        rw [jI_nat (k := a) (by omega)]
      exact ⟨_, _, rfl, rfl, (r4.trans (pick_lost (T := sThick r nt) (c := 16) (thick_le8 hG) (fun k hk => lost_le (walk_gd hG hp hk) (by omega)) (fun k z hk => by unfold sLl; rw [thick_o (fun t ht => by omega)]) (Or.inl (by decide))).symm).trans (fst_q hq)⟩
    · refine x_aload_n hm rfl rfl ?_
      refine x_ldcI hm rfl (v := (-1000001 : Int32)) (by decide +kernel) ?_
      refine x_cVi hm rfl rfl (t7 (by decide +kernel)) (fun v5 M5 r5 => ?_)
      refine x_iret hm rfl rfl (by first | rfl | exact bI_nar | decide) ?_
      first
        | (have hq : qWalk r nt np a1 a2 = (-1000001, true) := by
             unfold qWalk
             rw [if_pos (by assumption)]
           exact ⟨_, _, rfl, rfl, r5.1.trans (fst_q hq)⟩)
        | (have hq : qWalk r nt np (nI p) a2 = (-1000001, true) := by
             unfold qWalk
             rw [if_neg (by assumption), if_pos (by assumption)]
           exact ⟨_, _, rfl, rfl, r5.1.trans (fst_q hq)⟩)
theorem gv51 {a1 a2 : Int32} (hR : Rel 1 nt np M r) (hG : Gd nt np r) (hc : M 1 7 = -1) : ∃ v M', mT X 51 [.ref 0, .int a1, .int a2] (con M) (some (.int v)) (con M') ∧ v = (qPlace r nt np a1 a2).1 := by
  refine ti_of (row := _) rfl (Nat.le_of_ble_eq_true rfl) ?_
  have hm : mMet 51 = some _ := rfl
  have hV := hG.2.2.1
  have hn8 := hV.1
  have hp8 := hV.2.1
  refine x_aload_n hm rfl rfl ?_
  refine x_getf hm rfl (gR rfl rfl) ?_
  refine x_iload_n hm rfl rfl ?_
  refine x_callV hm rfl rfl (t10 (by decide)) ?_
  rw [hR.1]
  refine x_if_eq hm rfl (t := 21) rfl (fun h1 => ?_) (fun h1 => ?_)
  · refine x_aload_n hm rfl rfl ?_
    refine x_ldcI hm rfl (v := (-1000001 : Int32)) (by decide +kernel) ?_
    refine x_cVi hm rfl rfl (t7 (by decide +kernel)) (fun v2 M2 r2 => ?_)
    refine x_iret hm rfl rfl (by first | rfl | exact bI_nar | decide) ?_
    first
      | (have hq : qPlace r nt np a1 a2 = (-1000001, true) := by
           unfold qPlace
           rw [if_pos (by assumption)]
         exact ⟨_, _, rfl, rfl, r2.1.trans (fst_q hq)⟩)
      | (have hq : qPlace r nt np (nI t) a2 = (-1000001, true) := by
           unfold qPlace
           rw [if_neg (by assumption), if_pos (by assumption)]
         exact ⟨_, _, rfl, rfl, r2.1.trans (fst_q hq)⟩)
  · obtain ⟨t, ht, rfl⟩ := in_k rfl (by omega) (bI_ne0 h1)
    refine x_iload_n hm rfl rfl ?_
    refine x_iconst hm rfl (v := nI 0) (by decide) ?_
    refine x_bipush hm rfl (v := nI 60) (by decide) ?_
    refine x_callS hm rfl rfl (t6) ?_
    refine x_if_ne hm rfl (t := 28) rfl (fun h3 => ?_) (fun h3 => ?_)
    · obtain ⟨a, ha, rfl⟩ := le_k (by omega) (bI_ne0 h3)
      refine x_aload_n hm rfl rfl ?_
      refine x_iload_n hm rfl rfl ?_
      refine x_iconst hm rfl (v := nI 1) (by decide) ?_
      refine x_bipush hm rfl (v := nI 16) (by decide) ?_
      refine x_iload_n hm rfl rfl ?_
      refine x_cVi hm rfl rfl (gv52 (f := 1) (c := 16) hR hV hc ht (by decide) (by decide) (by omega) (fun k hk => (place_gd hG ht hk).2.2.1)) (fun v4 M4 r4 => ?_)
      refine x_iret hm rfl rfl (by first | rfl | exact bI_nar | decide) ?_
      have hq : qPlace r nt np (nI t) (nI a) = ((fo (sTk r (-1) nt np a t (14 + 6 * t + 1)) 16 (-1, -1)).1, false) := by
        unfold qPlace
        rw [if_neg (by assumption), if_neg (by assumption)]
        rw [jI_nat (k := t) (by omega)]
        rw [jI_nat (k := a) (by omega)]
      exact ⟨_, _, rfl, rfl, (r4.trans (pick_most (c := 16) (fun k hk => le_8000 (days_le (place_gd hG ht hk) (by omega) ht)) (fun k z hk => rfl) (by decide)).symm).trans (fst_q hq)⟩
    · refine x_aload_n hm rfl rfl ?_
      refine x_ldcI hm rfl (v := (-1000001 : Int32)) (by decide +kernel) ?_
      refine x_cVi hm rfl rfl (t7 (by decide +kernel)) (fun v5 M5 r5 => ?_)
      refine x_iret hm rfl rfl (by first | rfl | exact bI_nar | decide) ?_
      first
        | (have hq : qPlace r nt np a1 a2 = (-1000001, true) := by
             unfold qPlace
             rw [if_pos (by assumption)]
           exact ⟨_, _, rfl, rfl, r5.1.trans (fst_q hq)⟩)
        | (have hq : qPlace r nt np (nI t) a2 = (-1000001, true) := by
             unfold qPlace
             rw [if_neg (by assumption), if_pos (by assumption)]
           exact ⟨_, _, rfl, rfl, r5.1.trans (fst_q hq)⟩)
theorem gv53 {a1 a2 : Int32} (hR : Rel 1 nt np M r) (hG : Gd nt np r) (hc : M 1 7 = -1) : ∃ v M', mT X 53 [.ref 0, .int a1, .int a2] (con M) (some (.int v)) (con M') ∧ v = (qOwner r nt np a1 a2).1 := by
  refine ti_of (row := _) rfl (Nat.le_of_ble_eq_true rfl) ?_
  have hm : mMet 53 = some _ := rfl
  have hV := hG.2.2.1
  have hn8 := hV.1
  have hp8 := hV.2.1
  refine x_aload_n hm rfl rfl ?_
  refine x_getf hm rfl (gR rfl rfl) ?_
  refine x_iload_n hm rfl rfl ?_
  refine x_callV hm rfl rfl (t10 (by decide)) ?_
  rw [hR.1]
  refine x_if_eq hm rfl (t := 21) rfl (fun h1 => ?_) (fun h1 => ?_)
  · refine x_aload_n hm rfl rfl ?_
    refine x_ldcI hm rfl (v := (-1000001 : Int32)) (by decide +kernel) ?_
    refine x_cVi hm rfl rfl (t7 (by decide +kernel)) (fun v2 M2 r2 => ?_)
    refine x_iret hm rfl rfl (by first | rfl | exact bI_nar | decide) ?_
    first
      | (have hq : qOwner r nt np a1 a2 = (-1000001, true) := by
           unfold qOwner
           rw [if_pos (by assumption)]
         exact ⟨_, _, rfl, rfl, r2.1.trans (fst_q hq)⟩)
      | (have hq : qOwner r nt np (nI t) a2 = (-1000001, true) := by
           unfold qOwner
           rw [if_neg (by assumption), if_pos (by assumption)]
         exact ⟨_, _, rfl, rfl, r2.1.trans (fst_q hq)⟩)
  · obtain ⟨t, ht, rfl⟩ := in_k rfl (by omega) (bI_ne0 h1)
    refine x_iload_n hm rfl rfl ?_
    refine x_iconst hm rfl (v := nI 0) (by decide) ?_
    refine x_bipush hm rfl (v := nI 60) (by decide) ?_
    refine x_callS hm rfl rfl (t6) ?_
    refine x_if_ne hm rfl (t := 28) rfl (fun h3 => ?_) (fun h3 => ?_)
    · obtain ⟨a, ha, rfl⟩ := le_k (by omega) (bI_ne0 h3)
      refine x_aload_n hm rfl rfl ?_
      refine x_getf hm rfl (gR rfl rfl) ?_
      refine x_getf hm rfl (gI rfl rfl) ?_
      rw [hR.2.1]
      refine x_if_ne hm rfl (t := 45) rfl (fun h4 => ?_) (fun h4 => ?_)
      · have hnp0 : 0 < np := Nat.pos_of_ne_zero fun e => h4 (by rw [e]; rfl)
        refine x_aload_n hm rfl rfl ?_
        refine x_iload_n hm rfl rfl ?_
        refine x_iconst hm rfl (v := nI 4) (by decide) ?_
        refine x_aload_n hm rfl rfl ?_
        refine x_getf hm rfl (gR rfl rfl) ?_
        refine x_getf hm rfl (gI rfl rfl) ?_
        rw [hR.2.1]
        refine x_iload_n hm rfl rfl ?_
        refine x_cVi hm rfl rfl (gv52 (f := 4) (c := np) hR hV hc ht (by decide) (by omega) (by omega) (fun k hk => (owner_gd hG ht hk).2.2.1)) (fun v5 M5 r5 => ?_)
        refine x_iret hm rfl rfl (by first | rfl | exact bI_nar | decide) ?_
        have hq : qOwner r nt np (nI t) (nI a) = orN (fo (sTk r (-1) nt np a t (14 + 6 * t + 4)) np (-1, -1)).1 := by
          unfold qOwner
          rw [if_neg (by assumption), if_neg (by assumption)]
          rw [jI_nat (k := t) (by omega)]
          rw [jI_nat (k := a) (by omega)]
        obtain ⟨j, hj, e⟩ := sCl_k (L := (fun k => sDays (-1) nt np a (put1 r (14 + 6 * t + 4) (nI k)) (14 + 6 * t + 2))) (g := -1) np
        have e2 := (pick_most (F := sTk r (-1) nt np a t (14 + 6 * t + 4)) (b0 := -1) (b1 := nI 0) (c := np) (L := (fun k => sDays (-1) nt np a (put1 r (14 + 6 * t + 4) (nI k)) (14 + 6 * t + 2))) (fun k hk => le_8000 (days_le (owner_gd hG ht hk) (by omega) ht)) (fun k z hk => rfl) hnp0).trans e
        have hq9 := hq.trans ((congrArg orN e2).trans (orN_k (by omega)))
        exact ⟨_, _, rfl, rfl, (r5.trans e).trans (fst_q hq9)⟩
      · have hnp0 : np = 0 := jI_inj (by omega) (by decide) h4
        refine x_aload_n hm rfl rfl ?_
        refine x_ldcI hm rfl (v := (-1000004 : Int32)) (by decide +kernel) ?_
        refine x_cVi hm rfl rfl (t7 (by decide +kernel)) (fun v6 M6 r6 => ?_)
        refine x_iret hm rfl rfl (by first | rfl | exact bI_nar | decide) ?_
        have hq : qOwner r nt np (nI t) (nI a) = orN (fo (sTk r (-1) nt np a t (14 + 6 * t + 4)) np (-1, -1)).1 := by
          unfold qOwner
          rw [if_neg (by assumption), if_neg (by assumption)]
          rw [jI_nat (k := t) (by omega)]
          rw [jI_nat (k := a) (by omega)]
        have hq9 : qOwner r nt np (nI t) (nI a) = (-1000004, true) := by
          rw [hq]
          subst hnp0
          exact orN_m
        exact ⟨_, _, rfl, rfl, r6.1.trans (fst_q hq9)⟩
    · refine x_aload_n hm rfl rfl ?_
      refine x_ldcI hm rfl (v := (-1000001 : Int32)) (by decide +kernel) ?_
      refine x_cVi hm rfl rfl (t7 (by decide +kernel)) (fun v7 M7 r7 => ?_)
      refine x_iret hm rfl rfl (by first | rfl | exact bI_nar | decide) ?_
      first
        | (have hq : qOwner r nt np a1 a2 = (-1000001, true) := by
             unfold qOwner
             rw [if_pos (by assumption)]
           exact ⟨_, _, rfl, rfl, r7.1.trans (fst_q hq)⟩)
        | (have hq : qOwner r nt np (nI t) a2 = (-1000001, true) := by
             unfold qOwner
             rw [if_neg (by assumption), if_pos (by assumption)]
           exact ⟨_, _, rfl, rfl, r7.1.trans (fst_q hq)⟩)
theorem gv54l {a : Nat} (hR : Rel 1 nt np M r) (hV : Vs nt np r) (hc : M 1 7 = -1) (ha : a ≤ 1000) : ∀ (n k : Nat) (s g : Int32) (x5 : Option Value) (M1 : mM), np - k < n → k ≤ np → Tz M M1 → (s, g) = fo (sCl (fun k => sThick (sDays (nI k) nt np a r) nt)) k (nI 0, -1) → mEv X (QI (fun v M' => v = (fo (sCl (fun k => sThick (sDays (nI k) nt np a r) nt)) np (nI 0, -1)).1)) 54 41 [some (.ref 0), some (.int (nI a)), some (.int s), some (.int g), some (.int (nI k)), x5] [] (con M1) := by
  have hm : mMet 54 = some _ := rfl
  intro n
  induction n with
  | zero =>
    intro k s g x5 M1 hkn hkb hT hz
    omega
  | succ n ih =>
    intro k s g x5 M1 hkn hkb hT hz
    have hn8 := hV.1
    have hp8 := hV.2.1
    have hp1 : M1 1 4 = nI np := (hT.rel hR).2.1
    refine x_iload hm rfl rfl ?_
    refine x_aload_n hm rfl rfl ?_
    refine x_getf hm rfl (gR rfl rfl) ?_
    refine x_getf hm rfl (gI rfl rfl) ?_
    rw [hp1]
    refine x_icmp_ge hm rfl (t := 101) rfl (fun h1 => ?_) (fun h1 => ?_)
    · obtain rfl : k = np := Nat.le_antisymm hkb ((jI_le (by omega) (by omega)).mp h1)
      refine x_iload_n hm rfl rfl ?_
      refine x_iret hm rfl rfl (by first | rfl | exact bI_nar | decide) ?_
      exact ⟨_, _, rfl, rfl, congrArg Prod.fst hz⟩
    · have hk : k < np := Nat.lt_of_not_le fun h => h1 (nI_le h (by omega))
      refine x_aload_n hm rfl rfl ?_
      refine x_cVv hm rfl rfl (g42 (hT.rel hR) hn8 hp8 (hT.c hc)) (fun M2 r2 => ?_)
      refine x_aload_n hm rfl rfl ?_
      refine x_getf hm rfl (gR rfl rfl) ?_
      refine x_iload hm rfl rfl ?_
      refine x_putf hm rfl (pI rfl rfl (by decide) (by first | exact mFit_int | rfl | decide) rfl) ?_
      have hq2 := r2.1.calm (v := nI k)
      have h7 : mput M2 35 7 (nI k) 35 7 = nI k := mp0
      have hz2 : Tz M (mput M2 35 7 (nI k)) := (hT.to r2.2.2).to (fun x hx => mpo (by omega))
      refine x_aload_n hm rfl rfl ?_
      refine x_getf hm rfl (gR rfl rfl) ?_
      refine x_iload_n hm rfl rfl ?_
      refine x_cVv hm rfl rfl (e30 (by decide) hq2 hV ha) (fun M3 r3 => ?_)
      rw [h7] at r3
      have hz3 := hz2.to r3.tz
      refine x_aload_n hm rfl rfl ?_
      refine x_getf hm rfl (gR rfl rfl) ?_
      refine x_callV hm rfl rfl (e38 (by decide) r3.1 (hV.days _)) ?_
      refine x_istore hm rfl rfl ?_
      refine x_iload hm rfl rfl ?_
      refine x_iload_n hm rfl rfl ?_
      refine x_icmp_le hm rfl (t := 95) rfl (fun h4 => ?_) (fun h4 => ?_)
      · have hle := h4
        refine x_iinc hm rfl rfl (v := nI 1) (by decide) rfl ?_
        rw [jI_add]
        refine x_goto hm rfl (t := 41) rfl ?_
        first
          | exact ih _ _ _ _ _ (by omega) (by omega) hz3 (by show _ = sCl (fun k => sThick (sDays (nI k) nt np a r) nt) k _; rw [← hz]; exact (if_pos hlt).symm)
          | exact ih _ _ _ _ _ (by omega) (by omega) hz3 (by show _ = sCl (fun k => sThick (sDays (nI k) nt np a r) nt) k _; rw [← hz]; exact (if_neg (Int32.not_lt.mpr hle)).symm)
      · have hlt := Int32.not_le.mp h4
        refine x_iload hm rfl rfl ?_
        refine x_istore_n hm rfl rfl ?_
        refine x_iload hm rfl rfl ?_
        refine x_istore_n hm rfl rfl ?_
        refine x_iinc hm rfl rfl (v := nI 1) (by decide) rfl ?_
        rw [jI_add]
        refine x_goto hm rfl (t := 41) rfl ?_
        first
          | exact ih _ _ _ _ _ (by omega) (by omega) hz3 (by show _ = sCl (fun k => sThick (sDays (nI k) nt np a r) nt) k _; rw [← hz]; exact (if_pos hlt).symm)
          | exact ih _ _ _ _ _ (by omega) (by omega) hz3 (by show _ = sCl (fun k => sThick (sDays (nI k) nt np a r) nt) k _; rw [← hz]; exact (if_neg (Int32.not_lt.mpr hle)).symm)
theorem gv54 {a1 : Int32} (hR : Rel 1 nt np M r) (hG : Gd nt np r) (hc : M 1 7 = -1) : ∃ v M', mT X 54 [.ref 0, .int a1] (con M) (some (.int v)) (con M') ∧ v = (qWorst r nt np a1).1 := by
  refine ti_of (row := _) rfl (Nat.le_of_ble_eq_true rfl) ?_
  have hm : mMet 54 = some _ := rfl
  have hV := hG.2.2.1
  have hn8 := hV.1
  have hp8 := hV.2.1
  refine x_iload_n hm rfl rfl ?_
  refine x_iconst hm rfl (v := nI 0) (by decide) ?_
  refine x_bipush hm rfl (v := nI 60) (by decide) ?_
  refine x_callS hm rfl rfl (t6) ?_
  refine x_if_ne hm rfl (t := 17) rfl (fun h1 => ?_) (fun h1 => ?_)
  · obtain ⟨a, ha, rfl⟩ := le_k (by omega) (bI_ne0 h1)
    refine x_aload_n hm rfl rfl ?_
    refine x_getf hm rfl (gR rfl rfl) ?_
    refine x_getf hm rfl (gI rfl rfl) ?_
    rw [hR.2.1]
    refine x_if_ne hm rfl (t := 34) rfl (fun h2 => ?_) (fun h2 => ?_)
    · have hnp0 : 0 < np := Nat.pos_of_ne_zero fun e => h2 (by rw [e]; rfl)
      refine x_iconst hm rfl (v := nI 0) (by decide) ?_
      refine x_istore_n hm rfl rfl ?_
      refine x_iconst hm rfl (v := (-1 : Int32)) (by decide) ?_
      refine x_istore_n hm rfl rfl ?_
      refine x_iconst hm rfl (v := nI 0) (by decide) ?_
      refine x_istore hm rfl rfl ?_
      have hq : qWorst r nt np (nI a) = orN (fo (sWo r nt np a) np (-1, 2147483647)).1 := by
        unfold qWorst
        rw [if_neg (by assumption)]
        rw [jI_nat (k := a) (by omega)]
      obtain ⟨j, hj, e⟩ := sCl_k (L := (fun k => sThick (sDays (nI k) nt np a r) nt)) (g := -1) np
      have e2 := (pick_lost (F := sWo r nt np a) (T := sThick r nt) (b0 := -1) (b1 := nI 0) (c := np) (L := (fun k => sThick (sDays (nI k) nt np a r) nt)) (thick_le8 hG) (fun k hk => lost_le hG (by omega)) (fun k z hk => rfl) (Or.inl hnp0)).trans e
      have hq9 := hq.trans ((congrArg orN e2).trans (orN_k (by omega)))
      exact ev_mono (gv54l hR hV hc (by omega) _ 0 _ _ _ _ (Nat.lt_succ_self _) (Nat.zero_le _) Tz.rf rfl) (fun r9 D ⟨v, M2, g1, g2, g3⟩ => ⟨v, M2, g1, g2, (g3.trans e).trans (fst_q hq9)⟩)
    · have hnp0 : np = 0 := jI_inj (by omega) (by decide) h2
      refine x_aload_n hm rfl rfl ?_
      refine x_ldcI hm rfl (v := (-1000004 : Int32)) (by decide +kernel) ?_
      refine x_cVi hm rfl rfl (t7 (by decide +kernel)) (fun v3 M3 r3 => ?_)
      refine x_iret hm rfl rfl (by first | rfl | exact bI_nar | decide) ?_
      have hq : qWorst r nt np (nI a) = orN (fo (sWo r nt np a) np (-1, 2147483647)).1 := by
        unfold qWorst
        rw [if_neg (by assumption)]
        rw [jI_nat (k := a) (by omega)]
      have hq9 : qWorst r nt np (nI a) = (-1000004, true) := by
        rw [hq]
        subst hnp0
        exact orN_m
      exact ⟨_, _, rfl, rfl, r3.1.trans (fst_q hq9)⟩
  · refine x_aload_n hm rfl rfl ?_
    refine x_ldcI hm rfl (v := (-1000001 : Int32)) (by decide +kernel) ?_
    refine x_cVi hm rfl rfl (t7 (by decide +kernel)) (fun v4 M4 r4 => ?_)
    refine x_iret hm rfl rfl (by first | rfl | exact bI_nar | decide) ?_
    have hq : qWorst r nt np a1 = (-1000001, true) := by
      unfold qWorst
      rw [if_pos (by assumption)]
    exact ⟨_, _, rfl, rfl, r4.1.trans (fst_q hq)⟩
theorem gv59l {t a : Nat} (hR : Rel 1 nt np M r) (hG : Gd nt np r) (hc : M 1 7 = -1) (ht : t < nt) (ha : a ≤ 1000) : ∀ (n k : Nat) (M1 : mM), 10 - k < n → k ≤ 10 → Tz M M1 → (∀ i, i < k → ¬ 0 < sDays (-1) nt np a (put1 r (14 + 6 * t + 3) (nI i)) (14 + 6 * t + 2)) → mEv X (QI (fun v M' => v = (orN (fo (sNd r (-1) nt np a t) 10 (-1))).1)) 59 30 [some (.ref 0), some (.int (nI t)), some (.int (nI a)), some (.int (nI k))] [] (con M1) := by
  have hm : mMet 59 = some _ := rfl
  intro n
  induction n with
  | zero =>
    intro k M1 hkn hkb hT hno
    omega
  | succ n ih =>
    intro k M1 hkn hkb hT hno
    have hV := hG.2.2.1
    have hn8 := hV.1
    have hp8 := hV.2.1
    refine x_iload_n hm rfl rfl ?_
    refine x_bipush hm rfl (v := nI 9) (by decide) ?_
    refine x_icmp_gt hm rfl (t := 79) rfl (fun h1 => ?_) (fun h1 => ?_)
    · have hk : k = 10 := by
        have : ¬ k ≤ 9 := fun h => absurd h1 (Int32.not_lt.mpr ((jI_le (by omega) (by decide)).mpr h))
        omega
      have hq9 : orN (fo (sNd r (-1) nt np a t) 10 (-1)) = (-1000004, true) := by rw [nd_no (fun i hi => hno i (by omega))]; exact orN_m
      refine x_aload_n hm rfl rfl ?_
      refine x_ldcI hm rfl (v := (-1000004 : Int32)) (by decide +kernel) ?_
      refine x_cVi hm rfl rfl (t7 (by decide +kernel)) (fun v2 M2 r2 => ?_)
      refine x_iret hm rfl rfl (by first | rfl | exact bI_nar | decide) ?_
      exact ⟨_, _, rfl, rfl, r2.1.trans (congrArg Prod.fst hq9).symm⟩
    · have hk : k ≤ 9 := Nat.le_of_not_lt fun h => h1 (nI_lt h (by omega))
      refine x_aload_n hm rfl rfl ?_
      refine x_cVv hm rfl rfl (g42 (hT.rel hR) hn8 hp8 (hT.c hc)) (fun M3 r3 => ?_)
      refine x_aload_n hm rfl rfl ?_
      refine x_getf hm rfl (gR rfl rfl) ?_
      refine x_getf hm rfl (gR rfl rfl) ?_
      refine x_iconst hm rfl (v := nI 3) (by decide) ?_
      refine x_aald hm rfl (lQ _ (by decide) rfl rfl (by omega) (by decide)) ?_
      refine x_iload_n hm rfl rfl ?_
      refine x_iload_n hm rfl rfl ?_
      refine x_iast hm rfl (sI rfl (by omega) (by decide)) ?_
      have hq2 := r3.1.pi (f := 3) (v := nI k) hn8 (by decide) ht
      have h7 : mput M3 (35 + 2 + 3) t (nI k) 35 7 = -1 := (mpn (by omega)).trans r3.2.1
      have hz2 : Tz M (mput M3 (35 + 2 + 3) t (nI k)) := (hT.to r3.2.2).to (fun x hx => mpo (by omega))
      have hgk := paint_gd hG ht (show k < 10 by omega)
      refine x_aload_n hm rfl rfl ?_
      refine x_getf hm rfl (gR rfl rfl) ?_
      refine x_iload_n hm rfl rfl ?_
      refine x_cVv hm rfl rfl (e30 (by decide) hq2 hgk.2.2.1 ha) (fun M4 r4 => ?_)
      rw [h7] at r4
      have hz3 := hz2.to r4.tz
      have hth := r4.1.thick ht
      refine x_aload_n hm rfl rfl ?_
      refine x_getf hm rfl (gR rfl rfl) ?_
      refine x_iload_n hm rfl rfl ?_
      refine x_callV hm rfl rfl (t32 (by decide) (by omega)) ?_
      rw [show M4 (35 + 4) t = _ from hth]
      refine x_if_ne hm rfl (t := 73) rfl (fun h5 => ?_) (fun h5 => ?_)
      · have hno2 : ∀ i, i < k + 1 → ¬ 0 < sDays (-1) nt np a (put1 r (14 + 6 * t + 3) (nI i)) (14 + 6 * t + 2) := fun i hi => by
          by_cases e : i = k
          · subst e
            rw [bI_ne0 h5]
            decide
          · exact hno i (by omega)
        refine x_iinc hm rfl rfl (v := nI 1) (by decide) rfl ?_
        rw [jI_add]
        refine x_goto hm rfl (t := 30) rfl ?_
        exact ih _ _ (by omega) (by omega) hz3 hno2
      · have hq9 : orN (fo (sNd r (-1) nt np a t) 10 (-1)) = (nI k, false) := by rw [nd_yes (by omega) (pos_le (days_le hgk (by omega) ht) (by decide) (bI_eq0.mp h5)) hno]; exact orN_k (by omega)
        refine x_iload_n hm rfl rfl ?_
        refine x_iret hm rfl rfl (by first | rfl | exact bI_nar | decide) ?_
        exact ⟨_, _, rfl, rfl, (congrArg Prod.fst hq9).symm⟩
theorem gv59 {a1 a2 : Int32} (hR : Rel 1 nt np M r) (hG : Gd nt np r) (hc : M 1 7 = -1) : ∃ v M', mT X 59 [.ref 0, .int a1, .int a2] (con M) (some (.int v)) (con M') ∧ v = (qNeeds r nt np a1 a2).1 := by
  refine ti_of (row := _) rfl (Nat.le_of_ble_eq_true rfl) ?_
  have hm : mMet 59 = some _ := rfl
  have hV := hG.2.2.1
  have hn8 := hV.1
  have hp8 := hV.2.1
  refine x_aload_n hm rfl rfl ?_
  refine x_getf hm rfl (gR rfl rfl) ?_
  refine x_iload_n hm rfl rfl ?_
  refine x_callV hm rfl rfl (t10 (by decide)) ?_
  rw [hR.1]
  refine x_if_eq hm rfl (t := 21) rfl (fun h1 => ?_) (fun h1 => ?_)
  · refine x_aload_n hm rfl rfl ?_
    refine x_ldcI hm rfl (v := (-1000001 : Int32)) (by decide +kernel) ?_
    refine x_cVi hm rfl rfl (t7 (by decide +kernel)) (fun v2 M2 r2 => ?_)
    refine x_iret hm rfl rfl (by first | rfl | exact bI_nar | decide) ?_
    first
      | (have hq : qNeeds r nt np a1 a2 = (-1000001, true) := by
           unfold qNeeds
           rw [if_pos (by assumption)]
         exact ⟨_, _, rfl, rfl, r2.1.trans (fst_q hq)⟩)
      | (have hq : qNeeds r nt np (nI t) a2 = (-1000001, true) := by
           unfold qNeeds
           rw [if_neg (by assumption), if_pos (by assumption)]
         exact ⟨_, _, rfl, rfl, r2.1.trans (fst_q hq)⟩)
  · obtain ⟨t, ht, rfl⟩ := in_k rfl (by omega) (bI_ne0 h1)
    refine x_iload_n hm rfl rfl ?_
    refine x_iconst hm rfl (v := nI 0) (by decide) ?_
    refine x_bipush hm rfl (v := nI 60) (by decide) ?_
    refine x_callS hm rfl rfl (t6) ?_
    refine x_if_ne hm rfl (t := 28) rfl (fun h3 => ?_) (fun h3 => ?_)
    · obtain ⟨a, ha, rfl⟩ := le_k (by omega) (bI_ne0 h3)
      refine x_iconst hm rfl (v := nI 0) (by decide) ?_
      refine x_istore_n hm rfl rfl ?_
      have hq : qNeeds r nt np (nI t) (nI a) = orN (fo (sNd r (-1) nt np a t) 10 (-1)) := by
        unfold qNeeds
        rw [if_neg (by assumption), if_neg (by assumption)]
        rw [jI_nat (k := t) (by omega)]
        rw [jI_nat (k := a) (by omega)]
      rw [hq]
      exact gv59l hR hG hc ht (by omega) _ 0 _ (Nat.lt_succ_self _) (Nat.zero_le _) Tz.rf (fun i hi => absurd hi (Nat.not_lt_zero _))
    · refine x_aload_n hm rfl rfl ?_
      refine x_ldcI hm rfl (v := (-1000001 : Int32)) (by decide +kernel) ?_
      refine x_cVi hm rfl rfl (t7 (by decide +kernel)) (fun v4 M4 r4 => ?_)
      refine x_iret hm rfl rfl (by first | rfl | exact bI_nar | decide) ?_
      first
        | (have hq : qNeeds r nt np a1 a2 = (-1000001, true) := by
             unfold qNeeds
             rw [if_pos (by assumption)]
           exact ⟨_, _, rfl, rfl, r4.1.trans (fst_q hq)⟩)
        | (have hq : qNeeds r nt np (nI t) a2 = (-1000001, true) := by
             unfold qNeeds
             rw [if_neg (by assumption), if_pos (by assumption)]
           exact ⟨_, _, rfl, rfl, r4.1.trans (fst_q hq)⟩)
theorem J.asq {cmd rmd : Nat} {as bs : List Value} {F : (Nat → Int32) → Nat → Nat → Int32 × Bool} (hJ : J M) (hc : ∃ v M1, mT X cmd as (con M) (some (.int v)) (con M1) ∧ Cq M M1) (he : ∀ nt np, Rel 1 nt np M (M 67) → Gd nt np (M 67) → M 1 7 = -1 → ∃ v M1, mT X cmd as (con M) (some (.int v)) (con M1) ∧ v = (F (M 67) nt np).1)
    (hr : ∀ M1 nt np, J M1 → Gd nt np (M1 67) → ∃ v M', mT X rmd bs (con M1) (some (.int v)) (con M') ∧ v = (F (M1 67) nt np).1 ∧ Kq M1 M' ∧ Fq (F (M1 67) nt np) M1 M') : JJ X cmd rmd as bs M Eq := by
  obtain ⟨nt, np, hR, h1, h2, hV, hr0, hc7⟩ := hJ.2.2.1
  have g : Gd nt np (M 67) := ⟨h1, h2, hV, hr0⟩
  refine hJ.asv hc (he nt np hR g hc7) (fun M1 j => j.kq (F := fun nt np => F (M1 67) nt np) fun nt np g => hr M1 nt np j g) (fun M1 j k => ?_) rfl
  obtain ⟨v, M', a, b, -⟩ := hr M1 nt np j (by rw [k 67 (by decide)]; exact g)
  exact ⟨v, M', a, by rw [b, k 67 (by decide)]⟩
theorem j_ahead {a1 a2 : Int32} (hJ : J M) : JJ X 41 172 [.ref 0, .int a1, .int a2] [.ref 66, .int a1, .int a2] M Eq := hJ.asq (F := fun r nt np => qAhead r nt np a1 a2) (t41 hJ.1.1) (fun nt np hR g h7 => gv41 hR g h7) (fun M1 nt np j g => e172 j.1.1 g.1 g.2.2.1.1 g.2.1 g.2.2.1.2.1 j.2.2.2.2.2.2)
theorem j_lasts {a1 : Int32} (hJ : J M) : JJ X 44 176 [.ref 0, .int a1] [.ref 66, .int a1] M Eq := hJ.asq (F := fun r nt np => qLasts r nt np a1) (t44 hJ.1.1) (fun nt np hR g h7 => gv44 hR g h7) (fun M1 nt np j g => e176 j.1.1 g.1 g.2.2.1.1 g.2.1 g.2.2.1.2.1 j.2.2.2.2.2.2)
theorem j_gone {a1 : Int32} (hJ : J M) : JJ X 45 178 [.ref 0, .int a1] [.ref 66, .int a1] M Eq := hJ.asq (F := fun r nt np => qGone r nt np a1) (t45 hJ.1.1) (fun nt np hR g h7 => gv45 hR g h7) (fun M1 nt np j g => e178 j.1.1 g.1 g.2.2.1.1 g.2.1 g.2.2.1.2.1 j.2.2.2.2.2.2)
theorem j_worn {a1 : Int32} (hJ : J M) : JJ X 46 179 [.ref 0, .int a1] [.ref 66, .int a1] M Eq := hJ.asq (F := fun r nt np => qWorn r nt np a1) (t46 hJ.1.1) (fun nt np hR g h7 => gv46 hR g h7) (fun M1 nt np j g => e179 j.1.1 g.1 g.2.2.1.1 g.2.1 g.2.2.1.2.1 j.2.2.2.2.2.2)
theorem j_sees {a1 a2 : Int32} (hJ : J M) : JJ X 47 181 [.ref 0, .int a1, .int a2] [.ref 66, .int a1, .int a2] M Eq := hJ.asq (F := fun r nt np => qSees r nt np a1 a2) (t47 hJ.1.1) (fun nt np hR g h7 => gv47 hR g h7) (fun M1 nt np j g => e181 j.1.1 g.1 g.2.2.1.1 g.2.1 g.2.2.1.2.1 j.2.2.2.2.2.2)
theorem j_kindFor {a1 a2 : Int32} (hJ : J M) : JJ X 48 182 [.ref 0, .int a1, .int a2] [.ref 66, .int a1, .int a2] M Eq := hJ.asq (F := fun r nt np => qKind r nt np a1 a2) (t48 hJ.1.1) (fun nt np hR g h7 => gv48 hR g h7) (fun M1 nt np j g => e182 j.1.1 g.1 g.2.2.1.1 g.2.1 g.2.2.1.2.1 j.2.2.2.2.2.2)
theorem j_walkFor {a1 a2 : Int32} (hJ : J M) : JJ X 50 184 [.ref 0, .int a1, .int a2] [.ref 66, .int a1, .int a2] M Eq := hJ.asq (F := fun r nt np => qWalk r nt np a1 a2) (t50 hJ.1.1) (fun nt np hR g h7 => gv50 hR g h7) (fun M1 nt np j g => e184 j.1.1 g.1 g.2.2.1.1 g.2.1 g.2.2.1.2.1 j.2.2.2.2.2.2)
theorem j_placeFor {a1 a2 : Int32} (hJ : J M) : JJ X 51 185 [.ref 0, .int a1, .int a2] [.ref 66, .int a1, .int a2] M Eq := hJ.asq (F := fun r nt np => qPlace r nt np a1 a2) (t51 hJ.1.1) (fun nt np hR g h7 => gv51 hR g h7) (fun M1 nt np j g => e185 j.1.1 g.1 g.2.2.1.1 g.2.1 g.2.2.1.2.1 j.2.2.2.2.2.2)
theorem j_ownerFor {a1 a2 : Int32} (hJ : J M) : JJ X 53 187 [.ref 0, .int a1, .int a2] [.ref 66, .int a1, .int a2] M Eq := hJ.asq (F := fun r nt np => qOwner r nt np a1 a2) (t53 hJ.1.1) (fun nt np hR g h7 => gv53 hR g h7) (fun M1 nt np j g => e187 j.1.1 g.1 g.2.2.1.1 g.2.1 g.2.2.1.2.1 j.2.2.2.2.2.2)
theorem j_worst {a1 : Int32} (hJ : J M) : JJ X 54 188 [.ref 0, .int a1] [.ref 66, .int a1] M Eq := hJ.asq (F := fun r nt np => qWorst r nt np a1) (t54 hJ.1.1) (fun nt np hR g h7 => gv54 hR g h7) (fun M1 nt np j g => e188 j.1.1 g.1 g.2.2.1.1 g.2.1 g.2.2.1.2.1 j.2.2.2.2.2.2)
theorem j_needs {a1 a2 : Int32} (hJ : J M) : JJ X 59 192 [.ref 0, .int a1, .int a2] [.ref 66, .int a1, .int a2] M Eq := hJ.asq (F := fun r nt np => qNeeds r nt np a1 a2) (t59 hJ.1.1) (fun nt np hR g h7 => gv59 hR g h7) (fun M1 nt np j g => e192 j.1.1 g.1 g.2.2.1.1 g.2.1 g.2.2.1.2.1 j.2.2.2.2.2.2)
end EV
end
section
/-! ===== what is asked of what is: both sides ===== -/
section EW
variable {X : mSc} {Q : Option Value → mHp → Prop} {M : mM} {nt np : Nat} {r : Nat → Int32}
def fThO (r : Nat → Int32) (nt np : Nat) (a1 a2 : Int32) : Int32 := if bI (nI 0 ≤ a1 ∧ a1 ≤ nI nt - nI 1) = 0 then -1000001 else if bI (nI 0 ≤ a2 ∧ a2 ≤ nI 6) = 0 then -1000001 else if a2 = nI 6 then sWear r (-1) np a1.toNatClampNeg else r (14 + 6 * a1.toNatClampNeg + a2.toNatClampNeg)
def fOf (r : Nat → Int32) (nt np : Nat) (a1 a2 : Int32) : Int32 := if bI (nI 0 ≤ a1 ∧ a1 ≤ nI np - nI 1) = 0 then -1000001 else if bI (nI 0 ≤ a2 ∧ a2 ≤ nI 7) = 0 then -1000001 else if a2 = nI 7 then sOwned r a1 nt else r (62 + 7 * a1.toNatClampNeg + a2.toNatClampNeg)
def fEnvy (r : Nat → Int32) (nt np : Nat) (a1 a2 : Int32) : Int32 := if bI (nI 0 ≤ a1 ∧ a1 ≤ nI np - nI 1) = 0 then -1000001 else if bI (nI 0 ≤ a2 ∧ a2 ≤ nI nt - nI 1) = 0 then -1000001 else sEnv r (-1) (r (14 + 6 * a2.toNatClampNeg + 4)) a1.toNatClampNeg a2.toNatClampNeg
def fFells (r : Nat → Int32) (n : Nat) : Int32 := fo (fun t s => if r (14 + 6 * t + 5) = -1 then s ||| bit t else s) n (nI 0)
noncomputable def fFw (r : Nat → Int32) (nt np : Nat) (a1 : Int32) : Int32 := if bI (nI 0 ≤ a1 ∧ a1 ≤ nI nt - nI 1) = 0 then -1000001 else nI (wS (Rch r a1.toNatClampNeg) nt)
def sWth (r : Nat → Int32) (p k n : Nat) : Int32 := fo (fun t s => s + (if k.testBit t = true then sEnv r (-1) (-1) p t else nI 0)) n (nI 0)
def fWorth (r : Nat → Int32) (nt np : Nat) (a1 a2 : Int32) : Int32 := if bI (nI 0 ≤ a1 ∧ a1 ≤ nI np - nI 1) = 0 then -1000001 else if bI (nI 0 ≤ a2 ∧ a2 ≤ nI (2 ^ nt) - nI 1) = 0 then -1000001 else sWth r a1.toNatClampNeg a2.toNatClampNeg nt
def fAs (r : Nat → Int32) (nt np : Nat) (a1 a2 : Int32) : Int32 := if bI (nI 0 ≤ a1 ∧ a1 ≤ nI 9) = 0 then -1000001 else if bI (nI 0 ≤ a2 ∧ a2 ≤ nI 6) = 0 then -1000001 else if r (4 + a1.toNatClampNeg) = -1 then -1000006 else if uo 5 (r (62 + 7 * (r (4 + a1.toNatClampNeg)).toNatClampNeg + 0)) a2 = true then r (4 + a1.toNatClampNeg) else -1000003
def sHs (r : Nat → Int32) (n : Nat) : Int32 := fo (fun s z => z + (if r (4 + s) = -1 then nI 0 else nI 1)) n (nI 0)
def fCount (c : Int32) (r : Nat → Int32) (nt np : Nat) (a1 : Int32) : Int32 := if a1 = nI 0 then r 0 else if a1 = nI 1 then nI nt else if a1 = nI 2 then nI np else if a1 = nI 3 then sBits 256 (nI 0) (sGone r nt) else if a1 = nI 4 then sThick r nt else if a1 = nI 5 then c else if a1 = nI 6 then r 3 else if a1 = nI 7 then sHs r 10 else -1000001
noncomputable def sKs (r : Nat → Int32) (nt k : Nat) (z : Int32 × Int32) : Int32 × Int32 := if z.2 < sBits 256 (nI 0) (nI (wS (Rch r k) nt)) then (nI k, sBits 256 (nI 0) (nI (wS (Rch r k) nt))) else z
noncomputable def fKey (r : Nat → Int32) (nt np : Nat) : Int32 := (orN (fo (sKs r nt) nt (-1, nI 0)).1).1
theorem fFe_t {k : Nat} (h : r (14 + 6 * k + 5) = -1) : fFells r k ||| (nI 1 <<< (nI k &&& 31)) = fFells r (k + 1) := by
  show _ = (if r (14 + 6 * k + 5) = -1 then fFells r k ||| bit k else fFells r k)
  rw [if_pos h]
  rfl
theorem fFe_f {k : Nat} (h : ¬ r (14 + 6 * k + 5) = -1) : fFells r k = fFells r (k + 1) := by
  show _ = (if r (14 + 6 * k + 5) = -1 then fFells r k ||| bit k else fFells r k)
  rw [if_neg h]
theorem sWth_t {p k j : Nat} (h : k.testBit j = true) : sWth r p k j + sEnv r (-1) (-1) p j = sWth r p k (j + 1) := by
  show _ = sWth r p k j + (if k.testBit j = true then sEnv r (-1) (-1) p j else nI 0)
  rw [if_pos h]
theorem sWth_z {p k j : Nat} (h : ¬ k.testBit j = true) : sWth r p k j + nI 0 = sWth r p k (j + 1) := by
  show _ = sWth r p k j + (if k.testBit j = true then sEnv r (-1) (-1) p j else nI 0)
  rw [if_neg h]
theorem sWth_f {p k j : Nat} (h : ¬ k.testBit j = true) : sWth r p k j = sWth r p k (j + 1) := addz.trans (sWth_z h)
theorem sHs_1 {k : Nat} (h : ¬ r (4 + k) = -1) : sHs r k + nI 1 = sHs r (k + 1) := by
  show _ = sHs r k + (if r (4 + k) = -1 then nI 0 else nI 1)
  rw [if_neg h]
theorem sHs_0 {k : Nat} (h : r (4 + k) = -1) : sHs r k + nI 0 = sHs r (k + 1) := by
  show _ = sHs r k + (if r (4 + k) = -1 then nI 0 else nI 1)
  rw [if_pos h]
theorem sHs_s {k : Nat} (h : r (4 + k) = -1) : sHs r k = sHs r (k + 1) := addz.trans (sHs_0 h)
theorem nn_m1 {k : Nat} (h : k < 2147483648) : ¬ nI k = -1 := fun e => absurd (Int32.not_lt.mp (jI_nn h)) (by rw [e]; decide)
theorem sEnv_m {p t : Nat} (hp : p < 8) : sEnv r (-1) (-1) p t = if r (14 + 6 * t + 2) = 0 then nI 0 else mx0 (sKd (r (62 + 7 * p + 0)) (-1) (r (14 + 6 * t + 2)) (sPl r p t) (sRi r (-1) p t)) := by
  have h1 : ¬ (-1 : Int32) = nI p := fun e => nn_m1 (k := p) (by omega) e.symm
  have h2 : ¬ nI p = -1 := nn_m1 (by omega)
  unfold sEnv
  by_cases h : r (14 + 6 * t + 2) = 0
  · rw [if_pos (Or.inr (Or.inl h)), if_pos h]
  · rw [if_neg (fun z => z.elim h1 fun z => z.elim h h2), if_neg h]
theorem set_k {v : Int32} (hn8 : nt ≤ 8) (h : nI 0 ≤ v ∧ v ≤ nI (2 ^ nt) - nI 1) : ∃ k, k < 2 ^ nt ∧ v = nI k := in_k (w := nI (2 ^ nt)) rfl (by have := pow_k hn8; omega) h
theorem g21x {s m : Int32} : mT X 21 [.int s, .int m] (con M) (some (.int (bI ((s >>> (m &&& 31)) &&& nI 1 = nI 1)))) (con M) := by
  refine mT.of (row := _) rfl (Nat.le_of_ble_eq_true rfl) ?_
  have hm : mMet 21 = some _ := rfl
  refine x_iload_n hm rfl rfl ?_
  refine x_iload_n hm rfl rfl ?_
  refine x_ishr hm rfl ?_
  refine x_iconst hm rfl (v := nI 1) (by decide) ?_
  refine x_iand hm rfl ?_
  refine x_iconst hm rfl (v := nI 1) (by decide) ?_
  refine x_icmp_ne hm rfl (t := 13) rfl (fun h1 => ?_) (fun h1 => ?_)
  · refine x_iconst hm rfl (v := nI 0) (by decide) ?_
    refine x_iret hm rfl rfl (by first | rfl | exact bI_nar | decide) ?_
    exact qt (congrArg Value.int (bI_f h1))
  · refine x_iconst hm rfl (v := nI 1) (by decide) ?_
    refine x_goto hm rfl (t := 14) rfl ?_
    refine x_iret hm rfl rfl (by first | rfl | exact bI_nar | decide) ?_
    exact qt (congrArg Value.int (bI_t h1))
theorem gv9 {a1 a2 : Int32} (hR : Rel 1 nt np M r) (hG : Gd nt np r) (hc : M 1 7 = -1) : ∃ v M', mT X 9 [.ref 0, .int a1, .int a2] (con M) (some (.int v)) (con M') ∧ v = fThO r nt np a1 a2 := by
  refine ti_of (row := _) rfl (Nat.le_of_ble_eq_true rfl) ?_
  have hm : mMet 9 = some _ := rfl
  have hV := hG.2.2.1
  have hn8 := hV.1
  have hp8 := hV.2.1
  refine x_aload_n hm rfl rfl ?_
  refine x_getf hm rfl (gR rfl rfl) ?_
  refine x_iload_n hm rfl rfl ?_
  refine x_callV hm rfl rfl (t10 (by decide)) ?_
  rw [hR.1]
  refine x_if_eq hm rfl (t := 21) rfl (fun h1 => ?_) (fun h1 => ?_)
  · refine x_aload_n hm rfl rfl ?_
    refine x_ldcI hm rfl (v := (-1000001 : Int32)) (by decide +kernel) ?_
    refine x_cVi hm rfl rfl (t7 (by decide +kernel)) (fun v2 M2 r2 => ?_)
    refine x_iret hm rfl rfl (by first | rfl | exact bI_nar | decide) ?_
    first
      | (have hq : fThO r nt np a1 a2 = -1000001 := by
           unfold fThO
           rw [if_pos (by assumption)]
         exact ⟨_, _, rfl, rfl, r2.1.trans hq.symm⟩)
      | (have hq : fThO r nt np (nI t) a2 = -1000001 := by
           unfold fThO
           rw [if_neg (by assumption), if_pos (by assumption)]
         exact ⟨_, _, rfl, rfl, r2.1.trans hq.symm⟩)
  · obtain ⟨t, ht, rfl⟩ := in_k rfl (by omega) (bI_ne0 h1)
    refine x_iload_n hm rfl rfl ?_
    refine x_iconst hm rfl (v := nI 0) (by decide) ?_
    refine x_bipush hm rfl (v := nI 6) (by decide) ?_
    refine x_callS hm rfl rfl (t6) ?_
    refine x_if_ne hm rfl (t := 28) rfl (fun h3 => ?_) (fun h3 => ?_)
    · obtain ⟨w, hw, rfl⟩ := le_k (by omega) (bI_ne0 h3)
      refine x_iload_n hm rfl rfl ?_
      refine x_bipush hm rfl (v := nI 6) (by decide) ?_
      refine x_icmp_ne hm rfl (t := 45) rfl (fun h4 => ?_) (fun h4 => ?_)
      · have n6 := h4
        have hw6 : w ≠ 6 := fun e => h4 (by rw [e])
        refine x_aload_n hm rfl rfl ?_
        refine x_getf hm rfl (gR rfl rfl) ?_
        refine x_getf hm rfl (gR rfl rfl) ?_
        refine x_iload_n hm rfl rfl ?_
        refine x_aald hm rfl (lQ 3 (Or.inr (Or.inl rfl)) (tI (b := 1) (by decide)) (tIk (by omega)) (by omega) (by decide)) ?_
        refine x_iload_n hm rfl rfl ?_
        refine x_iald hm rfl (lI (tRowI (b := 1) (by decide) (by omega)) (by omega) (by decide)) ?_
        refine x_iret hm rfl rfl (by first | rfl | exact bI_nar | decide) ?_
        first
          | (have hq : fThO r nt np (nI t) (nI w) = sWear r (-1) np t := by
               unfold fThO
               rw [if_neg (by assumption), if_neg (by assumption), if_pos y6]
               rw [jI_nat (k := t) (by omega)]
             exact ⟨_, _, rfl, rfl, (rfl).trans hq.symm⟩)
          | (have hq : fThO r nt np (nI t) (nI w) = r (14 + 6 * t + w) := by
               unfold fThO
               rw [if_neg (by assumption), if_neg (by assumption), if_neg n6]
               rw [jI_nat (k := t) (by omega)]
               rw [jI_nat (k := w) (by omega)]
             exact ⟨_, _, rfl, rfl, (hR.iron (by omega) ht).trans hq.symm⟩)
      · have y6 := h4
        refine x_aload_n hm rfl rfl ?_
        refine x_getf hm rfl (gR rfl rfl) ?_
        refine x_iload_n hm rfl rfl ?_
        refine x_callV hm rfl rfl (e11 (by decide) hR hV ht) ?_
        rw [hc]
        refine x_goto hm rfl (t := 56) rfl ?_
        refine x_iret hm rfl rfl (by first | rfl | exact bI_nar | decide) ?_
        first
          | (have hq : fThO r nt np (nI t) (nI w) = sWear r (-1) np t := by
               unfold fThO
               rw [if_neg (by assumption), if_neg (by assumption), if_pos y6]
               rw [jI_nat (k := t) (by omega)]
             exact ⟨_, _, rfl, rfl, (rfl).trans hq.symm⟩)
          | (have hq : fThO r nt np (nI t) (nI w) = r (14 + 6 * t + w) := by
               unfold fThO
               rw [if_neg (by assumption), if_neg (by assumption), if_neg n6]
               rw [jI_nat (k := t) (by omega)]
               rw [jI_nat (k := w) (by omega)]
             exact ⟨_, _, rfl, rfl, (hR.iron (by omega) ht).trans hq.symm⟩)
    · refine x_aload_n hm rfl rfl ?_
      refine x_ldcI hm rfl (v := (-1000001 : Int32)) (by decide +kernel) ?_
      refine x_cVi hm rfl rfl (t7 (by decide +kernel)) (fun v5 M5 r5 => ?_)
      refine x_iret hm rfl rfl (by first | rfl | exact bI_nar | decide) ?_
      first
        | (have hq : fThO r nt np a1 a2 = -1000001 := by
             unfold fThO
             rw [if_pos (by assumption)]
           exact ⟨_, _, rfl, rfl, r5.1.trans hq.symm⟩)
        | (have hq : fThO r nt np (nI t) a2 = -1000001 := by
             unfold fThO
             rw [if_neg (by assumption), if_pos (by assumption)]
           exact ⟨_, _, rfl, rfl, r5.1.trans hq.symm⟩)
theorem gr138 {a1 a2 : Int32} (hI : Inv M) (h67 : M 67 = r) (hG : Gd nt np r) (h6 : M 66 6 = -1) : ∃ v M', mT X 138 [.ref 66, .int a1, .int a2] (con M) (some (.int v)) (con M') ∧ v = fThO r nt np a1 a2 := by
  refine ti_of (row := _) rfl (Nat.le_of_ble_eq_true rfl) ?_
  have hm : mMet 138 = some _ := rfl
  have hV := hG.2.2.1
  have hn8 := hV.1
  have hp8 := hV.2.1
  have hW := hI.1
  have hnt : M 67 1 = nI nt := (congrFun h67 1).trans hG.1
  have hnp : M 67 2 = nI np := (congrFun h67 2).trans hG.2.1
  refine x_aload_n hm rfl rfl ?_
  refine x_iload_n hm rfl rfl ?_
  refine x_callV hm rfl rfl (t139) ?_
  rw [hnt]
  refine x_if_eq hm rfl (t := 18) rfl (fun h1 => ?_) (fun h1 => ?_)
  · refine x_aload_n hm rfl rfl ?_
    refine x_ldcI hm rfl (v := (-1000001 : Int32)) (by decide +kernel) ?_
    refine x_callV hm rfl rfl (e135 (by decide +kernel)) ?_
    refine x_iret hm rfl rfl (by first | rfl | exact bI_nar | decide) ?_
    first
      | (have hq : fThO r nt np a1 a2 = -1000001 := by
           unfold fThO
           rw [if_pos (by assumption)]
         exact ⟨_, _, rfl, rfl, hq.symm⟩)
      | (have hq : fThO r nt np (nI t) a2 = -1000001 := by
           unfold fThO
           rw [if_neg (by assumption), if_pos (by assumption)]
         exact ⟨_, _, rfl, rfl, hq.symm⟩)
  · obtain ⟨t, ht, rfl⟩ := in_k rfl (by omega) (bI_ne0 h1)
    refine x_iload_n hm rfl rfl ?_
    refine x_iconst hm rfl (v := nI 0) (by decide) ?_
    refine x_bipush hm rfl (v := nI 6) (by decide) ?_
    refine x_callS hm rfl rfl (t133) ?_
    refine x_if_ne hm rfl (t := 25) rfl (fun h2 => ?_) (fun h2 => ?_)
    · obtain ⟨w, hw, rfl⟩ := le_k (by omega) (bI_ne0 h2)
      refine x_iload_n hm rfl rfl ?_
      refine x_bipush hm rfl (v := nI 6) (by decide) ?_
      refine x_icmp_ne hm rfl (t := 39) rfl (fun h3 => ?_) (fun h3 => ?_)
      · have n6 := h3
        have hw6 : w ≠ 6 := fun e => h3 (by rw [e])
        refine x_aload_n hm rfl rfl ?_
        refine x_iload_n hm rfl rfl ?_
        refine x_iload_n hm rfl rfl ?_
        refine x_callV hm rfl rfl (t143 (by omega) (by omega)) ?_
        rw [h67]
        refine x_iret hm rfl rfl (by first | rfl | exact bI_nar | decide) ?_
        first
          | (have hq : fThO r nt np (nI t) (nI w) = sWear r (-1) np t := by
               unfold fThO
               rw [if_neg (by assumption), if_neg (by assumption), if_pos y6]
               rw [jI_nat (k := t) (by omega)]
             exact ⟨_, _, rfl, rfl, (rfl).trans hq.symm⟩)
          | (have hq : fThO r nt np (nI t) (nI w) = r (14 + 6 * t + w) := by
               unfold fThO
               rw [if_neg (by assumption), if_neg (by assumption), if_neg n6]
               rw [jI_nat (k := t) (by omega)]
               rw [jI_nat (k := w) (by omega)]
             exact ⟨_, _, rfl, rfl, (rfl).trans hq.symm⟩)
      · have y6 := h3
        refine x_aload_n hm rfl rfl ?_
        refine x_iload_n hm rfl rfl ?_
        refine x_callV hm rfl rfl (e140 hW hnp hp8 (by omega)) ?_
        rw [h67, h6]
        refine x_goto hm rfl (t := 45) rfl ?_
        refine x_iret hm rfl rfl (by first | rfl | exact bI_nar | decide) ?_
        first
          | (have hq : fThO r nt np (nI t) (nI w) = sWear r (-1) np t := by
               unfold fThO
               rw [if_neg (by assumption), if_neg (by assumption), if_pos y6]
               rw [jI_nat (k := t) (by omega)]
             exact ⟨_, _, rfl, rfl, (rfl).trans hq.symm⟩)
          | (have hq : fThO r nt np (nI t) (nI w) = r (14 + 6 * t + w) := by
               unfold fThO
               rw [if_neg (by assumption), if_neg (by assumption), if_neg n6]
               rw [jI_nat (k := t) (by omega)]
               rw [jI_nat (k := w) (by omega)]
             exact ⟨_, _, rfl, rfl, (rfl).trans hq.symm⟩)
    · refine x_aload_n hm rfl rfl ?_
      refine x_ldcI hm rfl (v := (-1000001 : Int32)) (by decide +kernel) ?_
      refine x_callV hm rfl rfl (e135 (by decide +kernel)) ?_
      refine x_iret hm rfl rfl (by first | rfl | exact bI_nar | decide) ?_
      first
        | (have hq : fThO r nt np a1 a2 = -1000001 := by
             unfold fThO
             rw [if_pos (by assumption)]
           exact ⟨_, _, rfl, rfl, hq.symm⟩)
        | (have hq : fThO r nt np (nI t) a2 = -1000001 := by
             unfold fThO
             rw [if_neg (by assumption), if_pos (by assumption)]
           exact ⟨_, _, rfl, rfl, hq.symm⟩)
theorem gv24 {a1 a2 : Int32} (hR : Rel 1 nt np M r) (hG : Gd nt np r) (hc : M 1 7 = -1) : ∃ v M', mT X 24 [.ref 0, .int a1, .int a2] (con M) (some (.int v)) (con M') ∧ v = fOf r nt np a1 a2 := by
  refine ti_of (row := _) rfl (Nat.le_of_ble_eq_true rfl) ?_
  have hm : mMet 24 = some _ := rfl
  have hV := hG.2.2.1
  have hn8 := hV.1
  have hp8 := hV.2.1
  refine x_aload_n hm rfl rfl ?_
  refine x_getf hm rfl (gR rfl rfl) ?_
  refine x_iload_n hm rfl rfl ?_
  refine x_callV hm rfl rfl (t19 (by decide)) ?_
  rw [hR.2.1]
  refine x_if_eq hm rfl (t := 21) rfl (fun h1 => ?_) (fun h1 => ?_)
  · refine x_aload_n hm rfl rfl ?_
    refine x_ldcI hm rfl (v := (-1000001 : Int32)) (by decide +kernel) ?_
    refine x_cVi hm rfl rfl (t7 (by decide +kernel)) (fun v2 M2 r2 => ?_)
    refine x_iret hm rfl rfl (by first | rfl | exact bI_nar | decide) ?_
    first
      | (have hq : fOf r nt np a1 a2 = -1000001 := by
           unfold fOf
           rw [if_pos (by assumption)]
         exact ⟨_, _, rfl, rfl, r2.1.trans hq.symm⟩)
      | (have hq : fOf r nt np (nI p) a2 = -1000001 := by
           unfold fOf
           rw [if_neg (by assumption), if_pos (by assumption)]
         exact ⟨_, _, rfl, rfl, r2.1.trans hq.symm⟩)
  · obtain ⟨p, hp, rfl⟩ := in_k rfl (by omega) (bI_ne0 h1)
    refine x_iload_n hm rfl rfl ?_
    refine x_iconst hm rfl (v := nI 0) (by decide) ?_
    refine x_bipush hm rfl (v := nI 7) (by decide) ?_
    refine x_callS hm rfl rfl (t6) ?_
    refine x_if_ne hm rfl (t := 28) rfl (fun h3 => ?_) (fun h3 => ?_)
    · obtain ⟨w, hw, rfl⟩ := le_k (by omega) (bI_ne0 h3)
      refine x_iload_n hm rfl rfl ?_
      refine x_bipush hm rfl (v := nI 7) (by decide) ?_
      refine x_icmp_ne hm rfl (t := 45) rfl (fun h4 => ?_) (fun h4 => ?_)
      · have n6 := h4
        have hw6 : w ≠ 7 := fun e => h4 (by rw [e])
        refine x_aload_n hm rfl rfl ?_
        refine x_getf hm rfl (gR rfl rfl) ?_
        refine x_getf hm rfl (gR rfl rfl) ?_
        refine x_iload_n hm rfl rfl ?_
        refine x_aald hm rfl (lQ 3 (Or.inr (Or.inl rfl)) (tF (b := 1) (by decide)) (tFk (by omega)) (by omega) (by decide)) ?_
        refine x_iload_n hm rfl rfl ?_
        refine x_iald hm rfl (lI (tRowF (b := 1) (by decide) (by omega)) (by omega) (by decide)) ?_
        refine x_iret hm rfl rfl (by first | rfl | exact bI_nar | decide) ?_
        first
          | (have hq : fOf r nt np (nI p) (nI w) = sOwned r (nI p) nt := by
               unfold fOf
               rw [if_neg (by assumption), if_neg (by assumption), if_pos y6]
             exact ⟨_, _, rfl, rfl, (rfl).trans hq.symm⟩)
          | (have hq : fOf r nt np (nI p) (nI w) = r (62 + 7 * p + w) := by
               unfold fOf
               rw [if_neg (by assumption), if_neg (by assumption), if_neg n6]
               rw [jI_nat (k := p) (by omega)]
               rw [jI_nat (k := w) (by omega)]
             exact ⟨_, _, rfl, rfl, (hR.folk (by omega) hp).trans hq.symm⟩)
      · have y6 := h4
        refine x_aload_n hm rfl rfl ?_
        refine x_getf hm rfl (gR rfl rfl) ?_
        refine x_iload_n hm rfl rfl ?_
        refine x_callV hm rfl rfl (e25 (by decide) hR hV) ?_
        refine x_goto hm rfl (t := 56) rfl ?_
        refine x_iret hm rfl rfl (by first | rfl | exact bI_nar | decide) ?_
        first
          | (have hq : fOf r nt np (nI p) (nI w) = sOwned r (nI p) nt := by
               unfold fOf
               rw [if_neg (by assumption), if_neg (by assumption), if_pos y6]
             exact ⟨_, _, rfl, rfl, (rfl).trans hq.symm⟩)
          | (have hq : fOf r nt np (nI p) (nI w) = r (62 + 7 * p + w) := by
               unfold fOf
               rw [if_neg (by assumption), if_neg (by assumption), if_neg n6]
               rw [jI_nat (k := p) (by omega)]
               rw [jI_nat (k := w) (by omega)]
             exact ⟨_, _, rfl, rfl, (hR.folk (by omega) hp).trans hq.symm⟩)
    · refine x_aload_n hm rfl rfl ?_
      refine x_ldcI hm rfl (v := (-1000001 : Int32)) (by decide +kernel) ?_
      refine x_cVi hm rfl rfl (t7 (by decide +kernel)) (fun v5 M5 r5 => ?_)
      refine x_iret hm rfl rfl (by first | rfl | exact bI_nar | decide) ?_
      first
        | (have hq : fOf r nt np a1 a2 = -1000001 := by
             unfold fOf
             rw [if_pos (by assumption)]
           exact ⟨_, _, rfl, rfl, r5.1.trans hq.symm⟩)
        | (have hq : fOf r nt np (nI p) a2 = -1000001 := by
             unfold fOf
             rw [if_neg (by assumption), if_pos (by assumption)]
           exact ⟨_, _, rfl, rfl, r5.1.trans hq.symm⟩)
theorem gr159 {a1 a2 : Int32} (hI : Inv M) (h67 : M 67 = r) (hG : Gd nt np r) (h6 : M 66 6 = -1) : ∃ v M', mT X 159 [.ref 66, .int a1, .int a2] (con M) (some (.int v)) (con M') ∧ v = fOf r nt np a1 a2 := by
  refine ti_of (row := _) rfl (Nat.le_of_ble_eq_true rfl) ?_
  have hm : mMet 159 = some _ := rfl
  have hV := hG.2.2.1
  have hn8 := hV.1
  have hp8 := hV.2.1
  have hW := hI.1
  have hnt : M 67 1 = nI nt := (congrFun h67 1).trans hG.1
  have hnp : M 67 2 = nI np := (congrFun h67 2).trans hG.2.1
  refine x_aload_n hm rfl rfl ?_
  refine x_iload_n hm rfl rfl ?_
  refine x_callV hm rfl rfl (t153) ?_
  rw [hnp]
  refine x_if_eq hm rfl (t := 18) rfl (fun h1 => ?_) (fun h1 => ?_)
  · refine x_aload_n hm rfl rfl ?_
    refine x_ldcI hm rfl (v := (-1000001 : Int32)) (by decide +kernel) ?_
    refine x_callV hm rfl rfl (e135 (by decide +kernel)) ?_
    refine x_iret hm rfl rfl (by first | rfl | exact bI_nar | decide) ?_
    first
      | (have hq : fOf r nt np a1 a2 = -1000001 := by
           unfold fOf
           rw [if_pos (by assumption)]
         exact ⟨_, _, rfl, rfl, hq.symm⟩)
      | (have hq : fOf r nt np (nI p) a2 = -1000001 := by
           unfold fOf
           rw [if_neg (by assumption), if_pos (by assumption)]
         exact ⟨_, _, rfl, rfl, hq.symm⟩)
  · obtain ⟨p, hp, rfl⟩ := in_k rfl (by omega) (bI_ne0 h1)
    refine x_iload_n hm rfl rfl ?_
    refine x_iconst hm rfl (v := nI 0) (by decide) ?_
    refine x_bipush hm rfl (v := nI 7) (by decide) ?_
    refine x_callS hm rfl rfl (t133) ?_
    refine x_if_ne hm rfl (t := 25) rfl (fun h2 => ?_) (fun h2 => ?_)
    · obtain ⟨w, hw, rfl⟩ := le_k (by omega) (bI_ne0 h2)
      refine x_iload_n hm rfl rfl ?_
      refine x_bipush hm rfl (v := nI 7) (by decide) ?_
      refine x_icmp_ne hm rfl (t := 39) rfl (fun h3 => ?_) (fun h3 => ?_)
      · have n6 := h3
        have hw6 : w ≠ 7 := fun e => h3 (by rw [e])
        refine x_aload_n hm rfl rfl ?_
        refine x_iload_n hm rfl rfl ?_
        refine x_iload_n hm rfl rfl ?_
        refine x_callV hm rfl rfl (t141 (by omega) (by omega)) ?_
        rw [h67]
        refine x_iret hm rfl rfl (by first | rfl | exact bI_nar | decide) ?_
        first
          | (have hq : fOf r nt np (nI p) (nI w) = sOwned r (nI p) nt := by
               unfold fOf
               rw [if_neg (by assumption), if_neg (by assumption), if_pos y6]
             exact ⟨_, _, rfl, rfl, (rfl).trans hq.symm⟩)
          | (have hq : fOf r nt np (nI p) (nI w) = r (62 + 7 * p + w) := by
               unfold fOf
               rw [if_neg (by assumption), if_neg (by assumption), if_neg n6]
               rw [jI_nat (k := p) (by omega)]
               rw [jI_nat (k := w) (by omega)]
             exact ⟨_, _, rfl, rfl, (rfl).trans hq.symm⟩)
      · have y6 := h3
        refine x_aload_n hm rfl rfl ?_
        refine x_iload_n hm rfl rfl ?_
        refine x_callV hm rfl rfl (e160 hnt hn8) ?_
        rw [h67]
        refine x_goto hm rfl (t := 45) rfl ?_
        refine x_iret hm rfl rfl (by first | rfl | exact bI_nar | decide) ?_
        first
          | (have hq : fOf r nt np (nI p) (nI w) = sOwned r (nI p) nt := by
               unfold fOf
               rw [if_neg (by assumption), if_neg (by assumption), if_pos y6]
             exact ⟨_, _, rfl, rfl, (rfl).trans hq.symm⟩)
          | (have hq : fOf r nt np (nI p) (nI w) = r (62 + 7 * p + w) := by
               unfold fOf
               rw [if_neg (by assumption), if_neg (by assumption), if_neg n6]
               rw [jI_nat (k := p) (by omega)]
               rw [jI_nat (k := w) (by omega)]
             exact ⟨_, _, rfl, rfl, (rfl).trans hq.symm⟩)
    · refine x_aload_n hm rfl rfl ?_
      refine x_ldcI hm rfl (v := (-1000001 : Int32)) (by decide +kernel) ?_
      refine x_callV hm rfl rfl (e135 (by decide +kernel)) ?_
      refine x_iret hm rfl rfl (by first | rfl | exact bI_nar | decide) ?_
      first
        | (have hq : fOf r nt np a1 a2 = -1000001 := by
             unfold fOf
             rw [if_pos (by assumption)]
           exact ⟨_, _, rfl, rfl, hq.symm⟩)
        | (have hq : fOf r nt np (nI p) a2 = -1000001 := by
             unfold fOf
             rw [if_neg (by assumption), if_pos (by assumption)]
           exact ⟨_, _, rfl, rfl, hq.symm⟩)
theorem gv28 {a1 a2 : Int32} (hR : Rel 1 nt np M r) (hG : Gd nt np r) (hc : M 1 7 = -1) : ∃ v M', mT X 28 [.ref 0, .int a1, .int a2] (con M) (some (.int v)) (con M') ∧ v = fEnvy r nt np a1 a2 := by
  refine ti_of (row := _) rfl (Nat.le_of_ble_eq_true rfl) ?_
  have hm : mMet 28 = some _ := rfl
  have hV := hG.2.2.1
  have hn8 := hV.1
  have hp8 := hV.2.1
  refine x_aload_n hm rfl rfl ?_
  refine x_getf hm rfl (gR rfl rfl) ?_
  refine x_iload_n hm rfl rfl ?_
  refine x_callV hm rfl rfl (t19 (by decide)) ?_
  rw [hR.2.1]
  refine x_if_eq hm rfl (t := 22) rfl (fun h1 => ?_) (fun h1 => ?_)
  · refine x_aload_n hm rfl rfl ?_
    refine x_ldcI hm rfl (v := (-1000001 : Int32)) (by decide +kernel) ?_
    refine x_cVi hm rfl rfl (t7 (by decide +kernel)) (fun v2 M2 r2 => ?_)
    refine x_iret hm rfl rfl (by first | rfl | exact bI_nar | decide) ?_
    first
      | (have hq : fEnvy r nt np a1 a2 = -1000001 := by
           unfold fEnvy
           rw [if_pos (by assumption)]
         exact ⟨_, _, rfl, rfl, r2.1.trans hq.symm⟩)
      | (have hq : fEnvy r nt np (nI p) a2 = -1000001 := by
           unfold fEnvy
           rw [if_neg (by assumption), if_pos (by assumption)]
         exact ⟨_, _, rfl, rfl, r2.1.trans hq.symm⟩)
  · obtain ⟨p, hp, rfl⟩ := in_k rfl (by omega) (bI_ne0 h1)
    refine x_aload_n hm rfl rfl ?_
    refine x_getf hm rfl (gR rfl rfl) ?_
    refine x_iload_n hm rfl rfl ?_
    refine x_callV hm rfl rfl (t10 (by decide)) ?_
    rw [hR.1]
    refine x_if_ne hm rfl (t := 29) rfl (fun h3 => ?_) (fun h3 => ?_)
    · obtain ⟨t, ht, rfl⟩ := in_k rfl (by omega) (bI_ne0 h3)
      refine x_aload_n hm rfl rfl ?_
      refine x_getf hm rfl (gR rfl rfl) ?_
      refine x_iload_n hm rfl rfl ?_
      refine x_iload_n hm rfl rfl ?_
      refine x_callV hm rfl rfl (e12 (by decide) hR hV hp ht) ?_
      rw [hc]
      refine x_iret hm rfl rfl (by first | rfl | exact bI_nar | decide) ?_
      have hq : fEnvy r nt np (nI p) (nI t) = sEnv r (-1) (r (14 + 6 * t + 4)) p t := by
        unfold fEnvy
        rw [if_neg (by assumption), if_neg (by assumption)]
        rw [jI_nat (k := t) (by omega)]
        rw [jI_nat (k := p) (by omega)]
      exact ⟨_, _, rfl, rfl, (rfl).trans hq.symm⟩
    · refine x_aload_n hm rfl rfl ?_
      refine x_ldcI hm rfl (v := (-1000001 : Int32)) (by decide +kernel) ?_
      refine x_cVi hm rfl rfl (t7 (by decide +kernel)) (fun v4 M4 r4 => ?_)
      refine x_iret hm rfl rfl (by first | rfl | exact bI_nar | decide) ?_
      first
        | (have hq : fEnvy r nt np a1 a2 = -1000001 := by
             unfold fEnvy
             rw [if_pos (by assumption)]
           exact ⟨_, _, rfl, rfl, r4.1.trans hq.symm⟩)
        | (have hq : fEnvy r nt np (nI p) a2 = -1000001 := by
             unfold fEnvy
             rw [if_neg (by assumption), if_pos (by assumption)]
           exact ⟨_, _, rfl, rfl, r4.1.trans hq.symm⟩)
theorem gr162 {a1 a2 : Int32} (hI : Inv M) (h67 : M 67 = r) (hG : Gd nt np r) (h6 : M 66 6 = -1) : ∃ v M', mT X 162 [.ref 66, .int a1, .int a2] (con M) (some (.int v)) (con M') ∧ v = fEnvy r nt np a1 a2 := by
  refine ti_of (row := _) rfl (Nat.le_of_ble_eq_true rfl) ?_
  have hm : mMet 162 = some _ := rfl
  have hV := hG.2.2.1
  have hn8 := hV.1
  have hp8 := hV.2.1
  have hW := hI.1
  have hnt : M 67 1 = nI nt := (congrFun h67 1).trans hG.1
  have hnp : M 67 2 = nI np := (congrFun h67 2).trans hG.2.1
  refine x_aload_n hm rfl rfl ?_
  refine x_iload_n hm rfl rfl ?_
  refine x_callV hm rfl rfl (t153) ?_
  rw [hnp]
  refine x_if_eq hm rfl (t := 25) rfl (fun h1 => ?_) (fun h1 => ?_)
  · refine x_aload_n hm rfl rfl ?_
    refine x_ldcI hm rfl (v := (-1000001 : Int32)) (by decide +kernel) ?_
    refine x_callV hm rfl rfl (e135 (by decide +kernel)) ?_
    refine x_iret hm rfl rfl (by first | rfl | exact bI_nar | decide) ?_
    first
      | (have hq : fEnvy r nt np a1 a2 = -1000001 := by
           unfold fEnvy
           rw [if_pos (by assumption)]
         exact ⟨_, _, rfl, rfl, hq.symm⟩)
      | (have hq : fEnvy r nt np (nI p) a2 = -1000001 := by
           unfold fEnvy
           rw [if_neg (by assumption), if_pos (by assumption)]
         exact ⟨_, _, rfl, rfl, hq.symm⟩)
      | (have hq : fEnvy r nt np (nI p) (nI t) = sEnv r (-1) (r (14 + 6 * t + 4)) p t := by
           unfold fEnvy
           rw [if_neg (by assumption), if_neg (by assumption)]
           rw [jI_nat (k := t) (by omega)]
           rw [jI_nat (k := p) (by omega)]
         exact ⟨_, _, rfl, rfl, (rfl).trans hq.symm⟩)
  · obtain ⟨p, hp, rfl⟩ := in_k rfl (by omega) (bI_ne0 h1)
    refine x_aload_n hm rfl rfl ?_
    refine x_iload_n hm rfl rfl ?_
    refine x_callV hm rfl rfl (t139) ?_
    rw [hnt]
    refine x_if_eq hm rfl (t := 25) rfl (fun h2 => ?_) (fun h2 => ?_)
    · refine x_aload_n hm rfl rfl ?_
      refine x_ldcI hm rfl (v := (-1000001 : Int32)) (by decide +kernel) ?_
      refine x_callV hm rfl rfl (e135 (by decide +kernel)) ?_
      refine x_iret hm rfl rfl (by first | rfl | exact bI_nar | decide) ?_
      first
        | (have hq : fEnvy r nt np a1 a2 = -1000001 := by
             unfold fEnvy
             rw [if_pos (by assumption)]
           exact ⟨_, _, rfl, rfl, hq.symm⟩)
        | (have hq : fEnvy r nt np (nI p) a2 = -1000001 := by
             unfold fEnvy
             rw [if_neg (by assumption), if_pos (by assumption)]
           exact ⟨_, _, rfl, rfl, hq.symm⟩)
        | (have hq : fEnvy r nt np (nI p) (nI t) = sEnv r (-1) (r (14 + 6 * t + 4)) p t := by
             unfold fEnvy
             rw [if_neg (by assumption), if_neg (by assumption)]
             rw [jI_nat (k := t) (by omega)]
             rw [jI_nat (k := p) (by omega)]
           exact ⟨_, _, rfl, rfl, (rfl).trans hq.symm⟩)
    · obtain ⟨t, ht, rfl⟩ := in_k rfl (by omega) (bI_ne0 h2)
      refine x_aload_n hm rfl rfl ?_
      refine x_iload_n hm rfl rfl ?_
      refine x_iload_n hm rfl rfl ?_
      refine x_callV hm rfl rfl (e144 hW (by omega) (by omega)) ?_
      rw [h67, h6]
      refine x_goto hm rfl (t := 31) rfl ?_
      refine x_iret hm rfl rfl (by first | rfl | exact bI_nar | decide) ?_
      first
        | (have hq : fEnvy r nt np a1 a2 = -1000001 := by
             unfold fEnvy
             rw [if_pos (by assumption)]
           exact ⟨_, _, rfl, rfl, hq.symm⟩)
        | (have hq : fEnvy r nt np (nI p) a2 = -1000001 := by
             unfold fEnvy
             rw [if_neg (by assumption), if_pos (by assumption)]
           exact ⟨_, _, rfl, rfl, hq.symm⟩)
        | (have hq : fEnvy r nt np (nI p) (nI t) = sEnv r (-1) (r (14 + 6 * t + 4)) p t := by
             unfold fEnvy
             rw [if_neg (by assumption), if_neg (by assumption)]
             rw [jI_nat (k := t) (by omega)]
             rw [jI_nat (k := p) (by omega)]
           exact ⟨_, _, rfl, rfl, (rfl).trans hq.symm⟩)
theorem gv60 {a1 : Int32} (hR : Rel 1 nt np M r) (hG : Gd nt np r) (hc : M 1 7 = -1) : ∃ v M', mT X 60 [.ref 0, .int a1] (con M) (some (.int v)) (con M') ∧ v = fFw r nt np a1 := by
  refine ti_of (row := _) rfl (Nat.le_of_ble_eq_true rfl) ?_
  have hm : mMet 60 = some _ := rfl
  have hV := hG.2.2.1
  have hn8 := hV.1
  have hp8 := hV.2.1
  refine x_aload_n hm rfl rfl ?_
  refine x_getf hm rfl (gR rfl rfl) ?_
  refine x_iload_n hm rfl rfl ?_
  refine x_callV hm rfl rfl (t10 (by decide)) ?_
  rw [hR.1]
  refine x_if_eq hm rfl (t := 22) rfl (fun h1 => ?_) (fun h1 => ?_)
  · refine x_aload_n hm rfl rfl ?_
    refine x_ldcI hm rfl (v := (-1000001 : Int32)) (by decide +kernel) ?_
    refine x_cVi hm rfl rfl (t7 (by decide +kernel)) (fun v2 M2 r2 => ?_)
    refine x_iret hm rfl rfl (by first | rfl | exact bI_nar | decide) ?_
    first
      | (have hq : fFw r nt np a1 = -1000001 := by
           unfold fFw
           rw [if_pos (by assumption)]
         exact ⟨_, _, rfl, rfl, r2.1.trans hq.symm⟩)
      | (have hq : fFw r nt np (nI t) = nI (wS (Rch r t) nt) := by
           unfold fFw
           rw [if_neg (by assumption)]
           rw [jI_nat (k := t) (by omega)]
         exact ⟨_, _, rfl, rfl, (rfl).trans hq.symm⟩)
  · obtain ⟨t, ht, rfl⟩ := in_k rfl (by omega) (bI_ne0 h1)
    refine x_aload_n hm rfl rfl ?_
    refine x_getf hm rfl (gR rfl rfl) ?_
    refine x_iload_n hm rfl rfl ?_
    refine x_callV hm rfl rfl (g20 (by decide) hR hV ht) ?_
    refine x_goto hm rfl (t := 28) rfl ?_
    refine x_iret hm rfl rfl (by first | rfl | exact bI_nar | decide) ?_
    first
      | (have hq : fFw r nt np (nI t) = nI (wS (Rch r t) nt) := by
           unfold fFw
           rw [if_neg (by assumption)]
           rw [jI_nat (k := t) (by omega)]
         exact ⟨_, _, rfl, rfl, (rfl).trans hq.symm⟩)
      | (have hq : fFw r nt np a1 = -1000001 := by
           unfold fFw
           rw [if_pos (by assumption)]
         exact ⟨_, _, rfl, rfl, r0.1.trans hq.symm⟩)
theorem gr193 {a1 : Int32} (hI : Inv M) (h67 : M 67 = r) (hG : Gd nt np r) (h6 : M 66 6 = -1) : ∃ v M', mT X 193 [.ref 66, .int a1] (con M) (some (.int v)) (con M') ∧ v = fFw r nt np a1 := by
  refine ti_of (row := _) rfl (Nat.le_of_ble_eq_true rfl) ?_
  have hm : mMet 193 = some _ := rfl
  have hV := hG.2.2.1
  have hn8 := hV.1
  have hp8 := hV.2.1
  have hW := hI.1
  have hnt : M 67 1 = nI nt := (congrFun h67 1).trans hG.1
  have hnp : M 67 2 = nI np := (congrFun h67 2).trans hG.2.1
  refine x_aload_n hm rfl rfl ?_
  refine x_iload_n hm rfl rfl ?_
  refine x_callV hm rfl rfl (t139) ?_
  rw [hnt]
  refine x_if_eq hm rfl (t := 16) rfl (fun h1 => ?_) (fun h1 => ?_)
  · refine x_aload_n hm rfl rfl ?_
    refine x_ldcI hm rfl (v := (-1000001 : Int32)) (by decide +kernel) ?_
    refine x_callV hm rfl rfl (e135 (by decide +kernel)) ?_
    refine x_iret hm rfl rfl (by first | rfl | exact bI_nar | decide) ?_
    first
      | (have hq : fFw r nt np a1 = -1000001 := by
           unfold fFw
           rw [if_pos (by assumption)]
         exact ⟨_, _, rfl, rfl, hq.symm⟩)
      | (have hq : fFw r nt np (nI t) = nI (wS (Rch r t) nt) := by
           unfold fFw
           rw [if_neg (by assumption)]
           rw [jI_nat (k := t) (by omega)]
         exact ⟨_, _, rfl, rfl, (rfl).trans hq.symm⟩)
  · obtain ⟨t, ht, rfl⟩ := in_k rfl (by omega) (bI_ne0 h1)
    refine x_aload_n hm rfl rfl ?_
    refine x_iload_n hm rfl rfl ?_
    refine x_callV hm rfl rfl (e194 hI (by omega) hnt hn8) ?_
    rw [h67]
    refine x_goto hm rfl (t := 22) rfl ?_
    refine x_iret hm rfl rfl (by first | rfl | exact bI_nar | decide) ?_
    first
      | (have hq : fFw r nt np a1 = -1000001 := by
           unfold fFw
           rw [if_pos (by assumption)]
         exact ⟨_, _, rfl, rfl, hq.symm⟩)
      | (have hq : fFw r nt np (nI t) = nI (wS (Rch r t) nt) := by
           unfold fFw
           rw [if_neg (by assumption)]
           rw [jI_nat (k := t) (by omega)]
         exact ⟨_, _, rfl, rfl, (rfl).trans hq.symm⟩)
theorem ev_qxi {v : Int32} {m pc : Nat} {L : mLoc} {st : List Value} {D : mHp} (h : mEv X (fun z D => z = some (.int v) ∧ D = con M) m pc L st D) : mEv X (QI (fun w _ => w = v)) m pc L st D := ev_mono h (fun z D' ⟨g1, g2⟩ => ⟨v, M, g1, g2, rfl⟩)
theorem gv64l (hR : Rel 1 nt np M r) (hV : Vs nt np r) : ∀ (n k : Nat) (s : Int32), nt - k < n → k ≤ nt → s = fFells r k → mEv X (fun z D => z = some (.int (fFells r nt)) ∧ D = con M) 64 4 [some (.ref 0), some (.int s), some (.int (nI k))] [] (con M) := by
  have hm : mMet 64 = some _ := rfl
  intro n
  induction n with
  | zero =>
    intro k s hkn hkb hs
    omega
  | succ n ih =>
    intro k s hkn hkb hs
    have hn8 := hV.1
    have hp8 := hV.2.1
    refine x_iload_n hm rfl rfl ?_
    refine x_aload_n hm rfl rfl ?_
    refine x_getf hm rfl (gR rfl rfl) ?_
    refine x_getf hm rfl (gI rfl rfl) ?_
    rw [hR.1]
    refine x_icmp_ge hm rfl (t := 42) rfl (fun h1 => ?_) (fun h1 => ?_)
    · obtain rfl : k = nt := Nat.le_antisymm hkb ((jI_le (by omega) (by omega)).mp h1)
      refine x_iload_n hm rfl rfl ?_
      refine x_iret hm rfl rfl (by first | rfl | exact bI_nar | decide) ?_
      rw [hs]
      exact ⟨rfl, rfl⟩
    · have hk : k < nt := Nat.lt_of_not_le fun h => h1 (nI_le h (by omega))
      refine x_aload_n hm rfl rfl ?_
      refine x_getf hm rfl (gR rfl rfl) ?_
      refine x_getf hm rfl (gR rfl rfl) ?_
      refine x_iconst hm rfl (v := nI 5) (by decide) ?_
      refine x_aald hm rfl (lQ _ (by decide) rfl rfl (by omega) (by decide)) ?_
      refine x_iload_n hm rfl rfl ?_
      refine x_iald hm rfl (lI rfl (by omega) (by decide)) ?_
      rw [show M 8 k = _ from hR.on hk]
      refine x_iconst hm rfl (v := (-1 : Int32)) (by decide) ?_
      refine x_icmp_ne hm rfl (t := 36) rfl (fun h2 => ?_) (fun h2 => ?_)
      · refine x_iinc hm rfl rfl (v := nI 1) (by decide) rfl ?_
        rw [jI_add]
        refine x_goto hm rfl (t := 4) rfl ?_
        first
          | exact ih _ _ (by omega) (by omega) (by rw [hs]; exact fFe_t (by assumption))
          | exact ih _ _ (by omega) (by omega) (by rw [hs]; exact fFe_f (by assumption))
      · refine x_iload_n hm rfl rfl ?_
        refine x_iconst hm rfl (v := nI 1) (by decide) ?_
        refine x_iload_n hm rfl rfl ?_
        refine x_ishl hm rfl ?_
        refine x_ior hm rfl ?_
        refine x_istore_n hm rfl rfl ?_
        refine x_iinc hm rfl rfl (v := nI 1) (by decide) rfl ?_
        rw [jI_add]
        refine x_goto hm rfl (t := 4) rfl ?_
        first
          | exact ih _ _ (by omega) (by omega) (by rw [hs]; exact fFe_t (by assumption))
          | exact ih _ _ (by omega) (by omega) (by rw [hs]; exact fFe_f (by assumption))
theorem gv64  (hR : Rel 1 nt np M r) (hG : Gd nt np r) (hc : M 1 7 = -1) : ∃ v M', mT X 64 [.ref 0] (con M) (some (.int v)) (con M') ∧ v = fFells r nt := by
  refine ti_of (row := _) rfl (Nat.le_of_ble_eq_true rfl) ?_
  have hm : mMet 64 = some _ := rfl
  have hV := hG.2.2.1
  have hn8 := hV.1
  have hp8 := hV.2.1
  refine x_iconst hm rfl (v := nI 0) (by decide) ?_
  refine x_istore_n hm rfl rfl ?_
  refine x_iconst hm rfl (v := nI 0) (by decide) ?_
  refine x_istore_n hm rfl rfl ?_
  exact ev_qxi (gv64l hR hV _ 0 _ (Nat.lt_succ_self _) (Nat.zero_le _) rfl)
theorem gr197l (h67 : M 67 = r) (hV : Vs nt np r) (hnt : M 67 1 = nI nt) : ∀ (n k : Nat) (s : Int32), nt - k < n → k ≤ nt → s = fFells r k → mEv X (fun z D => z = some (.int (fFells r nt)) ∧ D = con M) 197 4 [some (.ref 66), some (.int s), some (.int (nI k))] [] (con M) := by
  have hm : mMet 197 = some _ := rfl
  intro n
  induction n with
  | zero =>
    intro k s hkn hkb hs
    omega
  | succ n ih =>
    intro k s hkn hkb hs
    have hn8 := hV.1
    have hp8 := hV.2.1
    refine x_iload_n hm rfl rfl ?_
    refine x_aload_n hm rfl rfl ?_
    refine x_getf hm rfl (gR rfl rfl) ?_
    refine x_iconst hm rfl (v := nI 1) (by decide) ?_
    refine x_iald hm rfl (lI rfl (by omega) (by decide)) ?_
    rw [hnt]
    refine x_icmp_ge hm rfl (t := 39) rfl (fun h1 => ?_) (fun h1 => ?_)
    · obtain rfl : k = nt := Nat.le_antisymm hkb ((jI_le (by omega) (by omega)).mp h1)
      refine x_iload_n hm rfl rfl ?_
      refine x_iret hm rfl rfl (by first | rfl | exact bI_nar | decide) ?_
      rw [hs]
      exact ⟨rfl, rfl⟩
    · have hk : k < nt := Nat.lt_of_not_le fun h => h1 (nI_le h (by omega))
      refine x_iload_n hm rfl rfl ?_
      refine x_aload_n hm rfl rfl ?_
      refine x_iload_n hm rfl rfl ?_
      refine x_iconst hm rfl (v := nI 5) (by decide) ?_
      refine x_callV hm rfl rfl (t143 (by omega) (by omega)) ?_
      rw [h67]
      refine x_if_ge hm rfl (t := 30) rfl (fun h2 => ?_) (fun h2 => ?_)
      · have h5 : ¬ r (14 + 6 * k + 5) = -1 := fun e => absurd h2 (by rw [e]; decide)
        refine x_iconst hm rfl (v := nI 0) (by decide) ?_
        refine x_ior hm rfl ?_
        refine x_istore_n hm rfl rfl ?_
        refine x_iinc hm rfl rfl (v := nI 1) (by decide) rfl ?_
        rw [jI_add]
        refine x_goto hm rfl (t := 4) rfl ?_
        first
          | exact ih _ _ (by omega) (by omega) (by rw [hs]; exact fFe_t h5)
          | exact ih _ _ (by omega) (by omega) (by rw [hs]; exact orz.symm.trans (fFe_f h5))
      · have h5 : r (14 + 6 * k + 5) = -1 := (hV.on hk).resolve_right fun ⟨w, hw, e⟩ => h2 (by rw [e]; exact Int32.not_lt.mp (jI_nn (by omega)))
        refine x_iconst hm rfl (v := nI 1) (by decide) ?_
        refine x_iload_n hm rfl rfl ?_
        refine x_ishl hm rfl ?_
        refine x_goto hm rfl (t := 31) rfl ?_
        refine x_ior hm rfl ?_
        refine x_istore_n hm rfl rfl ?_
        refine x_iinc hm rfl rfl (v := nI 1) (by decide) rfl ?_
        rw [jI_add]
        refine x_goto hm rfl (t := 4) rfl ?_
        first
          | exact ih _ _ (by omega) (by omega) (by rw [hs]; exact fFe_t h5)
          | exact ih _ _ (by omega) (by omega) (by rw [hs]; exact orz.symm.trans (fFe_f h5))
theorem gr197  (hI : Inv M) (h67 : M 67 = r) (hG : Gd nt np r) (h6 : M 66 6 = -1) : ∃ v M', mT X 197 [.ref 66] (con M) (some (.int v)) (con M') ∧ v = fFells r nt := by
  refine ti_of (row := _) rfl (Nat.le_of_ble_eq_true rfl) ?_
  have hm : mMet 197 = some _ := rfl
  have hV := hG.2.2.1
  have hn8 := hV.1
  have hp8 := hV.2.1
  have hW := hI.1
  have hnt : M 67 1 = nI nt := (congrFun h67 1).trans hG.1
  have hnp : M 67 2 = nI np := (congrFun h67 2).trans hG.2.1
  refine x_iconst hm rfl (v := nI 0) (by decide) ?_
  refine x_istore_n hm rfl rfl ?_
  refine x_iconst hm rfl (v := nI 0) (by decide) ?_
  refine x_istore_n hm rfl rfl ?_
  exact ev_qxi (gr197l h67 hV hnt _ 0 _ (Nat.lt_succ_self _) (Nat.zero_le _) rfl)
theorem gv67l {p x : Nat} (hR : Rel 1 nt np M r) (hV : Vs nt np r) (hp : p < np) (hk256 : x < 256) : ∀ (n k : Nat) (s : Int32), nt - k < n → k ≤ nt → s = sWth r p x k → mEv X (fun z D => z = some (.int (sWth r p x nt)) ∧ D = con M) 67 5 [some (.ref 1), some (.int (nI p)), some (.int (nI x)), some (.int s), some (.int (nI k))] [] (con M) := by
  have hm : mMet 67 = some _ := rfl
  intro n
  induction n with
  | zero =>
    intro k s hkn hkb hs
    omega
  | succ n ih =>
    intro k s hkn hkb hs
    have hn8 := hV.1
    have hp8 := hV.2.1
    refine x_iload hm rfl rfl ?_
    refine x_aload_n hm rfl rfl ?_
    refine x_getf hm rfl (gI rfl rfl) ?_
    rw [hR.1]
    refine x_icmp_ge hm rfl (t := 40) rfl (fun h1 => ?_) (fun h1 => ?_)
    · obtain rfl : k = nt := Nat.le_antisymm hkb ((jI_le (by omega) (by omega)).mp h1)
      refine x_iload_n hm rfl rfl ?_
      refine x_iret hm rfl rfl (by first | rfl | exact bI_nar | decide) ?_
      rw [hs]
      exact ⟨rfl, rfl⟩
    · have hk : k < nt := Nat.lt_of_not_le fun h => h1 (nI_le h (by omega))
      refine x_iload_n hm rfl rfl ?_
      refine x_iload hm rfl rfl ?_
      refine x_callS hm rfl rfl (g21 hk256 (by omega)) ?_
      refine x_if_eq hm rfl (t := 34) rfl (fun h2 => ?_) (fun h2 => ?_)
      · refine x_iinc hm rfl rfl (v := nI 1) (by decide) rfl ?_
        rw [jI_add]
        refine x_goto hm rfl (t := 5) rfl ?_
        first
          | exact ih _ _ (by omega) (by omega) (by rw [hs]; exact sWth_t (bI_ne0 (by assumption)))
          | exact ih _ _ (by omega) (by omega) (by rw [hs]; exact sWth_f (bI_eq0.mp (by assumption)))
      · refine x_iload_n hm rfl rfl ?_
        refine x_aload_n hm rfl rfl ?_
        refine x_iconst hm rfl (v := (-1 : Int32)) (by decide) ?_
        refine x_iload_n hm rfl rfl ?_
        refine x_iload hm rfl rfl ?_
        refine x_callV hm rfl rfl (e13 (by decide) hR hV hp hk (Or.inl rfl)) ?_
        rw [← sEnv_m (r := r) (p := p) (t := k) (by omega)]
        refine x_iadd hm rfl ?_
        refine x_istore_n hm rfl rfl ?_
        refine x_iinc hm rfl rfl (v := nI 1) (by decide) rfl ?_
        rw [jI_add]
        refine x_goto hm rfl (t := 5) rfl ?_
        first
          | exact ih _ _ (by omega) (by omega) (by rw [hs]; exact sWth_t (bI_ne0 (by assumption)))
          | exact ih _ _ (by omega) (by omega) (by rw [hs]; exact sWth_f (bI_eq0.mp (by assumption)))
theorem gv67 {p x : Nat} (hR : Rel 1 nt np M r) (hV : Vs nt np r) (hp : p < np) (hk256 : x < 256) : mT X 67 [.ref 1, .int (nI p), .int (nI x)] (con M) (some (.int (sWth r p x nt))) (con M) := by
  refine mT.of (row := _) rfl (Nat.le_of_ble_eq_true rfl) ?_
  have hm : mMet 67 = some _ := rfl
  refine x_iconst hm rfl (v := nI 0) (by decide) ?_
  refine x_istore_n hm rfl rfl ?_
  refine x_iconst hm rfl (v := nI 0) (by decide) ?_
  refine x_istore hm rfl rfl ?_
  exact gv67l hR hV hp hk256 _ 0 _ (Nat.lt_succ_self _) (Nat.zero_le _) rfl
theorem gv65 {a1 a2 : Int32} (hR : Rel 1 nt np M r) (hG : Gd nt np r) (hc : M 1 7 = -1) : ∃ v M', mT X 65 [.ref 0, .int a1, .int a2] (con M) (some (.int v)) (con M') ∧ v = fWorth r nt np a1 a2 := by
  refine ti_of (row := _) rfl (Nat.le_of_ble_eq_true rfl) ?_
  have hm : mMet 65 = some _ := rfl
  have hV := hG.2.2.1
  have hn8 := hV.1
  have hp8 := hV.2.1
  refine x_aload_n hm rfl rfl ?_
  refine x_getf hm rfl (gR rfl rfl) ?_
  refine x_iload_n hm rfl rfl ?_
  refine x_callV hm rfl rfl (t19 (by decide)) ?_
  rw [hR.2.1]
  refine x_if_eq hm rfl (t := 22) rfl (fun h1 => ?_) (fun h1 => ?_)
  · refine x_aload_n hm rfl rfl ?_
    refine x_ldcI hm rfl (v := (-1000001 : Int32)) (by decide +kernel) ?_
    refine x_cVi hm rfl rfl (t7 (by decide +kernel)) (fun v2 M2 r2 => ?_)
    refine x_iret hm rfl rfl (by first | rfl | exact bI_nar | decide) ?_
    first
      | (have hq : fWorth r nt np a1 a2 = -1000001 := by
           unfold fWorth
           rw [if_pos (by assumption)]
         exact ⟨_, _, rfl, rfl, r2.1.trans hq.symm⟩)
      | (have hq : fWorth r nt np (nI p) a2 = -1000001 := by
           unfold fWorth
           rw [if_neg (by assumption), if_pos (by assumption)]
         exact ⟨_, _, rfl, rfl, r2.1.trans hq.symm⟩)
  · obtain ⟨p, hp, rfl⟩ := in_k rfl (by omega) (bI_ne0 h1)
    refine x_aload_n hm rfl rfl ?_
    refine x_getf hm rfl (gR rfl rfl) ?_
    refine x_iload_n hm rfl rfl ?_
    refine x_callV hm rfl rfl (t66 (by decide) hR.1 hn8) ?_
    refine x_if_ne hm rfl (t := 29) rfl (fun h3 => ?_) (fun h3 => ?_)
    · obtain ⟨x, hx, rfl⟩ := set_k hn8 (bI_ne0 h3)
      refine x_aload_n hm rfl rfl ?_
      refine x_getf hm rfl (gR rfl rfl) ?_
      refine x_iload_n hm rfl rfl ?_
      refine x_iload_n hm rfl rfl ?_
      refine x_callV hm rfl rfl (gv67 hR hV hp (by have := pow_k hn8; omega)) ?_
      refine x_iret hm rfl rfl (by first | rfl | exact bI_nar | decide) ?_
      have hx256 := pow_k hn8
      have hq : fWorth r nt np (nI p) (nI x) = sWth r p x nt := by
        unfold fWorth
        rw [if_neg (by assumption), if_neg (by assumption)]
        rw [jI_nat (k := p) (by omega)]
        rw [jI_nat (k := x) (by omega)]
      exact ⟨_, _, rfl, rfl, (rfl).trans hq.symm⟩
    · refine x_aload_n hm rfl rfl ?_
      refine x_ldcI hm rfl (v := (-1000001 : Int32)) (by decide +kernel) ?_
      refine x_cVi hm rfl rfl (t7 (by decide +kernel)) (fun v4 M4 r4 => ?_)
      refine x_iret hm rfl rfl (by first | rfl | exact bI_nar | decide) ?_
      first
        | (have hq : fWorth r nt np a1 a2 = -1000001 := by
             unfold fWorth
             rw [if_pos (by assumption)]
           exact ⟨_, _, rfl, rfl, r4.1.trans hq.symm⟩)
        | (have hq : fWorth r nt np (nI p) a2 = -1000001 := by
             unfold fWorth
             rw [if_neg (by assumption), if_pos (by assumption)]
           exact ⟨_, _, rfl, rfl, r4.1.trans hq.symm⟩)
theorem gr200l {p x : Nat} (hW : Wf M) (h6 : M 66 6 = -1) (h67 : M 67 = r) (hV : Vs nt np r) (hnt : M 67 1 = nI nt) (hp : p < np) (hk256 : x < 256) : ∀ (n k : Nat) (s : Int32), nt - k < n → k ≤ nt → s = sWth r p x k → mEv X (fun z D => z = some (.int (sWth r p x nt)) ∧ D = con M) 200 5 [some (.ref 66), some (.int (nI p)), some (.int (nI x)), some (.int s), some (.int (nI k))] [] (con M) := by
  have hm : mMet 200 = some _ := rfl
  intro n
  induction n with
  | zero =>
    intro k s hkn hkb hs
    omega
  | succ n ih =>
    intro k s hkn hkb hs
    have hn8 := hV.1
    have hp8 := hV.2.1
    refine x_iload hm rfl rfl ?_
    refine x_aload_n hm rfl rfl ?_
    refine x_getf hm rfl (gR rfl rfl) ?_
    refine x_iconst hm rfl (v := nI 1) (by decide) ?_
    refine x_iald hm rfl (lI rfl (by omega) (by decide)) ?_
    rw [hnt]
    refine x_icmp_ge hm rfl (t := 46) rfl (fun h1 => ?_) (fun h1 => ?_)
    · obtain rfl : k = nt := Nat.le_antisymm hkb ((jI_le (by omega) (by omega)).mp h1)
      refine x_iload_n hm rfl rfl ?_
      refine x_iret hm rfl rfl (by first | rfl | exact bI_nar | decide) ?_
      rw [hs]
      exact ⟨rfl, rfl⟩
    · have hk : k < nt := Nat.lt_of_not_le fun h => h1 (nI_le h (by omega))
      refine x_iload_n hm rfl rfl ?_
      refine x_iload_n hm rfl rfl ?_
      refine x_iload hm rfl rfl ?_
      refine x_callS hm rfl rfl (g191 (by omega) (by omega)) ?_
      refine x_if_eq hm rfl (t := 37) rfl (fun h2 => ?_) (fun h2 => ?_)
      · refine x_iconst hm rfl (v := nI 0) (by decide) ?_
        refine x_iadd hm rfl ?_
        refine x_istore_n hm rfl rfl ?_
        refine x_iinc hm rfl rfl (v := nI 1) (by decide) rfl ?_
        rw [jI_add]
        refine x_goto hm rfl (t := 5) rfl ?_
        first
          | exact ih _ _ (by omega) (by omega) (by rw [hs]; exact sWth_t (bI_ne0 (by assumption)))
          | exact ih _ _ (by omega) (by omega) (by rw [hs]; exact sWth_z (bI_eq0.mp (by assumption)))
      · refine x_aload_n hm rfl rfl ?_
        refine x_iload_n hm rfl rfl ?_
        refine x_iload hm rfl rfl ?_
        refine x_iconst hm rfl (v := (-1 : Int32)) (by decide) ?_
        refine x_callV hm rfl rfl (e145 hW (by omega) (by omega) okM1) ?_
        rw [h67, h6]
        refine x_goto hm rfl (t := 38) rfl ?_
        refine x_iadd hm rfl ?_
        refine x_istore_n hm rfl rfl ?_
        refine x_iinc hm rfl rfl (v := nI 1) (by decide) rfl ?_
        rw [jI_add]
        refine x_goto hm rfl (t := 5) rfl ?_
        first
          | exact ih _ _ (by omega) (by omega) (by rw [hs]; exact sWth_t (bI_ne0 (by assumption)))
          | exact ih _ _ (by omega) (by omega) (by rw [hs]; exact sWth_z (bI_eq0.mp (by assumption)))
theorem gr200 {p x : Nat} (hW : Wf M) (h6 : M 66 6 = -1) (h67 : M 67 = r) (hV : Vs nt np r) (hnt : M 67 1 = nI nt) (hp : p < np) (hk256 : x < 256) : mT X 200 [.ref 66, .int (nI p), .int (nI x)] (con M) (some (.int (sWth r p x nt))) (con M) := by
  refine mT.of (row := _) rfl (Nat.le_of_ble_eq_true rfl) ?_
  have hm : mMet 200 = some _ := rfl
  refine x_iconst hm rfl (v := nI 0) (by decide) ?_
  refine x_istore_n hm rfl rfl ?_
  refine x_iconst hm rfl (v := nI 0) (by decide) ?_
  refine x_istore hm rfl rfl ?_
  exact gr200l hW h6 h67 hV hnt hp hk256 _ 0 _ (Nat.lt_succ_self _) (Nat.zero_le _) rfl
theorem gr198 {a1 a2 : Int32} (hI : Inv M) (h67 : M 67 = r) (hG : Gd nt np r) (h6 : M 66 6 = -1) : ∃ v M', mT X 198 [.ref 66, .int a1, .int a2] (con M) (some (.int v)) (con M') ∧ v = fWorth r nt np a1 a2 := by
  refine ti_of (row := _) rfl (Nat.le_of_ble_eq_true rfl) ?_
  have hm : mMet 198 = some _ := rfl
  have hV := hG.2.2.1
  have hn8 := hV.1
  have hp8 := hV.2.1
  have hW := hI.1
  have hnt : M 67 1 = nI nt := (congrFun h67 1).trans hG.1
  have hnp : M 67 2 = nI np := (congrFun h67 2).trans hG.2.1
  refine x_aload_n hm rfl rfl ?_
  refine x_iload_n hm rfl rfl ?_
  refine x_callV hm rfl rfl (t153) ?_
  rw [hnp]
  refine x_if_eq hm rfl (t := 25) rfl (fun h1 => ?_) (fun h1 => ?_)
  · refine x_aload_n hm rfl rfl ?_
    refine x_ldcI hm rfl (v := (-1000001 : Int32)) (by decide +kernel) ?_
    refine x_callV hm rfl rfl (e135 (by decide +kernel)) ?_
    refine x_iret hm rfl rfl (by first | rfl | exact bI_nar | decide) ?_
    first
      | (have hq : fWorth r nt np a1 a2 = -1000001 := by
           unfold fWorth
           rw [if_pos (by assumption)]
         exact ⟨_, _, rfl, rfl, hq.symm⟩)
      | (have hq : fWorth r nt np (nI p) a2 = -1000001 := by
           unfold fWorth
           rw [if_neg (by assumption), if_pos (by assumption)]
         exact ⟨_, _, rfl, rfl, hq.symm⟩)
      | (have hx256 := pow_k hn8
         have hq : fWorth r nt np (nI p) (nI x) = sWth r p x nt := by
           unfold fWorth
           rw [if_neg (by assumption), if_neg (by assumption)]
           rw [jI_nat (k := p) (by omega)]
           rw [jI_nat (k := x) (by omega)]
         exact ⟨_, _, rfl, rfl, (rfl).trans hq.symm⟩)
  · obtain ⟨p, hp, rfl⟩ := in_k rfl (by omega) (bI_ne0 h1)
    refine x_aload_n hm rfl rfl ?_
    refine x_iload_n hm rfl rfl ?_
    refine x_callV hm rfl rfl (t199 hnt hn8) ?_
    refine x_if_eq hm rfl (t := 25) rfl (fun h2 => ?_) (fun h2 => ?_)
    · refine x_aload_n hm rfl rfl ?_
      refine x_ldcI hm rfl (v := (-1000001 : Int32)) (by decide +kernel) ?_
      refine x_callV hm rfl rfl (e135 (by decide +kernel)) ?_
      refine x_iret hm rfl rfl (by first | rfl | exact bI_nar | decide) ?_
      first
        | (have hq : fWorth r nt np a1 a2 = -1000001 := by
             unfold fWorth
             rw [if_pos (by assumption)]
           exact ⟨_, _, rfl, rfl, hq.symm⟩)
        | (have hq : fWorth r nt np (nI p) a2 = -1000001 := by
             unfold fWorth
             rw [if_neg (by assumption), if_pos (by assumption)]
           exact ⟨_, _, rfl, rfl, hq.symm⟩)
        | (have hx256 := pow_k hn8
           have hq : fWorth r nt np (nI p) (nI x) = sWth r p x nt := by
             unfold fWorth
             rw [if_neg (by assumption), if_neg (by assumption)]
             rw [jI_nat (k := p) (by omega)]
             rw [jI_nat (k := x) (by omega)]
           exact ⟨_, _, rfl, rfl, (rfl).trans hq.symm⟩)
    · obtain ⟨x, hx, rfl⟩ := set_k hn8 (bI_ne0 h2)
      refine x_aload_n hm rfl rfl ?_
      refine x_iload_n hm rfl rfl ?_
      refine x_iload_n hm rfl rfl ?_
      refine x_callV hm rfl rfl (gr200 hW h6 h67 hV hnt hp (by have := pow_k hn8; omega)) ?_
      refine x_goto hm rfl (t := 31) rfl ?_
      refine x_iret hm rfl rfl (by first | rfl | exact bI_nar | decide) ?_
      first
        | (have hq : fWorth r nt np a1 a2 = -1000001 := by
             unfold fWorth
             rw [if_pos (by assumption)]
           exact ⟨_, _, rfl, rfl, hq.symm⟩)
        | (have hq : fWorth r nt np (nI p) a2 = -1000001 := by
             unfold fWorth
             rw [if_neg (by assumption), if_pos (by assumption)]
           exact ⟨_, _, rfl, rfl, hq.symm⟩)
        | (have hx256 := pow_k hn8
           have hq : fWorth r nt np (nI p) (nI x) = sWth r p x nt := by
             unfold fWorth
             rw [if_neg (by assumption), if_neg (by assumption)]
             rw [jI_nat (k := p) (by omega)]
             rw [jI_nat (k := x) (by omega)]
           exact ⟨_, _, rfl, rfl, (rfl).trans hq.symm⟩)
theorem gv115 {a1 a2 : Int32} (hR : Rel 1 nt np M r) (hG : Gd nt np r) (hc : M 1 7 = -1) : ∃ v M', mT X 115 [.ref 0, .int a1, .int a2] (con M) (some (.int v)) (con M') ∧ v = fAs r nt np a1 a2 := by
  refine ti_of (row := _) rfl (Nat.le_of_ble_eq_true rfl) ?_
  have hm : mMet 115 = some _ := rfl
  have hV := hG.2.2.1
  have hn8 := hV.1
  have hp8 := hV.2.1
  refine x_iload_n hm rfl rfl ?_
  refine x_iconst hm rfl (v := nI 0) (by decide) ?_
  refine x_bipush hm rfl (v := nI 9) (by decide) ?_
  refine x_callS hm rfl rfl (t6) ?_
  refine x_if_eq hm rfl (t := 20) rfl (fun h1 => ?_) (fun h1 => ?_)
  · refine x_aload_n hm rfl rfl ?_
    refine x_ldcI hm rfl (v := (-1000001 : Int32)) (by decide +kernel) ?_
    refine x_cVi hm rfl rfl (t7 (by decide +kernel)) (fun v2 M2 r2 => ?_)
    refine x_iret hm rfl rfl (by first | rfl | exact bI_nar | decide) ?_
    first
      | (have hq : fAs r nt np a1 a2 = -1000001 := by
           unfold fAs
           rw [if_pos (by assumption)]
         exact ⟨_, _, rfl, rfl, r2.1.trans hq.symm⟩)
      | (have hq : fAs r nt np (nI s) a2 = -1000001 := by
           unfold fAs
           rw [if_neg (by assumption), if_pos (by assumption)]
         exact ⟨_, _, rfl, rfl, r2.1.trans hq.symm⟩)
  · obtain ⟨s, hs, rfl⟩ := le_k (by omega) (bI_ne0 h1)
    refine x_iload_n hm rfl rfl ?_
    refine x_iconst hm rfl (v := nI 0) (by decide) ?_
    refine x_bipush hm rfl (v := nI 6) (by decide) ?_
    refine x_callS hm rfl rfl (t6) ?_
    refine x_if_ne hm rfl (t := 27) rfl (fun h3 => ?_) (fun h3 => ?_)
    · refine x_aload_n hm rfl rfl ?_
      refine x_getf hm rfl (gR rfl rfl) ?_
      refine x_getf hm rfl (gR rfl rfl) ?_
      refine x_iload_n hm rfl rfl ?_
      refine x_iald hm rfl (lI rfl (by omega) (by decide)) ?_
      rw [show M 17 s = _ from hR.2.2.2.2.1 s (by omega)]
      refine x_istore_n hm rfl rfl ?_
      refine x_iload_n hm rfl rfl ?_
      refine x_iconst hm rfl (v := (-1 : Int32)) (by decide) ?_
      refine x_icmp_ne hm rfl (t := 49) rfl (fun h4 => ?_) (fun h4 => ?_)
      · have ny := h4
        obtain ⟨p, hp, ep⟩ := (hG.2.2.2.2.1 s (by omega)).resolve_left ny
        rw [ep]
        obtain ⟨kd, hkd, ekd⟩ := hV.kind hp
        refine x_aload_n hm rfl rfl ?_
        refine x_getf hm rfl (gR rfl rfl) ?_
        refine x_getf hm rfl (gR rfl rfl) ?_
        refine x_iconst hm rfl (v := nI 0) (by decide) ?_
        refine x_aald hm rfl (lQ _ (by decide) rfl rfl (by omega) (by decide)) ?_
        refine x_iload_n hm rfl rfl ?_
        refine x_iald hm rfl (lI rfl (by omega) (by decide)) ?_
        rw [show M 10 p = _ from hR.kind hp, ekd]
        refine x_iload_n hm rfl rfl ?_
        refine x_callS hm rfl rfl (e14 (by assumption)) ?_
        rw [← ekd]
        refine x_if_eq hm rfl (t := 71) rfl (fun h5 => ?_) (fun h5 => ?_)
        · have nu := bI_eq0.mp h5
          refine x_aload_n hm rfl rfl ?_
          refine x_ldcI hm rfl (v := (-1000003 : Int32)) (by decide +kernel) ?_
          refine x_cVi hm rfl rfl (t7 (by decide +kernel)) (fun v6 M6 r6 => ?_)
          refine x_iret hm rfl rfl (by first | rfl | exact bI_nar | decide) ?_
          first
            | (have hq : fAs r nt np (nI s) a2 = -1000003 := by
                 unfold fAs
                 rw [if_neg (by assumption), if_neg (by assumption)]
                 rw [jI_nat (k := s) (by omega)]
                 rw [if_neg ny, ep, jI_nat (k := p) (by omega), if_neg nu]
               exact ⟨_, _, rfl, rfl, r6.1.trans hq.symm⟩)
            | (have hq : fAs r nt np (nI s) a2 = nI p := by
                 unfold fAs
                 rw [if_neg (by assumption), if_neg (by assumption)]
                 rw [jI_nat (k := s) (by omega)]
                 rw [if_neg ny, ep, jI_nat (k := p) (by omega), if_pos yu]
               exact ⟨_, _, rfl, rfl, hq.symm⟩)
        · have yu := bI_ne0 h5
          refine x_iload_n hm rfl rfl ?_
          refine x_goto hm rfl (t := 77) rfl ?_
          refine x_iret hm rfl rfl (by first | rfl | exact bI_nar | decide) ?_
          first
            | (have hq : fAs r nt np (nI s) a2 = nI p := by
                 unfold fAs
                 rw [if_neg (by assumption), if_neg (by assumption)]
                 rw [jI_nat (k := s) (by omega)]
                 rw [if_neg ny, ep, jI_nat (k := p) (by omega), if_pos yu]
               exact ⟨_, _, rfl, rfl, hq.symm⟩)
            | (have hq : fAs r nt np (nI s) a2 = -1000003 := by
                 unfold fAs
                 rw [if_neg (by assumption), if_neg (by assumption)]
                 rw [jI_nat (k := s) (by omega)]
                 rw [if_neg ny, ep, jI_nat (k := p) (by omega), if_neg nu]
               exact ⟨_, _, rfl, rfl, r0.1.trans hq.symm⟩)
      · have ym := h4
        refine x_aload_n hm rfl rfl ?_
        refine x_ldcI hm rfl (v := (-1000006 : Int32)) (by decide +kernel) ?_
        refine x_cVi hm rfl rfl (t7 (by decide +kernel)) (fun v7 M7 r7 => ?_)
        refine x_iret hm rfl rfl (by first | rfl | exact bI_nar | decide) ?_
        have hq : fAs r nt np (nI s) a2 = -1000006 := by
          unfold fAs
          rw [if_neg (by assumption), if_neg (by assumption)]
          rw [jI_nat (k := s) (by omega)]
          rw [if_pos ym]
        exact ⟨_, _, rfl, rfl, r7.1.trans hq.symm⟩
    · refine x_aload_n hm rfl rfl ?_
      refine x_ldcI hm rfl (v := (-1000001 : Int32)) (by decide +kernel) ?_
      refine x_cVi hm rfl rfl (t7 (by decide +kernel)) (fun v8 M8 r8 => ?_)
      refine x_iret hm rfl rfl (by first | rfl | exact bI_nar | decide) ?_
      first
        | (have hq : fAs r nt np a1 a2 = -1000001 := by
             unfold fAs
             rw [if_pos (by assumption)]
           exact ⟨_, _, rfl, rfl, r8.1.trans hq.symm⟩)
        | (have hq : fAs r nt np (nI s) a2 = -1000001 := by
             unfold fAs
             rw [if_neg (by assumption), if_pos (by assumption)]
           exact ⟨_, _, rfl, rfl, r8.1.trans hq.symm⟩)
theorem gr233 {a1 a2 : Int32} (hI : Inv M) (h67 : M 67 = r) (hG : Gd nt np r) (h6 : M 66 6 = -1) : ∃ v M', mT X 233 [.ref 66, .int a1, .int a2] (con M) (some (.int v)) (con M') ∧ v = fAs r nt np a1 a2 := by
  refine ti_of (row := _) rfl (Nat.le_of_ble_eq_true rfl) ?_
  have hm : mMet 233 = some _ := rfl
  have hV := hG.2.2.1
  have hn8 := hV.1
  have hp8 := hV.2.1
  have hW := hI.1
  have hnt : M 67 1 = nI nt := (congrFun h67 1).trans hG.1
  have hnp : M 67 2 = nI np := (congrFun h67 2).trans hG.2.1
  refine x_iload_n hm rfl rfl ?_
  refine x_callS hm rfl rfl (t232) ?_
  refine x_if_eq hm rfl (t := 14) rfl (fun h1 => ?_) (fun h1 => ?_)
  · refine x_aload_n hm rfl rfl ?_
    refine x_ldcI hm rfl (v := (-1000001 : Int32)) (by decide +kernel) ?_
    refine x_callV hm rfl rfl (e135 (by decide +kernel)) ?_
    refine x_iret hm rfl rfl (by first | rfl | exact bI_nar | decide) ?_
    first
      | (have hq : fAs r nt np a1 a2 = -1000001 := by
           unfold fAs
           rw [if_pos (by assumption)]
         exact ⟨_, _, rfl, rfl, hq.symm⟩)
      | (have hq : fAs r nt np (nI s) a2 = -1000001 := by
           unfold fAs
           rw [if_neg (by assumption), if_pos (by assumption)]
         exact ⟨_, _, rfl, rfl, hq.symm⟩)
  · obtain ⟨s, hs, rfl⟩ := le_k (by omega) (bI_ne0 h1)
    refine x_iload_n hm rfl rfl ?_
    refine x_callS hm rfl rfl (t157) ?_
    refine x_if_ne hm rfl (t := 21) rfl (fun h2 => ?_) (fun h2 => ?_)
    · refine x_aload_n hm rfl rfl ?_
      refine x_getf hm rfl (gR rfl rfl) ?_
      refine x_iconst hm rfl (v := nI 4) (by decide) ?_
      refine x_iload_n hm rfl rfl ?_
      refine x_iadd hm rfl ?_
      rw [jI_add]
      refine x_iald hm rfl (lI rfl (by omega) (by decide)) ?_
      rw [h67]
      refine x_istore_n hm rfl rfl ?_
      refine x_iload_n hm rfl rfl ?_
      refine x_if_ge hm rfl (t := 41) rfl (fun h3 => ?_) (fun h3 => ?_)
      · have ny : ¬ r (4 + s) = -1 := fun e => absurd h3 (by rw [e]; decide)
        obtain ⟨p, hp, ep⟩ := (hG.2.2.2.2.1 s (by omega)).resolve_left ny
        rw [ep]
        obtain ⟨kd, hkd, ekd⟩ := hV.kind hp
        refine x_aload_n hm rfl rfl ?_
        refine x_iload_n hm rfl rfl ?_
        refine x_iconst hm rfl (v := nI 0) (by decide) ?_
        refine x_callV hm rfl rfl (t141 (by omega) (by omega)) ?_
        rw [h67]
        refine x_iload_n hm rfl rfl ?_
        refine x_callS hm rfl rfl (e147) ?_
        refine x_if_eq hm rfl (t := 58) rfl (fun h4 => ?_) (fun h4 => ?_)
        · have nu := bI_eq0.mp h4
          refine x_aload_n hm rfl rfl ?_
          refine x_ldc_wI hm rfl (v := (-1000003 : Int32)) (by decide) ?_
          refine x_callV hm rfl rfl (e135 (by decide +kernel)) ?_
          refine x_iret hm rfl rfl (by first | rfl | exact bI_nar | decide) ?_
          first
            | (have hq : fAs r nt np (nI s) a2 = nI p := by
                 unfold fAs
                 rw [if_neg (by assumption), if_neg (by assumption)]
                 rw [jI_nat (k := s) (by omega)]
                 rw [if_neg ny, ep, jI_nat (k := p) (by omega), if_pos yu]
               exact ⟨_, _, rfl, rfl, hq.symm⟩)
            | (have hq : fAs r nt np (nI s) a2 = -1000003 := by
                 unfold fAs
                 rw [if_neg (by assumption), if_neg (by assumption)]
                 rw [jI_nat (k := s) (by omega)]
                 rw [if_neg ny, ep, jI_nat (k := p) (by omega), if_neg nu]
               exact ⟨_, _, rfl, rfl, hq.symm⟩)
        · have yu := bI_ne0 h4
          refine x_iload_n hm rfl rfl ?_
          refine x_goto hm rfl (t := 65) rfl ?_
          refine x_iret hm rfl rfl (by first | rfl | exact bI_nar | decide) ?_
          first
            | (have hq : fAs r nt np (nI s) a2 = nI p := by
                 unfold fAs
                 rw [if_neg (by assumption), if_neg (by assumption)]
                 rw [jI_nat (k := s) (by omega)]
                 rw [if_neg ny, ep, jI_nat (k := p) (by omega), if_pos yu]
               exact ⟨_, _, rfl, rfl, hq.symm⟩)
            | (have hq : fAs r nt np (nI s) a2 = -1000003 := by
                 unfold fAs
                 rw [if_neg (by assumption), if_neg (by assumption)]
                 rw [jI_nat (k := s) (by omega)]
                 rw [if_neg ny, ep, jI_nat (k := p) (by omega), if_neg nu]
               exact ⟨_, _, rfl, rfl, hq.symm⟩)
      · have ym : r (4 + s) = -1 := (hG.2.2.2.2.1 s (by omega)).resolve_right fun ⟨p, hp, e⟩ => h3 (by rw [e]; exact Int32.not_lt.mp (jI_nn (by omega)))
        refine x_aload_n hm rfl rfl ?_
        refine x_ldcI hm rfl (v := (-1000006 : Int32)) (by decide +kernel) ?_
        refine x_callV hm rfl rfl (e135 (by decide +kernel)) ?_
        refine x_iret hm rfl rfl (by first | rfl | exact bI_nar | decide) ?_
        have hq : fAs r nt np (nI s) a2 = -1000006 := by
          unfold fAs
          rw [if_neg (by assumption), if_neg (by assumption)]
          rw [jI_nat (k := s) (by omega)]
          rw [if_pos ym]
        exact ⟨_, _, rfl, rfl, hq.symm⟩
    · refine x_aload_n hm rfl rfl ?_
      refine x_ldcI hm rfl (v := (-1000001 : Int32)) (by decide +kernel) ?_
      refine x_callV hm rfl rfl (e135 (by decide +kernel)) ?_
      refine x_iret hm rfl rfl (by first | rfl | exact bI_nar | decide) ?_
      first
        | (have hq : fAs r nt np a1 a2 = -1000001 := by
             unfold fAs
             rw [if_pos (by assumption)]
           exact ⟨_, _, rfl, rfl, hq.symm⟩)
        | (have hq : fAs r nt np (nI s) a2 = -1000001 := by
             unfold fAs
             rw [if_neg (by assumption), if_pos (by assumption)]
           exact ⟨_, _, rfl, rfl, hq.symm⟩)
theorem gv129l (hR : Rel 1 nt np M r) (hV : Vs nt np r) : ∀ (n k : Nat) (s : Int32), 10 - k < n → k ≤ 10 → s = sHs r k → mEv X (fun z D => z = some (.int (sHs r 10)) ∧ D = con M) 129 4 [some (.ref 1), some (.int s), some (.int (nI k))] [] (con M) := by
  have hm : mMet 129 = some _ := rfl
  intro n
  induction n with
  | zero =>
    intro k s hkn hkb hs
    omega
  | succ n ih =>
    intro k s hkn hkb hs
    refine x_iload_n hm rfl rfl ?_
    refine x_bipush hm rfl (v := nI 10) (by decide) ?_
    refine x_icmp_ge hm rfl (t := 29) rfl (fun h1 => ?_) (fun h1 => ?_)
    · have hkE : k = 10 := Nat.le_antisymm hkb ((jI_le (by omega) (by omega)).mp h1)
      subst hkE
      refine x_iload_n hm rfl rfl ?_
      refine x_iret hm rfl rfl (by first | rfl | exact bI_nar | decide) ?_
      rw [hs]
      exact ⟨rfl, rfl⟩
    · have hk : k < 10 := Nat.lt_of_not_le fun h => h1 (nI_le h (by omega))
      refine x_aload_n hm rfl rfl ?_
      refine x_getf hm rfl (gR rfl rfl) ?_
      refine x_iload_n hm rfl rfl ?_
      refine x_iald hm rfl (lI rfl (by omega) (by decide)) ?_
      rw [show M 17 k = _ from hR.2.2.2.2.1 k hk]
      refine x_iconst hm rfl (v := (-1 : Int32)) (by decide) ?_
      refine x_icmp_eq hm rfl (t := 23) rfl (fun h2 => ?_) (fun h2 => ?_)
      · refine x_iinc hm rfl rfl (v := nI 1) (by decide) rfl ?_
        rw [jI_add]
        refine x_goto hm rfl (t := 4) rfl ?_
        first
          | exact ih _ _ (by omega) (by omega) (by rw [hs]; exact sHs_1 (by assumption))
          | exact ih _ _ (by omega) (by omega) (by rw [hs]; exact sHs_s (by assumption))
      · refine x_iinc hm rfl rfl (v := nI 1) (by decide) rfl ?_
        refine x_iinc hm rfl rfl (v := nI 1) (by decide) rfl ?_
        rw [jI_add]
        refine x_goto hm rfl (t := 4) rfl ?_
        first
          | exact ih _ _ (by omega) (by omega) (by rw [hs]; exact sHs_1 (by assumption))
          | exact ih _ _ (by omega) (by omega) (by rw [hs]; exact sHs_s (by assumption))
theorem gv129 (hR : Rel 1 nt np M r) (hV : Vs nt np r) : mT X 129 [.ref 1] (con M) (some (.int (sHs r 10))) (con M) := by
  refine mT.of (row := _) rfl (Nat.le_of_ble_eq_true rfl) ?_
  have hm : mMet 129 = some _ := rfl
  refine x_iconst hm rfl (v := nI 0) (by decide) ?_
  refine x_istore_n hm rfl rfl ?_
  refine x_iconst hm rfl (v := nI 0) (by decide) ?_
  refine x_istore_n hm rfl rfl ?_
  exact gv129l hR hV _ 0 _ (Nat.lt_succ_self _) (Nat.zero_le _) rfl
theorem ts_n {a : Int32} {k : Nat} (h : a.toInt < 0 ∨ 7 < a.toInt) (hk : k ≤ 7) : ¬ a = nI k := by
  intro e
  rw [e, jI_int (by omega)] at h
  omega
theorem gv128 {a1 c : Int32} (hR : Rel 1 nt np M r) (hG : Gd nt np r) (hc : M 1 7 = -1) (hct : M 52 1 = c) : ∃ v M', mT X 128 [.ref 0, .int a1] (con M) (some (.int v)) (con M') ∧ v = fCount c r nt np a1 := by
  refine ti_of (row := _) rfl (Nat.le_of_ble_eq_true rfl) ?_
  have hm : mMet 128 = some _ := rfl
  have hV := hG.2.2.1
  have hn8 := hV.1
  have hp8 := hV.2.1
  refine x_iload_n hm rfl rfl ?_
  refine x_ts hm rfl (fun h1 => ⟨115, rfl, ?_⟩) (fun i1 h1 g1 => ?_)
  · refine x_aload_n hm rfl rfl ?_
    refine x_ldcI hm rfl (v := (-1000001 : Int32)) (by decide +kernel) ?_
    refine x_cVi hm rfl rfl (t7 (by decide +kernel)) (fun v2 M2 r2 => ?_)
    refine x_iret hm rfl rfl (by first | rfl | exact bI_nar | decide) ?_
    have hq : fCount c r nt np a1 = -1000001 := by
      unfold fCount
      rw [if_neg (ts_n h1 (k := 0) (by decide)), if_neg (ts_n h1 (k := 1) (by decide)), if_neg (ts_n h1 (k := 2) (by decide)), if_neg (ts_n h1 (k := 3) (by decide)), if_neg (ts_n h1 (k := 4) (by decide)), if_neg (ts_n h1 (k := 5) (by decide)), if_neg (ts_n h1 (k := 6) (by decide)), if_neg (ts_n h1 (k := 7) (by decide))]
    exact ⟨_, _, rfl, rfl, r2.1.trans hq.symm⟩
  · have k1 : i1 = 0 ∨ i1 = 1 ∨ i1 = 2 ∨ i1 = 3 ∨ i1 = 4 ∨ i1 = 5 ∨ i1 = 6 ∨ i1 = 7 := by omega
    rcases k1 with rfl | rfl | rfl | rfl | rfl | rfl | rfl | rfl
    · refine ⟨_, 48, rfl, rfl, ?_⟩
      refine x_aload_n hm rfl rfl ?_
      refine x_getf hm rfl (gR rfl rfl) ?_
      refine x_getf hm rfl (gI rfl rfl) ?_
      refine x_iret hm rfl rfl (by first | rfl | exact bI_nar | decide) ?_
      have e1 := tn h1 (by decide)
      have hq : fCount c r nt np a1 = r 0 := by
        unfold fCount
        rw [e1, if_pos rfl]
      exact ⟨_, _, rfl, rfl, (hR.2.2.1).trans hq.symm⟩
    · refine ⟨_, 56, rfl, rfl, ?_⟩
      refine x_aload_n hm rfl rfl ?_
      refine x_getf hm rfl (gR rfl rfl) ?_
      refine x_getf hm rfl (gI rfl rfl) ?_
      refine x_iret hm rfl rfl (by first | rfl | exact bI_nar | decide) ?_
      have e1 := tn h1 (by decide)
      have hq : fCount c r nt np a1 = nI nt := by
        unfold fCount
        rw [e1, if_neg (by decide), if_pos rfl]
      exact ⟨_, _, rfl, rfl, (hR.1).trans hq.symm⟩
    · refine ⟨_, 64, rfl, rfl, ?_⟩
      refine x_aload_n hm rfl rfl ?_
      refine x_getf hm rfl (gR rfl rfl) ?_
      refine x_getf hm rfl (gI rfl rfl) ?_
      refine x_iret hm rfl rfl (by first | rfl | exact bI_nar | decide) ?_
      have e1 := tn h1 (by decide)
      have hq : fCount c r nt np a1 = nI np := by
        unfold fCount
        rw [e1, if_neg (by decide), if_neg (by decide), if_pos rfl]
      exact ⟨_, _, rfl, rfl, (hR.2.1).trans hq.symm⟩
    · refine ⟨_, 72, rfl, rfl, ?_⟩
      refine x_aload_n hm rfl rfl ?_
      refine x_getf hm rfl (gR rfl rfl) ?_
      refine x_callV hm rfl rfl (e35 (by decide) hR hV) ?_
      obtain ⟨g, hg, eg⟩ := sGone_k r nt hn8
      have hg2 : g < 256 := Nat.lt_of_lt_of_le hg (Nat.pow_le_pow_right (by decide) hn8)
      rw [eg]
      refine x_callS hm rfl rfl (g36 hg2) ?_
      refine x_iret hm rfl rfl (by first | rfl | exact bI_nar | decide) ?_
      have e1 := tn h1 (by decide)
      have hq : fCount c r nt np a1 = sBits 256 (nI 0) (sGone r nt) := by
        unfold fCount
        rw [e1, if_neg (by decide), if_neg (by decide), if_neg (by decide), if_pos rfl]
      exact ⟨_, _, rfl, rfl, (congrArg (sBits 256 (nI 0)) eg.symm).trans hq.symm⟩
    · refine ⟨_, 83, rfl, rfl, ?_⟩
      refine x_aload_n hm rfl rfl ?_
      refine x_getf hm rfl (gR rfl rfl) ?_
      refine x_callV hm rfl rfl (e38 (by decide) hR hV) ?_
      refine x_iret hm rfl rfl (by first | rfl | exact bI_nar | decide) ?_
      have e1 := tn h1 (by decide)
      have hq : fCount c r nt np a1 = sThick r nt := by
        unfold fCount
        rw [e1, if_neg (by decide), if_neg (by decide), if_neg (by decide), if_neg (by decide), if_pos rfl]
      exact ⟨_, _, rfl, rfl, (rfl).trans hq.symm⟩
    · refine ⟨_, 91, rfl, rfl, ?_⟩
      refine x_aload_n hm rfl rfl ?_
      refine x_getf hm rfl (gR rfl rfl) ?_
      refine x_getf hm rfl (gI rfl rfl) ?_
      refine x_iret hm rfl rfl (by first | rfl | exact bI_nar | decide) ?_
      have e1 := tn h1 (by decide)
      have hq : fCount c r nt np a1 = c := by
        unfold fCount
        rw [e1, if_neg (by decide), if_neg (by decide), if_neg (by decide), if_neg (by decide), if_neg (by decide), if_pos rfl]
      exact ⟨_, _, rfl, rfl, (hct).trans hq.symm⟩
    · refine ⟨_, 99, rfl, rfl, ?_⟩
      refine x_aload_n hm rfl rfl ?_
      refine x_getf hm rfl (gR rfl rfl) ?_
      refine x_getf hm rfl (gI rfl rfl) ?_
      refine x_iret hm rfl rfl (by first | rfl | exact bI_nar | decide) ?_
      have e1 := tn h1 (by decide)
      have hq : fCount c r nt np a1 = r 3 := by
        unfold fCount
        rw [e1, if_neg (by decide), if_neg (by decide), if_neg (by decide), if_neg (by decide), if_neg (by decide), if_neg (by decide), if_pos rfl]
      exact ⟨_, _, rfl, rfl, (hR.2.2.2.1).trans hq.symm⟩
    · refine ⟨_, 107, rfl, rfl, ?_⟩
      refine x_aload_n hm rfl rfl ?_
      refine x_getf hm rfl (gR rfl rfl) ?_
      refine x_callV hm rfl rfl (gv129 hR hV) ?_
      refine x_iret hm rfl rfl (by first | rfl | exact bI_nar | decide) ?_
      have e1 := tn h1 (by decide)
      have hq : fCount c r nt np a1 = sHs r 10 := by
        unfold fCount
        rw [e1, if_neg (by decide), if_neg (by decide), if_neg (by decide), if_neg (by decide), if_neg (by decide), if_neg (by decide), if_neg (by decide), if_pos rfl]
      exact ⟨_, _, rfl, rfl, (rfl).trans hq.symm⟩
theorem gr243l {a1 : Int32} (h67 : M 67 = r) (hG : Gd nt np r) : ∀ (n k : Nat) (s : Int32), 10 - k < n → k ≤ 10 → s = sHs r k → mEv X (fun z D => z = some (.int (sHs r 10)) ∧ D = con M) 243 96 [some (.ref 66), some (.int a1), some (.int s), some (.int (nI k))] [] (con M) := by
  have hm : mMet 243 = some _ := rfl
  intro n
  induction n with
  | zero =>
    intro k s hkn hkb hs
    omega
  | succ n ih =>
    intro k s hkn hkb hs
    refine x_iload_n hm rfl rfl ?_
    refine x_bipush hm rfl (v := nI 10) (by decide) ?_
    refine x_icmp_ge hm rfl (t := 127) rfl (fun h1 => ?_) (fun h1 => ?_)
    · have hkE : k = 10 := Nat.le_antisymm hkb ((jI_le (by omega) (by omega)).mp h1)
      subst hkE
      refine x_iload_n hm rfl rfl ?_
      refine x_iret hm rfl rfl (by first | rfl | exact bI_nar | decide) ?_
      rw [hs]
      exact ⟨rfl, rfl⟩
    · have hk : k < 10 := Nat.lt_of_not_le fun h => h1 (nI_le h (by omega))
      refine x_iload_n hm rfl rfl ?_
      refine x_aload_n hm rfl rfl ?_
      refine x_getf hm rfl (gR rfl rfl) ?_
      refine x_iconst hm rfl (v := nI 4) (by decide) ?_
      refine x_iload_n hm rfl rfl ?_
      refine x_iadd hm rfl ?_
      rw [jI_add]
      refine x_iald hm rfl (lI rfl (by omega) (by decide)) ?_
      rw [h67]
      refine x_if_ge hm rfl (t := 118) rfl (fun h2 => ?_) (fun h2 => ?_)
      · have h5 : ¬ r (4 + k) = -1 := fun e => absurd h2 (by rw [e]; decide)
        refine x_iconst hm rfl (v := nI 1) (by decide) ?_
        refine x_iadd hm rfl ?_
        refine x_istore_n hm rfl rfl ?_
        refine x_iinc hm rfl rfl (v := nI 1) (by decide) rfl ?_
        rw [jI_add]
        refine x_goto hm rfl (t := 96) rfl ?_
        first
          | exact ih _ _ (by omega) (by omega) (by rw [hs]; exact sHs_1 h5)
          | exact ih _ _ (by omega) (by omega) (by rw [hs]; exact sHs_0 h5)
      · have h5 : r (4 + k) = -1 := (hG.2.2.2.2.1 k hk).resolve_right fun ⟨w, hw, e⟩ => h2 (by rw [e]; exact Int32.not_lt.mp (jI_nn (by have := hG.2.2.1.2.1; omega)))
        refine x_iconst hm rfl (v := nI 0) (by decide) ?_
        refine x_goto hm rfl (t := 119) rfl ?_
        refine x_iadd hm rfl ?_
        refine x_istore_n hm rfl rfl ?_
        refine x_iinc hm rfl rfl (v := nI 1) (by decide) rfl ?_
        rw [jI_add]
        refine x_goto hm rfl (t := 96) rfl ?_
        first
          | exact ih _ _ (by omega) (by omega) (by rw [hs]; exact sHs_1 h5)
          | exact ih _ _ (by omega) (by omega) (by rw [hs]; exact sHs_0 h5)
theorem gr243 {a1 c : Int32} (hI : Inv M) (h67 : M 67 = r) (hG : Gd nt np r) (h6 : M 66 6 = -1) (hct : M 66 9 = c) : ∃ v M', mT X 243 [.ref 66, .int a1] (con M) (some (.int v)) (con M') ∧ v = fCount c r nt np a1 := by
  refine ti_of (row := _) rfl (Nat.le_of_ble_eq_true rfl) ?_
  have hm : mMet 243 = some _ := rfl
  have hV := hG.2.2.1
  have hn8 := hV.1
  have hp8 := hV.2.1
  have hW := hI.1
  have hnt : M 67 1 = nI nt := (congrFun h67 1).trans hG.1
  have hnp : M 67 2 = nI np := (congrFun h67 2).trans hG.2.1
  refine x_iconst hm rfl (v := nI 0) (by decide) ?_
  refine x_istore_n hm rfl rfl ?_
  refine x_iload_n hm rfl rfl ?_
  refine x_ts hm rfl (fun h1 => ⟨129, rfl, ?_⟩) (fun i1 h1 g1 => ?_)
  · refine x_aload_n hm rfl rfl ?_
    refine x_ldcI hm rfl (v := (-1000001 : Int32)) (by decide +kernel) ?_
    refine x_callV hm rfl rfl (e135 (by decide +kernel)) ?_
    refine x_iret hm rfl rfl (by first | rfl | exact bI_nar | decide) ?_
    have hq : fCount c r nt np a1 = -1000001 := by
      unfold fCount
      rw [if_neg (ts_n h1 (k := 0) (by decide)), if_neg (ts_n h1 (k := 1) (by decide)), if_neg (ts_n h1 (k := 2) (by decide)), if_neg (ts_n h1 (k := 3) (by decide)), if_neg (ts_n h1 (k := 4) (by decide)), if_neg (ts_n h1 (k := 5) (by decide)), if_neg (ts_n h1 (k := 6) (by decide)), if_neg (ts_n h1 (k := 7) (by decide))]
    exact ⟨_, _, rfl, rfl, hq.symm⟩
  · have k1 : i1 = 0 ∨ i1 = 1 ∨ i1 = 2 ∨ i1 = 3 ∨ i1 = 4 ∨ i1 = 5 ∨ i1 = 6 ∨ i1 = 7 := by omega
    rcases k1 with rfl | rfl | rfl | rfl | rfl | rfl | rfl | rfl
    · refine ⟨_, 48, rfl, rfl, ?_⟩
      refine x_aload_n hm rfl rfl ?_
      refine x_getf hm rfl (gR rfl rfl) ?_
      refine x_iconst hm rfl (v := nI 0) (by decide) ?_
      refine x_iald hm rfl (lI rfl (by omega) (by decide)) ?_
      refine x_iret hm rfl rfl (by first | rfl | exact bI_nar | decide) ?_
      have e1 := tn h1 (by decide)
      have hq : fCount c r nt np a1 = r 0 := by
        unfold fCount
        rw [e1, if_pos rfl]
      exact ⟨_, _, rfl, rfl, (congrFun h67 0).trans hq.symm⟩
    · refine ⟨_, 55, rfl, rfl, ?_⟩
      refine x_aload_n hm rfl rfl ?_
      refine x_getf hm rfl (gR rfl rfl) ?_
      refine x_iconst hm rfl (v := nI 1) (by decide) ?_
      refine x_iald hm rfl (lI rfl (by omega) (by decide)) ?_
      refine x_iret hm rfl rfl (by first | rfl | exact bI_nar | decide) ?_
      have e1 := tn h1 (by decide)
      have hq : fCount c r nt np a1 = nI nt := by
        unfold fCount
        rw [e1, if_neg (by decide), if_pos rfl]
      exact ⟨_, _, rfl, rfl, (hnt).trans hq.symm⟩
    · refine ⟨_, 62, rfl, rfl, ?_⟩
      refine x_aload_n hm rfl rfl ?_
      refine x_getf hm rfl (gR rfl rfl) ?_
      refine x_iconst hm rfl (v := nI 2) (by decide) ?_
      refine x_iald hm rfl (lI rfl (by omega) (by decide)) ?_
      refine x_iret hm rfl rfl (by first | rfl | exact bI_nar | decide) ?_
      have e1 := tn h1 (by decide)
      have hq : fCount c r nt np a1 = nI np := by
        unfold fCount
        rw [e1, if_neg (by decide), if_neg (by decide), if_pos rfl]
      exact ⟨_, _, rfl, rfl, (hnp).trans hq.symm⟩
    · refine ⟨_, 69, rfl, rfl, ?_⟩
      refine x_aload_n hm rfl rfl ?_
      refine x_callV hm rfl rfl (e167 hnt hn8) ?_
      rw [h67]
      obtain ⟨g, hg, eg⟩ := sGone_k r nt hn8
      have hg2 : g < 256 := Nat.lt_of_lt_of_le hg (Nat.pow_le_pow_right (by decide) hn8)
      rw [eg]
      refine x_callS hm rfl rfl (g168 hg2) ?_
      refine x_iret hm rfl rfl (by first | rfl | exact bI_nar | decide) ?_
      have e1 := tn h1 (by decide)
      have hq : fCount c r nt np a1 = sBits 256 (nI 0) (sGone r nt) := by
        unfold fCount
        rw [e1, if_neg (by decide), if_neg (by decide), if_neg (by decide), if_pos rfl]
      exact ⟨_, _, rfl, rfl, (congrArg (sBits 256 (nI 0)) eg.symm).trans hq.symm⟩
    · refine ⟨_, 77, rfl, rfl, ?_⟩
      refine x_aload_n hm rfl rfl ?_
      refine x_callV hm rfl rfl (e170 hnt hn8) ?_
      refine x_iret hm rfl rfl (by first | rfl | exact bI_nar | decide) ?_
      have e1 := tn h1 (by decide)
      have hq : fCount c r nt np a1 = sThick r nt := by
        unfold fCount
        rw [e1, if_neg (by decide), if_neg (by decide), if_neg (by decide), if_neg (by decide), if_pos rfl]
      exact ⟨_, _, rfl, rfl, (congrArg (fun z => sThick z nt) h67).trans hq.symm⟩
    · refine ⟨_, 82, rfl, rfl, ?_⟩
      refine x_aload_n hm rfl rfl ?_
      refine x_getf hm rfl (gI rfl rfl) ?_
      refine x_iret hm rfl rfl (by first | rfl | exact bI_nar | decide) ?_
      have e1 := tn h1 (by decide)
      have hq : fCount c r nt np a1 = c := by
        unfold fCount
        rw [e1, if_neg (by decide), if_neg (by decide), if_neg (by decide), if_neg (by decide), if_neg (by decide), if_pos rfl]
      exact ⟨_, _, rfl, rfl, (hct).trans hq.symm⟩
    · refine ⟨_, 87, rfl, rfl, ?_⟩
      refine x_aload_n hm rfl rfl ?_
      refine x_getf hm rfl (gR rfl rfl) ?_
      refine x_iconst hm rfl (v := nI 3) (by decide) ?_
      refine x_iald hm rfl (lI rfl (by omega) (by decide)) ?_
      refine x_iret hm rfl rfl (by first | rfl | exact bI_nar | decide) ?_
      have e1 := tn h1 (by decide)
      have hq : fCount c r nt np a1 = r 3 := by
        unfold fCount
        rw [e1, if_neg (by decide), if_neg (by decide), if_neg (by decide), if_neg (by decide), if_neg (by decide), if_neg (by decide), if_pos rfl]
      exact ⟨_, _, rfl, rfl, (congrFun h67 3).trans hq.symm⟩
    · refine ⟨_, 94, rfl, rfl, ?_⟩
      refine x_iconst hm rfl (v := nI 0) (by decide) ?_
      refine x_istore_n hm rfl rfl ?_
      have e1 := tn h1 (by decide)
      have hq : fCount c r nt np a1 = sHs r 10 := by
        unfold fCount
        rw [e1, if_neg (by decide), if_neg (by decide), if_neg (by decide), if_neg (by decide), if_neg (by decide), if_neg (by decide), if_neg (by decide), if_pos rfl]
      rw [hq]
      exact ev_qxi (gr243l h67 hG _ 0 _ (Nat.lt_succ_self _) (Nat.zero_le _) rfl)
theorem bits_pos : ∀ s, s < 256 → ¬ s = 0 → nI 0 < sBits 256 (nI 0) (nI s) := by decide +kernel
theorem key_first (hn8 : nt ≤ 8) {t : Nat} (ht : t < nt) : nI 0 < sBits 256 (nI 0) (nI (wS (Rch r t) nt)) := by
  refine bits_pos _ (wS_lt hn8) fun e => ?_
  have h : (wS (Rch r t) nt).testBit t = true := wS_tb.mpr ⟨ht, Rch.self⟩
  rw [e, Nat.zero_testBit] at h
  exact Bool.false_ne_true h
theorem key_k (hn8 : nt ≤ 8) : ∀ k, k ≤ nt → (k = 0 ∧ (fo (sKs r nt) k (-1, nI 0)).1 = -1) ∨ ∃ j, j < k ∧ (fo (sKs r nt) k (-1, nI 0)).1 = nI j := by
  intro k
  induction k with
  | zero => exact fun _ => Or.inl ⟨rfl, rfl⟩
  | succ k ih =>
    intro hk
    refine Or.inr ?_
    show ∃ j, j < k + 1 ∧ (sKs r nt k (fo (sKs r nt) k (-1, nI 0))).1 = nI j
    by_cases h : (fo (sKs r nt) k (-1, nI 0)).2 < sBits 256 (nI 0) (nI (wS (Rch r k) nt))
    · exact ⟨k, Nat.lt_succ_self _, by rw [show sKs r nt k (fo (sKs r nt) k (-1, nI 0)) = _ from if_pos h]⟩
    · rw [show sKs r nt k (fo (sKs r nt) k (-1, nI 0)) = _ from if_neg h]
      rcases ih (by omega) with ⟨h0, -⟩ | ⟨j, hj, e⟩
      · subst h0
        exact absurd (key_first hn8 hk) h
      · exact ⟨j, by omega, e⟩
theorem key_eq (hn8 : nt ≤ 8) : ∀ k, k ≤ nt → 0 < k → fo (sKs r nt) k (nI 0, nI 0) = fo (sKs r nt) k (-1, nI 0) := by
  intro k
  induction k with
  | zero => exact fun _ h => absurd h (Nat.lt_irrefl _)
  | succ k ih =>
    intro hk _
    show sKs r nt k (fo (sKs r nt) k (nI 0, nI 0)) = sKs r nt k (fo (sKs r nt) k (-1, nI 0))
    by_cases h0 : k = 0
    · subst h0
      rw [show sKs r nt 0 (fo (sKs r nt) 0 (nI 0, nI 0)) = _ from if_pos (key_first hn8 hk), show sKs r nt 0 (fo (sKs r nt) 0 (-1, nI 0)) = _ from if_pos (key_first hn8 hk)]
    · rw [ih (by omega) (by omega)]
theorem gv63l (hR : Rel 1 nt np M r) (hV : Vs nt np r) : ∀ (n k : Nat) (s g : Int32) (x4 : Option Value), nt - k < n → k ≤ nt → (s, g) = fo (sKs r nt) k (nI 0, nI 0) → mEv X (QI (fun v _ => v = (fo (sKs r nt) nt (nI 0, nI 0)).1)) 63 23 [some (.ref 0), some (.int s), some (.int g), some (.int (nI k)), x4] [] (con M) := by
  have hm : mMet 63 = some _ := rfl
  intro n
  induction n with
  | zero =>
    intro k s g x4 hkn hkb hz
    omega
  | succ n ih =>
    intro k s g x4 hkn hkb hz
    have hn8 := hV.1
    have hp8 := hV.2.1
    refine x_iload_n hm rfl rfl ?_
    refine x_aload_n hm rfl rfl ?_
    refine x_getf hm rfl (gR rfl rfl) ?_
    refine x_getf hm rfl (gI rfl rfl) ?_
    rw [hR.1]
    refine x_icmp_ge hm rfl (t := 64) rfl (fun h1 => ?_) (fun h1 => ?_)
    · obtain rfl : k = nt := Nat.le_antisymm hkb ((jI_le (by omega) (by omega)).mp h1)
      refine x_iload_n hm rfl rfl ?_
      refine x_iret hm rfl rfl (by first | rfl | exact bI_nar | decide) ?_
      exact ⟨_, _, rfl, rfl, congrArg Prod.fst hz⟩
    · have hk : k < nt := Nat.lt_of_not_le fun h => h1 (nI_le h (by omega))
      refine x_aload_n hm rfl rfl ?_
      refine x_getf hm rfl (gR rfl rfl) ?_
      refine x_iload_n hm rfl rfl ?_
      refine x_callV hm rfl rfl (g20 (by decide) hR hV hk) ?_
      refine x_callS hm rfl rfl (g36 (wS_lt hn8)) ?_
      refine x_istore hm rfl rfl ?_
      refine x_iload hm rfl rfl ?_
      refine x_iload_n hm rfl rfl ?_
      refine x_icmp_le hm rfl (t := 58) rfl (fun h2 => ?_) (fun h2 => ?_)
      · have hle := h2
        refine x_iinc hm rfl rfl (v := nI 1) (by decide) rfl ?_
        rw [jI_add]
        refine x_goto hm rfl (t := 23) rfl ?_
        first
          | exact ih _ _ _ _ (by omega) (by omega) (by show _ = sKs r nt k _; rw [← hz]; exact (if_pos hlt).symm)
          | exact ih _ _ _ _ (by omega) (by omega) (by show _ = sKs r nt k _; rw [← hz]; exact (if_neg (Int32.not_lt.mpr hle)).symm)
      · have hlt := Int32.not_le.mp h2
        refine x_iload hm rfl rfl ?_
        refine x_istore_n hm rfl rfl ?_
        refine x_iload_n hm rfl rfl ?_
        refine x_istore_n hm rfl rfl ?_
        refine x_iinc hm rfl rfl (v := nI 1) (by decide) rfl ?_
        rw [jI_add]
        refine x_goto hm rfl (t := 23) rfl ?_
        first
          | exact ih _ _ _ _ (by omega) (by omega) (by show _ = sKs r nt k _; rw [← hz]; exact (if_pos hlt).symm)
          | exact ih _ _ _ _ (by omega) (by omega) (by show _ = sKs r nt k _; rw [← hz]; exact (if_neg (Int32.not_lt.mpr hle)).symm)
theorem gv63  (hR : Rel 1 nt np M r) (hG : Gd nt np r) (hc : M 1 7 = -1) : ∃ v M', mT X 63 [.ref 0] (con M) (some (.int v)) (con M') ∧ v = fKey r nt np := by
  refine ti_of (row := _) rfl (Nat.le_of_ble_eq_true rfl) ?_
  have hm : mMet 63 = some _ := rfl
  have hV := hG.2.2.1
  have hn8 := hV.1
  have hp8 := hV.2.1
  refine x_aload_n hm rfl rfl ?_
  refine x_getf hm rfl (gR rfl rfl) ?_
  refine x_getf hm rfl (gI rfl rfl) ?_
  rw [hR.1]
  refine x_if_ne hm rfl (t := 17) rfl (fun h1 => ?_) (fun h1 => ?_)
  · have hnt0 : 0 < nt := Nat.pos_of_ne_zero fun e => h1 (by rw [e]; rfl)
    refine x_iconst hm rfl (v := nI 0) (by decide) ?_
    refine x_istore_n hm rfl rfl ?_
    refine x_iconst hm rfl (v := nI 0) (by decide) ?_
    refine x_istore_n hm rfl rfl ?_
    refine x_iconst hm rfl (v := nI 0) (by decide) ?_
    refine x_istore_n hm rfl rfl ?_
    have hq : fKey r nt np = (fo (sKs r nt) nt (nI 0, nI 0)).1 := by
      unfold fKey
      rw [key_eq hn8 nt (Nat.le_refl _) hnt0]
      rcases key_k (r := r) hn8 nt (Nat.le_refl _) with ⟨e, -⟩ | ⟨j, hj, e⟩
      · omega
      · rw [e]; exact congrArg Prod.fst (orN_k (by omega))
    rw [hq]
    exact gv63l hR hV _ 0 _ _ _ (Nat.lt_succ_self _) (Nat.zero_le _) rfl
  · have hnt0 : nt = 0 := jI_inj (by omega) (by decide) h1
    refine x_aload_n hm rfl rfl ?_
    refine x_ldcI hm rfl (v := (-1000004 : Int32)) (by decide +kernel) ?_
    refine x_cVi hm rfl rfl (t7 (by decide +kernel)) (fun v2 M2 r2 => ?_)
    refine x_iret hm rfl rfl (by first | rfl | exact bI_nar | decide) ?_
    have hq : fKey r nt np = -1000004 := by
      unfold fKey
      rw [show fo (sKs r nt) nt (-1, nI 0) = (-1, nI 0) by rw [hnt0]; rfl]
      exact congrArg Prod.fst orN_m
    exact ⟨_, _, rfl, rfl, r2.1.trans hq.symm⟩
theorem gr196l (hI : Inv M) (h67 : M 67 = r) (hV : Vs nt np r) (hnt : M 67 1 = nI nt) : ∀ (n k : Nat) (b s : Int32) (x4 : Option Value), nt - k < n → k ≤ nt → (b, s) = fo (sKs r nt) k (-1, nI 0) → mEv X (QI (fun v _ => v = fKey r nt np)) 196 6 [some (.ref 66), some (.int b), some (.int s), some (.int (nI k)), x4] [] (con M) := by
  have hm : mMet 196 = some _ := rfl
  intro n
  induction n with
  | zero =>
    intro k b s x4 hkn hkb hz
    omega
  | succ n ih =>
    intro k b s x4 hkn hkb hz
    have hn8 := hV.1
    have hp8 := hV.2.1
    refine x_iload_n hm rfl rfl ?_
    refine x_aload_n hm rfl rfl ?_
    refine x_getf hm rfl (gR rfl rfl) ?_
    refine x_iconst hm rfl (v := nI 1) (by decide) ?_
    refine x_iald hm rfl (lI rfl (by omega) (by decide)) ?_
    rw [hnt]
    refine x_icmp_ge hm rfl (t := 51) rfl (fun h1 => ?_) (fun h1 => ?_)
    · obtain rfl : k = nt := Nat.le_antisymm hkb ((jI_le (by omega) (by omega)).mp h1)
      refine x_aload_n hm rfl rfl ?_
      refine x_iload_n hm rfl rfl ?_
      refine x_cVi hm rfl rfl (e177) (fun v2 M2 r2 => ?_)
      refine x_iret hm rfl rfl (by first | rfl | exact bI_nar | decide) ?_
      have hzz := r2.1
      exact ⟨_, _, rfl, rfl, by rw [hzz]; unfold fKey; rw [← hz]⟩
    · have hk : k < nt := Nat.lt_of_not_le fun h => h1 (nI_le h (by omega))
      refine x_aload_n hm rfl rfl ?_
      refine x_iload_n hm rfl rfl ?_
      refine x_callV hm rfl rfl (e194 hI (by omega) hnt hn8) ?_
      rw [h67]
      refine x_callS hm rfl rfl (g168 (wS_lt hn8)) ?_
      refine x_istore hm rfl rfl ?_
      refine x_iload hm rfl rfl ?_
      refine x_iload_n hm rfl rfl ?_
      refine x_icmp_le hm rfl (t := 36) rfl (fun h3 => ?_) (fun h3 => ?_)
      · have hle := Int32.not_lt.mpr h3
        refine x_iload_n hm rfl rfl ?_
        refine x_istore_n hm rfl rfl ?_
        refine x_iload_n hm rfl rfl ?_
        refine x_iload hm rfl rfl ?_
        refine x_lib hm rfl rfl ?_
        dsimp only
        refine x_istore_n hm rfl rfl ?_
        refine x_iinc hm rfl rfl (v := nI 1) (by decide) rfl ?_
        rw [jI_add]
        refine x_goto hm rfl (t := 6) rfl ?_
        first
          | exact ih _ _ _ _ (by omega) (by omega) (by show _ = sKs r nt k _; rw [← hz]; unfold sKs; dsimp only; rw [if_pos hlt, if_pos hlt])
          | exact ih _ _ _ _ (by omega) (by omega) (by show _ = sKs r nt k _; rw [← hz]; unfold sKs; dsimp only; rw [if_neg hle, if_neg hle])
      · have hlt := Int32.not_le.mp h3
        refine x_iload_n hm rfl rfl ?_
        refine x_goto hm rfl (t := 37) rfl ?_
        refine x_istore_n hm rfl rfl ?_
        refine x_iload_n hm rfl rfl ?_
        refine x_iload hm rfl rfl ?_
        refine x_lib hm rfl rfl ?_
        dsimp only
        refine x_istore_n hm rfl rfl ?_
        refine x_iinc hm rfl rfl (v := nI 1) (by decide) rfl ?_
        rw [jI_add]
        refine x_goto hm rfl (t := 6) rfl ?_
        first
          | exact ih _ _ _ _ (by omega) (by omega) (by show _ = sKs r nt k _; rw [← hz]; unfold sKs; dsimp only; rw [if_pos hlt, if_pos hlt])
          | exact ih _ _ _ _ (by omega) (by omega) (by show _ = sKs r nt k _; rw [← hz]; unfold sKs; dsimp only; rw [if_neg hle, if_neg hle])
theorem gr196  (hI : Inv M) (h67 : M 67 = r) (hG : Gd nt np r) (h6 : M 66 6 = -1) : ∃ v M', mT X 196 [.ref 66] (con M) (some (.int v)) (con M') ∧ v = fKey r nt np := by
  refine ti_of (row := _) rfl (Nat.le_of_ble_eq_true rfl) ?_
  have hm : mMet 196 = some _ := rfl
  have hV := hG.2.2.1
  have hn8 := hV.1
  have hp8 := hV.2.1
  have hW := hI.1
  have hnt : M 67 1 = nI nt := (congrFun h67 1).trans hG.1
  have hnp : M 67 2 = nI np := (congrFun h67 2).trans hG.2.1
  refine x_iconst hm rfl (v := (-1 : Int32)) (by decide) ?_
  refine x_istore_n hm rfl rfl ?_
  refine x_iconst hm rfl (v := nI 0) (by decide) ?_
  refine x_istore_n hm rfl rfl ?_
  refine x_iconst hm rfl (v := nI 0) (by decide) ?_
  refine x_istore_n hm rfl rfl ?_
  exact gr196l hI h67 hV hnt _ 0 _ _ _ (Nat.lt_succ_self _) (Nat.zero_le _) rfl
theorem J.asi {cmd rmd : Nat} {as bs : List Value} {F : (Nat → Int32) → Nat → Nat → Int32} (hJ : J M) (hc : ∃ v M1, mT X cmd as (con M) (some (.int v)) (con M1) ∧ Cq M M1) (he : ∀ nt np, Rel 1 nt np M (M 67) → Gd nt np (M 67) → M 1 7 = -1 → ∃ v M1, mT X cmd as (con M) (some (.int v)) (con M1) ∧ v = F (M 67) nt np)
    (hr : ∀ M1, J M1 → ∃ v M', mT X rmd bs (con M1) (some (.int v)) (con M') ∧ Rq M1 M') (hu : ∀ M1 nt np, J M1 → (∀ a, 66 ≤ a → M1 a = M a) → Gd nt np (M 67) → ∃ v M', mT X rmd bs (con M1) (some (.int v)) (con M') ∧ v = F (M 67) nt np) : JJ X cmd rmd as bs M Eq := by
  obtain ⟨nt, np, hR, h1, h2, hV, hr0, hc7⟩ := hJ.2.2.1
  have g : Gd nt np (M 67) := ⟨h1, h2, hV, hr0⟩
  exact hJ.asv hc (he nt np hR g hc7) hr (fun M1 j k => hu M1 nt np j k g) rfl
theorem j_thingOf {a1 a2 : Int32} (hJ : J M) : JJ X 9 138 [.ref 0, .int a1, .int a2] [.ref 66, .int a1, .int a2] M Eq := hJ.asi (F := fun r nt np => fThO r nt np a1 a2) (t9 hJ.1.1) (fun nt np hR g h7 => gv9 hR g h7) (fun M1 j => rq_of (t138 j.1)) (fun M1 nt np j k g => gr138 j.1 (k 67 (by decide)) g j.2.2.2.2.2.2)
theorem j_of {a1 a2 : Int32} (hJ : J M) : JJ X 24 159 [.ref 0, .int a1, .int a2] [.ref 66, .int a1, .int a2] M Eq := hJ.asi (F := fun r nt np => fOf r nt np a1 a2) (t24 hJ.1.1) (fun nt np hR g h7 => gv24 hR g h7) (fun M1 j => rq_of (t159 j.1)) (fun M1 nt np j k g => gr159 j.1 (k 67 (by decide)) g j.2.2.2.2.2.2)
theorem j_envy {a1 a2 : Int32} (hJ : J M) : JJ X 28 162 [.ref 0, .int a1, .int a2] [.ref 66, .int a1, .int a2] M Eq := hJ.asi (F := fun r nt np => fEnvy r nt np a1 a2) (t28 hJ.1.1) (fun nt np hR g h7 => gv28 hR g h7) (fun M1 j => rq_of (t162 j.1)) (fun M1 nt np j k g => gr162 j.1 (k 67 (by decide)) g j.2.2.2.2.2.2)
theorem j_fallsWith {a1 : Int32} (hJ : J M) : JJ X 60 193 [.ref 0, .int a1] [.ref 66, .int a1] M Eq := hJ.asi (F := fun r nt np => fFw r nt np a1) (t60 hJ.1.1) (fun nt np hR g h7 => gv60 hR g h7) (fun M1 j => rq_of (t193 j.1)) (fun M1 nt np j k g => gr193 j.1 (k 67 (by decide)) g j.2.2.2.2.2.2)
theorem j_fells (hJ : J M) : JJ X 64 197 [.ref 0] [.ref 66] M Eq := hJ.asi (F := fun r nt np => fFells r nt) (t64 hJ.1.1) (fun nt np hR g h7 => gv64 hR g h7) (fun M1 j => by
  obtain ⟨v, h, -⟩ := t197 (X := X) j.1.1
  exact ⟨v, M1, h, (Iq.rf j.1).rq⟩) (fun M1 nt np j k g => gr197 j.1 (k 67 (by decide)) g j.2.2.2.2.2.2)
theorem j_worth {a1 a2 : Int32} (hJ : J M) : JJ X 65 198 [.ref 0, .int a1, .int a2] [.ref 66, .int a1, .int a2] M Eq := hJ.asi (F := fun r nt np => fWorth r nt np a1 a2) (t65 hJ.1.1) (fun nt np hR g h7 => gv65 hR g h7) (fun M1 j => rq_of (t198 j.1)) (fun M1 nt np j k g => gr198 j.1 (k 67 (by decide)) g j.2.2.2.2.2.2)
theorem j_as {a1 a2 : Int32} (hJ : J M) : JJ X 115 233 [.ref 0, .int a1, .int a2] [.ref 66, .int a1, .int a2] M Eq := hJ.asi (F := fun r nt np => fAs r nt np a1 a2) (t115 hJ.1.1) (fun nt np hR g h7 => gv115 hR g h7) (fun M1 j => rq_of (t233 j.1)) (fun M1 nt np j k g => gr233 j.1 (k 67 (by decide)) g j.2.2.2.2.2.2)
theorem j_keystone (hJ : J M) : JJ X 63 196 [.ref 0] [.ref 66] M Eq := hJ.asi (F := fun r nt np => fKey r nt np) (t63 hJ.1.1) (fun nt np hR g h7 => gv63 hR g h7) (fun M1 j => rq_of (t196 j.1)) (fun M1 nt np j k g => gr196 j.1 (k 67 (by decide)) g j.2.2.2.2.2.2)
theorem j_count {a1 : Int32} (hJ : J M) : JJ X 128 243 [.ref 0, .int a1] [.ref 66, .int a1] M Eq := hJ.asi (F := fun r nt np => fCount (M 66 9) r nt np a1) (t128 hJ.1.1) (fun nt np hR g h7 => gv128 hR g h7 hJ.2.2.2.2.1.1) (fun M1 j => rq_of (t243 j.1)) (fun M1 nt np j k g => gr243 j.1 (k 67 (by decide)) g j.2.2.2.2.2.2 (by rw [k 66 (by decide)]))
end EW
end
section
/-! ===== paint: both sides ===== -/
section PT
variable {nt np : Nat} {r q : Nat → Int32} {w : Int32}
theorem Rch.tr {o u t : Nat} (h : Rch r o u) (g : Rch r u t) : Rch r o t := g.ind (P := fun x => Rch r o x) h fun _ _ hw e p => Rch.step hw e p
theorem Rch.of {o : Nat} (h : ∀ u, u < 8 → q (14 + 6 * u + 5) = r (14 + 6 * u + 5)) {t : Nat} (ht : t < 8) (g : Rch q o t) : Rch r o t := by
  obtain ⟨f, hf⟩ := g
  induction f generalizing t with
  | zero => exact absurd hf id
  | succ f ih =>
    rcases hf with e | ⟨x, hx, e, g⟩
    · rw [e]; exact Rch.self
    · exact Rch.step hx ((h t ht).symm.trans e) (ih (by omega) g)
/-- whether one is, or hangs on, one that is so -/
def Dn (z : Nat → Prop) (r : Nat → Int32) (nt t : Nat) : Prop := ∃ u, u < nt ∧ z u ∧ Rch r u t
theorem cnt1 {t n : Nat} (h : t < n) (g : ¬ q (14 + 6 * t + 2) = 0) : cnt (put1 q (14 + 6 * t + 2) (nI 0)) n < cnt q n := by
  have := cnt_zero (M := fun _ => q) n h g
  rwa [mput67] at this
theorem cnt0 : ∀ n, cnt q n = 0 → ∀ t, t < n → q (14 + 6 * t + 2) = 0 := by
  intro n
  induction n with
  | zero => exact fun _ t ht => absurd ht (Nat.not_lt_zero _)
  | succ n ih =>
    intro h t ht
    have h2 : cnt q n + (if q (14 + 6 * n + 2) = 0 then 0 else 1) = 0 := h
    by_cases g : q (14 + 6 * n + 2) = 0
    · by_cases e : t = n
      · rw [e]; exact g
      · exact ih (by omega) t (by omega)
    · rw [if_neg g] at h2
      omega
theorem fp_cnt {n : Nat} : ∀ k, k ≤ n → (fo sFp1 k (q, nI 0)).2 = nI 0 ∨ ((fo sFp1 k (q, nI 0)).2 = nI 1 ∧ cnt (fo sFp1 k (q, nI 0)).1 n < cnt q n) := by
  intro k
  induction k with
  | zero => exact fun _ => Or.inl rfl
  | succ k ih =>
    intro hk
    have e0 := sFp_0 (r := q) k
    have e := ih (by omega)
    show (sFp1 k (fo sFp1 k (q, nI 0))).2 = nI 0 ∨ _
    show _ ∨ ((sFp1 k (fo sFp1 k (q, nI 0))).2 = nI 1 ∧ cnt (sFp1 k (fo sFp1 k (q, nI 0))).1 n < cnt q n)
    generalize fo sFp1 k (q, nI 0) = z at e e0 ⊢
    unfold sFp1
    split
    · rename_i hc
      have := cnt1 (q := z.1) (n := n) (t := k) (by omega) hc.1
      refine Or.inr ⟨rfl, ?_⟩
      rcases e with e | e
      · rw [← e0 e]; exact this
      · exact Nat.lt_trans this e.2
    · exact e
/-- what falling leaves of a row: nothing but thicknesses is touched, and only by what it hangs on -/
def Fi (nt : Nat) (q q1 : Nat → Int32) : Prop := (∀ j, (∀ t, t < nt → j ≠ 14 + 6 * t + 2) → q1 j = q j) ∧ ∀ t, t < nt → q1 (14 + 6 * t + 2) = q (14 + 6 * t + 2) ∨ (q1 (14 + 6 * t + 2) = 0 ∧ Dn (fun u => q (14 + 6 * u + 2) = 0) q nt t)
theorem Fi.rf : Fi nt q q := ⟨fun _ _ => rfl, fun _ _ => Or.inl rfl⟩
theorem Fi.fp1 {k : Nat} {z : (Nat → Int32) × Int32} (hV : Vs nt np q) (h : Fi nt q z.1) (hk : k < nt) : Fi nt q (sFp1 k z).1 := by
  have hn8 := hV.1
  unfold sFp1
  split
  · rename_i hc
    obtain ⟨c1, c2, c3⟩ := hc
    have e5 : z.1 (14 + 6 * k + 5) = q (14 + 6 * k + 5) := h.1 _ fun t _ => by omega
    rw [e5] at c2 c3
    rcases hV.on hk with e | ⟨x, hx, e⟩
    · rw [e] at c2; exact absurd (by decide) c2
    · rw [e, jI_nat (by omega)] at c3
      have hd : Dn (fun u => q (14 + 6 * u + 2) = 0) q nt x := by
        rcases h.2 x hx with g | g
        · exact ⟨x, hx, g.symm.trans c3, Rch.self⟩
        · exact g.2
      obtain ⟨u, hu, zu, ru⟩ := hd
      refine ⟨fun j hj => (put1_o (hj k hk)).trans (h.1 j hj), fun t ht => ?_⟩
      by_cases g : t = k
      · subst g
        exact Or.inr ⟨put1_s, u, hu, zu, Rch.step (by omega) e ru⟩
      · show put1 _ _ _ _ = _ ∨ (put1 _ _ _ _ = _ ∧ _)
        rw [put1_o (by omega)]
        exact h.2 t ht
  · exact h
theorem Fi.fp (hV : Vs nt np q) {q1 : Nat → Int32} (h : Fi nt q q1) : ∀ k, k ≤ nt → Fi nt q (fo sFp1 k (q1, nI 0)).1 := by
  intro k
  induction k with
  | zero => exact fun _ => h
  | succ k ih => exact fun hk => (ih (by omega)).fp1 hV (by omega)
theorem Fi.fall (hV : Vs nt np q) : ∀ (f : Nat) {q1 : Nat → Int32}, Fi nt q q1 → Fi nt q (sFall nt f q1) := by
  intro f
  induction f with
  | zero => exact fun h => h
  | succ f ih =>
    intro q1 h
    show Fi nt q (if (sFp nt q1).2 = nI 0 then (sFp nt q1).1 else sFall nt f (sFp nt q1).1)
    split
    · exact h.fp hV nt (Nat.le_refl _)
    · exact ih (h.fp hV nt (Nat.le_refl _))
theorem fp_cl {q1 : Nat → Int32} : ∀ n, (fo sFp1 n (q1, nI 0)).2 = nI 0 → ∀ k, k < n → ¬ (¬ q1 (14 + 6 * k + 2) = 0 ∧ ¬ q1 (14 + 6 * k + 5) < 0 ∧ q1 (14 + 6 * (q1 (14 + 6 * k + 5)).toNatClampNeg + 2) = 0) := by
  intro n
  induction n with
  | zero => exact fun _ k hk => absurd hk (Nat.not_lt_zero _)
  | succ n ih =>
    intro h k hk
    have h2 : (sFp1 n (fo sFp1 n (q1, nI 0))).2 = nI 0 := h
    have e0 := sFp_0 (r := q1) n
    generalize fo sFp1 n (q1, nI 0) = z at h2 e0 ih
    unfold sFp1 at h2
    split at h2
    · exact absurd (show nI 1 = nI 0 from h2) (by decide)
    · rename_i hc
      by_cases e : k = n
      · subst e
        rw [e0 h2] at hc
        exact hc
      · exact ih h2 k (by omega)
/-- what hangs on what is gone is gone -/
def Cld (nt : Nat) (q p : Nat → Int32) : Prop := ∀ t, t < nt → ∀ x, x < nt → q (14 + 6 * t + 5) = nI x → p (14 + 6 * x + 2) = 0 → p (14 + 6 * t + 2) = 0
theorem fall_cl (hV : Vs nt np q) : ∀ (f : Nat) {q1 : Nat → Int32}, Fi nt q q1 → cnt q1 nt ≤ f → Cld nt q (sFall nt f q1) := by
  have hn8 := hV.1
  intro f
  induction f with
  | zero => exact fun {q1} h hc t ht _ _ _ _ => cnt0 nt (Nat.le_zero.mp hc) t ht
  | succ f ih =>
    intro q1 h hc
    show Cld nt q (if (sFp nt q1).2 = nI 0 then (sFp nt q1).1 else sFall nt f (sFp nt q1).1)
    split
    · rename_i e
      have e1 := sFp_0 (r := q1) nt e
      rw [show (sFp nt q1).1 = q1 from e1]
      intro t ht x hx e5 g
      have g2 := fp_cl nt e t ht
      rw [h.1 (14 + 6 * t + 5) (fun u _ => by omega), e5, jI_nat (by omega)] at g2
      by_cases z : q1 (14 + 6 * t + 2) = 0
      · exact z
      · exact absurd ⟨z, jI_nn (by omega), g⟩ g2
    · rename_i e
      have := (fp_cnt (q := q1) (n := nt) nt (Nat.le_refl _)).resolve_left e
      exact ih (h.fp hV nt (Nat.le_refl _)) (by have := this.2; show cnt (fo sFp1 nt (q1, nI 0)).1 nt ≤ f; omega)
theorem fall_yes (hV : Vs nt np q) {t : Nat} (ht : t < nt) (h : Dn (fun u => q (14 + 6 * u + 2) = 0) q nt t) : sFall nt 8 q (14 + 6 * t + 2) = 0 := by
  have hn8 := hV.1
  have hF := Fi.fall hV 8 Fi.rf
  have hC := fall_cl hV 8 (Fi.rf (q := q)) (Nat.le_trans (cnt_le nt) hn8)
  obtain ⟨u, hu, zu, ru⟩ := h
  refine ru.ind (P := fun x => x < nt → sFall nt 8 q (14 + 6 * x + 2) = 0) (fun hx => ?_) (fun x y hy e p hx => ?_) ht
  · rcases hF.2 u hx with g | g
    · exact g.trans zu
    · exact g.1
  · rcases hV.on hx with g | ⟨k, hk, g⟩
    · rw [g] at e
      exact absurd e.symm (nn_m1 (by omega))
    · have : y = k := jI_inj (by omega) (by omega) (e.symm.trans g)
      subst this
      exact hC x hx y hk e (p hk)
theorem fall_no (hV : Vs nt np q) {t : Nat} (ht : t < nt) (h : ¬ Dn (fun u => q (14 + 6 * u + 2) = 0) q nt t) : sFall nt 8 q (14 + 6 * t + 2) = q (14 + 6 * t + 2) := ((Fi.fall hV 8 Fi.rf).2 t ht).resolve_right fun g => h g.2
theorem fall_lone (hV : Vs nt np q) (hn : ∀ t, t < nt → q (14 + 6 * t + 5) = -1) {t : Nat} (ht : t < nt) : sFall nt 8 q (14 + 6 * t + 2) = q (14 + 6 * t + 2) := by
  have hn8 := hV.1
  by_cases h : q (14 + 6 * t + 2) = 0
  · rw [h]
    exact fall_yes hV ht ⟨t, ht, h, Rch.self⟩
  · refine fall_no hV ht fun ⟨u, hu, zu, ru⟩ => ?_
    have e : t < nt → t = u := ru.ind (P := fun x => x < nt → x = u) (fun _ => rfl) fun x y hy e _ hx => absurd ((hn x hx).symm.trans e) (fun z => nn_m1 (k := y) (by omega) z.symm)
    rw [e ht] at h
    exact h zu
-- one day, thing by thing
theorem wear_s {a : Nat → Int32} {t : Nat} (h : ∀ f, f < 5 → a (14 + 6 * t + f) = q (14 + 6 * t + f)) (hj : ∀ j, 62 ≤ j → a j = q j) (w : Int32) (np : Nat) : sWear a w np t = sWear q w np t := by
  have h0 := h 0 (by decide)
  have h2 := h 2 (by decide)
  have h3 := h 3 (by decide)
  have hp : ∀ p, sPl a p t = sPl q p t := fun p => by
    unfold sPl
    rw [h0, h3, hj _ (by omega)]
  have hr : ∀ o p, sRi a o p t = sRi q o p t := fun o p => by
    unfold sRi
    rw [hj _ (by omega), hp]
  have he : ∀ o p, sEnv a w o p t = sEnv q w o p t := fun o p => by
    unfold sEnv
    rw [h2, hj _ (by omega), hp, hr]
  unfold sWear sWs
  rw [h2, fo_c (g := fun p s => s + (if q (62 + 7 * p + 1) = q (14 + 6 * t + 1) then sEnv q w (q (14 + 6 * t + 4)) p t else nI 0))]
  intro p s _
  rw [hj _ (by omega), h 1 (by decide), h 4 (by decide), he]
theorem wear_0 {t : Nat} (h : q (14 + 6 * t + 2) = 0) (w : Int32) (np : Nat) : sWear q w np t = 0 := by
  have e : sWs q w t np = nI 0 := fo_p (P := fun s => s = nI 0) np _ rfl fun p s _ hs => by
    have e1 : sEnv q w (q (14 + 6 * t + 4)) p t = nI 0 := if_pos (Or.inr (Or.inl h))
    rw [e1, hs]
    split <;> rfl
  unfold sWear
  rw [e, h]
  rfl
theorem worn_at : ∀ n {t : Nat}, t < n → sWorn r w np n q (14 + 6 * t + 2) = q (14 + 6 * t + 2) - sWear r w np t := by
  intro n
  induction n with
  | zero => exact fun h => absurd h (Nat.not_lt_zero _)
  | succ n ih =>
    intro t ht
    show put1 (sWorn r w np n q) (14 + 6 * n + 2) (sWorn r w np n q (14 + 6 * n + 2) - sWear r w np n) (14 + 6 * t + 2) = _
    by_cases e : t = n
    · subst e
      rw [put1_s, sWorn_o t _ (fun u hu => by omega)]
    · rw [put1_o (by omega)]
      exact ih (by omega)
theorem day_th {t : Nat} (hn8 : nt ≤ 8) (ht : t < nt) : sDay w nt np q (14 + 6 * t + 2) = sFall nt 8 (sWorn q w np nt q) (14 + 6 * t + 2) := by
  unfold sDay sTick
  rw [put1_o (by omega), sGo_o np _ fun p hp => by omega]
theorem go_pers {a : Nat → Int32} (h : ∀ j, 62 ≤ j → a j = q j) : ∀ n j, 62 ≤ j → sGo n a j = sGo n q j := by
  intro n
  induction n with
  | zero => exact h
  | succ n ih =>
    intro j hj
    show put1 (sGo n a) (62 + 7 * n + 1) (rem16 (sGo n a (62 + 7 * n + 1) + sGo n a (62 + 7 * n + 2))) j = put1 (sGo n q) (62 + 7 * n + 1) (rem16 (sGo n q (62 + 7 * n + 1) + sGo n q (62 + 7 * n + 2))) j
    rw [ih (62 + 7 * n + 1) (by omega), ih (62 + 7 * n + 2) (by omega)]
    by_cases e : j = 62 + 7 * n + 1
    · rw [e, put1_s, put1_s]
    · rw [put1_o e, put1_o e]
      exact ih j hj
theorem day_pers {a : Nat → Int32} (hn8 : nt ≤ 8) (h : ∀ j, 62 ≤ j → a j = q j) : ∀ j, 62 ≤ j → sDay w nt np a j = sDay w nt np q j := by
  intro j hj
  unfold sDay sTick
  rw [put1_o (by omega), put1_o (by omega)]
  refine go_pers (fun i hi => ?_) np j hj
  rw [sFall_o 8 _ i (fun t ht => by omega), sFall_o 8 _ i (fun t ht => by omega), sWorn_o nt i (fun t ht => by omega), sWorn_o nt i (fun t ht => by omega)]
  exact h i hi
theorem days_fix {t f : Nat} (hn8 : nt ≤ 8) (ht : t < nt) (hf : f < 6) (h2 : ¬ f = 2) : ∀ d, sDays w nt np d q (14 + 6 * t + f) = q (14 + 6 * t + f) := by
  intro d
  induction d with
  | zero => rfl
  | succ d ih =>
    show sDay w nt np (sDays w nt np d q) _ = _
    rw [sDay_o (by omega) (fun u hu => by omega) (fun p hp => by omega)]
    exact ih
theorem days_pers {a : Nat → Int32} (hn8 : nt ≤ 8) (h : ∀ j, 62 ≤ j → a j = q j) : ∀ d j, 62 ≤ j → sDays w nt np d a j = sDays w nt np d q j := by
  intro d
  induction d with
  | zero => exact h
  | succ d ih => exact day_pers hn8 ih
/-- a row, and for each thing a row in which it is alone -/
def Aln (nt : Nat) (r : Nat → Int32) (A : Nat → Nat → Int32) : Prop := (∀ t, t < nt → ∀ u, u < nt → A t (14 + 6 * u + 5) = -1) ∧ (∀ t, t < nt → ∀ f, f < 5 → A t (14 + 6 * t + f) = r (14 + 6 * t + f)) ∧ ∀ t j, t < nt → 62 ≤ j → A t j = r j
theorem lone_day {a : Nat → Int32} {t : Nat} (hV : Vs nt np a) (hn : ∀ u, u < nt → a (14 + 6 * u + 5) = -1) (ht : t < nt) : sDay w nt np a (14 + 6 * t + 2) = a (14 + 6 * t + 2) - sWear a w np t := by
  have hn8 := hV.1
  have hV2 : Vs nt np (sWorn a w np nt a) := hV.of (fun t f ht hf => sWorn_o nt _ (fun u hu => by omega)) (fun p hp => sWorn_o nt _ (fun u hu => by omega))
  rw [day_th hn8 ht, fall_lone hV2 (fun u hu => (sWorn_o nt _ (fun v hv => by omega)).trans (hn u hu)) ht, worn_at nt ht]
theorem alone {A : Nat → Nat → Int32} (hV : Vs nt np r) (hA : Aln nt r A) (hVA : ∀ t, t < nt → Vs nt np (A t)) : ∀ d t, t < nt →
    (Dn (fun u => sDays w nt np (d + 1) (A u) (14 + 6 * u + 2) = 0) r nt t → sDays w nt np (d + 1) r (14 + 6 * t + 2) = 0) ∧
    (¬ Dn (fun u => sDays w nt np (d + 1) (A u) (14 + 6 * u + 2) = 0) r nt t → sDays w nt np (d + 1) r (14 + 6 * t + 2) = sDays w nt np (d + 1) (A t) (14 + 6 * t + 2)) := by
  have hn8 := hV.1
  obtain ⟨a1, a2, a3⟩ := hA
  -- the step, from what holds of a day's row before its wear
  have step : ∀ d, (∀ t, t < nt → (sDays w nt np d r (14 + 6 * t + 2) = sDays w nt np d (A t) (14 + 6 * t + 2)) ∨ (sDays w nt np d r (14 + 6 * t + 2) = 0 ∧ Dn (fun u => sDays w nt np d (A u) (14 + 6 * u + 2) = 0) r nt t)) → ∀ t, t < nt →
      (Dn (fun u => sDays w nt np (d + 1) (A u) (14 + 6 * u + 2) = 0) r nt t → sDays w nt np (d + 1) r (14 + 6 * t + 2) = 0) ∧
      (¬ Dn (fun u => sDays w nt np (d + 1) (A u) (14 + 6 * u + 2) = 0) r nt t → sDays w nt np (d + 1) r (14 + 6 * t + 2) = sDays w nt np (d + 1) (A t) (14 + 6 * t + 2)) := by
    intro d H t ht
    have hVd := hV.days (w := w) d
    have hVW : Vs nt np (sWorn (sDays w nt np d r) w np nt (sDays w nt np d r)) := hVd.of (fun t f ht hf => sWorn_o nt _ (fun u hu => by omega)) (fun p hp => sWorn_o nt _ (fun u hu => by omega))
    -- alone, a day only wears
    have eA : ∀ u, u < nt → sDays w nt np (d + 1) (A u) (14 + 6 * u + 2) = sDays w nt np d (A u) (14 + 6 * u + 2) - sWear (sDays w nt np d (A u)) w np u := fun u hu =>
      lone_day ((hVA u hu).days d) (fun v hv => (days_fix hn8 hv (by decide) (by decide) d).trans (a1 u hu v hv)) hu
    have gA : ∀ u, u < nt → sDays w nt np d (A u) (14 + 6 * u + 2) = 0 → sDays w nt np (d + 1) (A u) (14 + 6 * u + 2) = 0 := fun u hu h => by
      rw [eA u hu, h, wear_0 h]
      rfl
    -- the worn row
    have eW : ∀ u, u < nt → (sWorn (sDays w nt np d r) w np nt (sDays w nt np d r) (14 + 6 * u + 2) = sDays w nt np (d + 1) (A u) (14 + 6 * u + 2)) ∨ (sWorn (sDays w nt np d r) w np nt (sDays w nt np d r) (14 + 6 * u + 2) = 0 ∧ Dn (fun u => sDays w nt np d (A u) (14 + 6 * u + 2) = 0) r nt u) := fun u hu => by
      rw [worn_at nt hu]
      rcases H u hu with g | ⟨g, g2⟩
      · refine Or.inl ?_
        rw [eA u hu, g, wear_s (q := sDays w nt np d r) (fun f hf => ?_) (days_pers hn8 (fun j hj => a3 u j hu hj) d) w np]
        by_cases e : f = 2
        · rw [e]; exact g.symm
        · rw [days_fix hn8 hu (by omega) e d, days_fix hn8 hu (by omega) e d]
          exact a2 u hu f hf
      · refine Or.inr ⟨?_, g2⟩
        rw [g, wear_0 g]
        rfl
    have eR : sDays w nt np (d + 1) r (14 + 6 * t + 2) = sFall nt 8 (sWorn (sDays w nt np d r) w np nt (sDays w nt np d r)) (14 + 6 * t + 2) := day_th hn8 ht
    have e5 : ∀ u, u < nt → sWorn (sDays w nt np d r) w np nt (sDays w nt np d r) (14 + 6 * u + 5) = r (14 + 6 * u + 5) := fun u hu => (sWorn_o nt _ (fun v hv => by omega)).trans (days_fix hn8 hu (by decide) (by decide) d)
    have c1 : ∀ o t, t < nt → Rch r o t → Rch (sWorn (sDays w nt np d r) w np nt (sDays w nt np d r)) o t := fun o t ht g =>
      (g.ind (P := fun x => x < nt → Rch (sWorn (sDays w nt np d r) w np nt (sDays w nt np d r)) o x) (fun _ => Rch.self) fun x y hy e p hx => by
        rcases hV.on hx with z | ⟨k, hk, z⟩
        · rw [z] at e; exact absurd e.symm (nn_m1 (by omega))
        · have : y = k := jI_inj (by omega) (by omega) (e.symm.trans z)
          subst this
          exact Rch.step hy ((e5 x hx).trans e) (p hk)) ht
    have c2 : ∀ o t, t < nt → Rch (sWorn (sDays w nt np d r) w np nt (sDays w nt np d r)) o t → Rch r o t := fun o t ht g =>
      (g.ind (P := fun x => x < nt → Rch r o x) (fun _ => Rch.self) fun x y hy e p hx => by
        rw [e5 x hx] at e
        rcases hV.on hx with z | ⟨k, hk, z⟩
        · rw [z] at e; exact absurd e.symm (nn_m1 (by omega))
        · have : y = k := jI_inj (by omega) (by omega) (e.symm.trans z)
          subst this
          exact Rch.step hy e (p hk)) ht
    have up : ∀ u, u < nt → Dn (fun u => sDays w nt np d (A u) (14 + 6 * u + 2) = 0) r nt u → Dn (fun u => sDays w nt np (d + 1) (A u) (14 + 6 * u + 2) = 0) r nt u := fun u _ ⟨v, hv, zv, rv⟩ => ⟨v, hv, gA v hv zv, rv⟩
    constructor
    · rintro ⟨u, hu, zu, ru⟩
      rw [eR]
      refine fall_yes hVW ht ⟨u, hu, ?_, c1 u t ht ru⟩
      rcases eW u hu with g | g
      · exact g.trans zu
      · exact g.1
    · intro hn
      rw [eR, fall_no hVW ht]
      · rcases eW t ht with g | ⟨_, g⟩
        · exact g
        · exact absurd (up t ht g) hn
      · rintro ⟨u, hu, zu, ru⟩
        have ru2 := c2 u t ht ru
        rcases eW u hu with g | ⟨_, g⟩
        · exact hn ⟨u, hu, g.symm.trans zu, ru2⟩
        · obtain ⟨v, hv, zv, rv⟩ := up u hu g
          exact hn ⟨v, hv, zv, rv.tr ru2⟩
  intro d
  induction d with
  | zero => exact step 0 fun t ht => Or.inl (a2 t ht 2 (by decide)).symm
  | succ d ih =>
    refine step (d + 1) fun t ht => ?_
    obtain ⟨i1, i2⟩ := ih t ht
    by_cases h : Dn (fun u => sDays w nt np (d + 1) (A u) (14 + 6 * u + 2) = 0) r nt t
    · exact Or.inr ⟨i1 h, h⟩
    · exact Or.inl (i2 h)
/-- the first k things alone, and painted so -/
def alo (s : Nat) (r : Nat → Int32) : Nat → Nat → Int32
  | 0 => r
  | k + 1 => if s.testBit k = true then put1 (put1 (alo s r k) (14 + 6 * k + 5) (-1)) (14 + 6 * k + 3) (nI 9) else put1 (alo s r k) (14 + 6 * k + 5) (-1)
theorem alo_o {s j : Nat} : ∀ k, (∀ t, t < k → j ≠ 14 + 6 * t + 5 ∧ j ≠ 14 + 6 * t + 3) → alo s r k j = r j := by
  intro k
  induction k with
  | zero => exact fun _ => rfl
  | succ k ih =>
    intro h
    have h1 := h k (Nat.lt_succ_self k)
    have e := ih fun t ht => h t (by omega)
    unfold alo
    split
    · rw [put1_o h1.2, put1_o h1.1, e]
    · rw [put1_o h1.1, e]
theorem alo_5 {s t : Nat} : ∀ k, t < k → alo s r k (14 + 6 * t + 5) = -1 := by
  intro k
  induction k with
  | zero => exact fun h => absurd h (Nat.not_lt_zero _)
  | succ k ih =>
    intro h
    by_cases e : t = k
    · subst e
      unfold alo
      split
      · rw [put1_o (by omega), put1_s]
      · rw [put1_s]
    · have e := ih (by omega)
      unfold alo
      split
      · rw [put1_o (by omega), put1_o (by omega), e]
      · rw [put1_o (by omega), e]
theorem alo_3 {s t : Nat} : ∀ k, t < k → alo s r k (14 + 6 * t + 3) = if s.testBit t = true then nI 9 else r (14 + 6 * t + 3) := by
  intro k
  induction k with
  | zero => exact fun h => absurd h (Nat.not_lt_zero _)
  | succ k ih =>
    intro h
    by_cases e : t = k
    · subst e
      unfold alo
      split
      · rw [put1_s]
      · rw [put1_o (by omega)]
        exact alo_o t fun u hu => ⟨by omega, by omega⟩
    · have e := ih (by omega)
      unfold alo
      split
      · rw [put1_o (by omega), put1_o (by omega), e]
      · rw [put1_o (by omega), e]
theorem alo_on (hV : Vs nt np r) {s k : Nat} : ∀ t, t < nt → alo s r k (14 + 6 * t + 5) = -1 ∨ ∃ j, j < nt ∧ alo s r k (14 + 6 * t + 5) = nI j := by
  intro t ht
  by_cases h : t < k
  · exact Or.inl (alo_5 k h)
  · rw [alo_o k fun u hu => ⟨by omega, by omega⟩]
    exact hV.on ht
theorem alo_vs (hV : Vs nt np r) (s k : Nat) (hk : k ≤ 8) : Vs nt np (alo s r k) := by
  have hn8 := hV.1
  refine ⟨hV.1, hV.2.1, fun t ht => ⟨?_, ?_, alo_on hV t ht⟩, fun p hp => ?_⟩
  · rw [alo_o k fun u hu => ⟨by omega, by omega⟩]; exact hV.sort ht
  · rw [alo_o k fun u hu => ⟨by omega, by omega⟩]; exact hV.own ht
  · rw [alo_o k fun u hu => ⟨by omega, by omega⟩]; exact hV.kind hp
theorem pnt_3 {s t : Nat} : ∀ k, t < k → pnt s r k (14 + 6 * t + 3) = if s.testBit t = true then nI 9 else r (14 + 6 * t + 3) := by
  intro k
  induction k with
  | zero => exact fun h => absurd h (Nat.not_lt_zero _)
  | succ k ih =>
    intro h
    show put1 (pnt s r k) (14 + 6 * k + 3) _ (14 + 6 * t + 3) = _
    by_cases e : t = k
    · subst e
      rw [put1_s]
    · rw [put1_o (by omega)]
      exact ih (by omega)
theorem pnt_gd (h : Gd nt np r) (s : Nat) : ∀ k, k ≤ nt → Gd nt np (pnt s r k) := by
  intro k
  induction k with
  | zero => exact fun _ => h
  | succ k ih =>
    intro hk
    refine (ih (by omega)).pt (f := 3) (by omega) (by decide) (fun e => by omega) (fun e => by omega) (fun e => by omega) (fun _ => ?_) (fun e => by omega) (fun e => by omega)
    split
    · exact ⟨9, by omega, rfl⟩
    · exact (h.2.2.2.2.2.1 k (by omega)).2.2
/-- thicknesses put in -/
def thk (f : Nat → Int32) (q : Nat → Int32) : Nat → Nat → Int32
  | 0 => q
  | k + 1 => put1 (thk f q k) (14 + 6 * k + 2) (f k)
theorem thk_o {f : Nat → Int32} {j : Nat} : ∀ k, (∀ t, t < k → j ≠ 14 + 6 * t + 2) → thk f q k j = q j := by
  intro k
  induction k with
  | zero => exact fun _ => rfl
  | succ k ih => exact fun h => (put1_o (h k (Nat.lt_succ_self k))).trans (ih fun t ht => h t (by omega))
theorem thk_2 {f : Nat → Int32} {t : Nat} : ∀ k, t < k → thk f q k (14 + 6 * t + 2) = f t := by
  intro k
  induction k with
  | zero => exact fun h => absurd h (Nat.not_lt_zero _)
  | succ k ih =>
    intro h
    show put1 (thk f q k) (14 + 6 * k + 2) (f k) (14 + 6 * t + 2) = _
    by_cases e : t = k
    · subst e; rw [put1_s]
    · rw [put1_o (by omega)]; exact ih (by omega)
/-- alike but for what is thick -/
def Eth (nt : Nat) (q r : Nat → Int32) : Prop := ∀ j, (∀ t, t < nt → j ≠ 14 + 6 * t + 2) → q j = r j
theorem Eth.vs (h : Eth nt q r) (hV : Vs nt np r) : Vs nt np q := by
  have hn8 := hV.1
  exact hV.of (fun t f ht hf => h _ fun u hu => by omega) (fun p hp => h _ fun u hu => by omega)
theorem Eth.thk {f : Nat → Int32} (h : Eth nt q r) : thk f q nt = thk f r nt := by
  funext j
  by_cases g : ∃ t, t < nt ∧ j = 14 + 6 * t + 2
  · obtain ⟨t, ht, rfl⟩ := g
    rw [thk_2 nt ht, thk_2 nt ht]
  · have g2 : ∀ t, t < nt → j ≠ 14 + 6 * t + 2 := fun t ht e => g ⟨t, ht, e⟩
    rw [thk_o nt g2, thk_o nt g2]
    exact h j g2
theorem thk_eth {f : Nat → Int32} {k : Nat} (hk : k ≤ nt) : Eth nt (thk f q k) q := fun j h => thk_o k fun t ht => h t (by omega)
theorem thk_e {f g : Nat → Int32} : ∀ k, (∀ t, t < k → f t = g t) → thk f q k = thk g q k := by
  intro k
  induction k with
  | zero => exact fun _ => rfl
  | succ k ih =>
    intro h
    show put1 (thk f q k) _ (f k) = put1 (thk g q k) _ (g k)
    rw [ih fun t ht => h t (by omega), h k (Nat.lt_succ_self k)]
theorem fall_eth (f : Nat) : Eth nt (sFall nt f q) q := fun j h => sFall_o f q j h
theorem Eth.to {p : Nat → Int32} (h : Eth nt q r) (g : Eth nt p q) : Eth nt p r := fun j hj => (g j hj).trans (h j hj)
/-- what is left with a set painted, as the class has it -/
def sLp2 (r : Nat → Int32) (B D : Nat → Int32) (nt k : Nat) : Int32 := sThick (sFall nt 8 (thk (fun t => if k.testBit t = true then D t else B t) r nt)) nt
theorem left_days {n k : Nat} {B D : Nat → Int32} (hG : Gd nt np r) (hB : ∀ t, t < nt → B t = sDays (-1) nt np (n + 1) (alo 0 r nt) (14 + 6 * t + 2)) (hD : ∀ t, t < nt → D t = sDays (-1) nt np (n + 1) (alo (2 ^ nt - 1) r nt) (14 + 6 * t + 2)) : sLp2 r B D nt k = sThick (sDays (-1) nt np (n + 1) (pnt k r nt)) nt := by
  have hV := hG.2.2.1
  have hn8 := hV.1
  have hVp := (pnt_gd hG k nt (Nat.le_refl _)).2.2.1
  have hA : Aln nt (pnt k r nt) (fun t => if k.testBit t = true then alo (2 ^ nt - 1) r nt else alo 0 r nt) := by
    refine ⟨fun t ht u hu => ?_, fun t ht f hf => ?_, fun t j ht hj => ?_⟩
    · show (if k.testBit t = true then alo (2 ^ nt - 1) r nt else alo 0 r nt) _ = _
      split
      · exact alo_5 nt hu
      · exact alo_5 nt hu
    · by_cases e : f = 3
      · subst e
        rw [pnt_3 nt ht]
        show (if k.testBit t = true then alo (2 ^ nt - 1) r nt else alo 0 r nt) _ = _
        split
        · rw [alo_3 nt ht, if_pos]
          rw [Nat.testBit_two_pow_sub_one]
          exact decide_eq_true ht
        · rw [alo_3 nt ht, if_neg]
          rw [Nat.zero_testBit]
          exact Bool.false_ne_true
      · rw [pnt_hi nt fun u hu => by omega]
        show (if k.testBit t = true then alo (2 ^ nt - 1) r nt else alo 0 r nt) _ = _
        split
        · exact alo_o nt fun u hu => ⟨by omega, by omega⟩
        · exact alo_o nt fun u hu => ⟨by omega, by omega⟩
    · rw [pnt_hi nt fun u hu => by omega]
      show (if k.testBit t = true then alo (2 ^ nt - 1) r nt else alo 0 r nt) _ = _
      split
      · exact alo_o nt fun u hu => ⟨by omega, by omega⟩
      · exact alo_o nt fun u hu => ⟨by omega, by omega⟩
  have hVA : ∀ t, t < nt → Vs nt np ((fun t => if k.testBit t = true then alo (2 ^ nt - 1) r nt else alo 0 r nt) t) := fun t ht => by
    show Vs nt np (if k.testBit t = true then alo (2 ^ nt - 1) r nt else alo 0 r nt)
    split
    · exact alo_vs hV _ _ hn8
    · exact alo_vs hV _ _ hn8
  have hal := alone (w := -1) hVp hA hVA n
  have hf : ∀ t, t < nt → (fun t => if k.testBit t = true then D t else B t) t = sDays (-1) nt np (n + 1) ((fun t => if k.testBit t = true then alo (2 ^ nt - 1) r nt else alo 0 r nt) t) (14 + 6 * t + 2) := fun t ht => by
    show (if k.testBit t = true then D t else B t) = sDays (-1) nt np (n + 1) (if k.testBit t = true then alo (2 ^ nt - 1) r nt else alo 0 r nt) _
    split
    · exact hD t ht
    · exact hB t ht
  have hVt : Vs nt np (thk (fun t => if k.testBit t = true then D t else B t) r nt) := (thk_eth (Nat.le_refl _)).vs hV
  have eon : ∀ t, t < nt → thk (fun t => if k.testBit t = true then D t else B t) r nt (14 + 6 * t + 5) = r (14 + 6 * t + 5) := fun t _ => thk_o nt fun u _ => by omega
  have eon2 : ∀ t, t < nt → pnt k r nt (14 + 6 * t + 5) = r (14 + 6 * t + 5) := fun t _ => pnt_hi nt fun u _ => by omega
  have rc : ∀ {q p : Nat → Int32}, Vs nt np q → (∀ t, t < nt → p (14 + 6 * t + 5) = q (14 + 6 * t + 5)) → ∀ {o t : Nat}, t < nt → Rch q o t → Rch p o t := fun {q p} hV e5 {o t} ht g =>
    (g.ind (P := fun x => x < nt → Rch p o x) (fun _ => Rch.self) fun x y hy e f hx => by
      rcases hV.on hx with z | ⟨j, hj, z⟩
      · rw [z] at e; exact absurd e.symm (nn_m1 (by omega))
      · have : y = j := jI_inj (by omega) (by omega) (e.symm.trans z)
        subst this
        exact Rch.step hy ((e5 x hx).trans e) (f hj)) ht
  unfold sLp2 sThick
  refine fo_c nt _ fun t s ht => ?_
  congr 1
  by_cases h : Dn (fun u => sDays (-1) nt np (n + 1) ((fun t => if k.testBit t = true then alo (2 ^ nt - 1) r nt else alo 0 r nt) u) (14 + 6 * u + 2) = 0) (pnt k r nt) nt t
  · rw [(hal t ht).1 h]
    obtain ⟨u, hu, zu, ru⟩ := h
    exact fall_yes hVt ht ⟨u, hu, (thk_2 nt hu).trans ((hf u hu).trans zu), rc hVp (fun t ht => (eon t ht).trans (eon2 t ht).symm) ht ru⟩
  · rw [(hal t ht).2 h, fall_no hVt ht]
    · exact (thk_2 nt ht).trans (hf t ht)
    · rintro ⟨u, hu, zu, ru⟩
      exact h ⟨u, hu, (hf u hu).symm.trans ((thk_2 nt hu).symm.trans zu), rc hVt (fun t ht => (eon2 t ht).trans (eon t ht).symm) ht ru⟩
theorem fo_c2 {α : Type} {f g : Nat → α → α} (n : Nat) (a : α) (h : ∀ k x, k < n → f k x = g k x) : fo f n a = fo g n a := fo_c n a h
/-- the class's choice among sets of a size -/
def sPc (L : Nat → Int32) (m : Int32) (k : Nat) (z : Int32 × Int32) : Int32 × Int32 := if sBits 256 (nI 0) (nI k) = m then (if z.2 < L k then (nI k, L k) else z) else z
theorem max_no (v : Int32) : ¬ nI 2147483647 < v := by
  rw [Int32.lt_iff_toInt_lt, jI_int (by decide)]
  have := Int32.toInt_lt v
  omega
theorem pick_set {L : Nat → Int32} {S : Nat → Int32} {m T : Int32} {F : Nat → Int32 × Int32 → Int32 × Int32} {c : Nat} (hT : Le 8000 T) (hL : ∀ k, k < c → Le 8000 (L k)) (hS : ∀ k, k < c → S k = if sBits 256 (nI 0) (nI k) = m then T - L k else nI 2147483647) (hF : ∀ k z, F k z = (if S k < z.2 then nI k else z.1, mn2 z.2 (S k))) : (fo F c (nI 0, nI 2147483647)).1 = (fo (sPc L m) c (nI 0, -1)).1 := by
  obtain ⟨x, hx, rfl⟩ := hT
  have main : ∀ k, k ≤ c → (fo F k (nI 0, nI 2147483647) = (nI 0, nI 2147483647) ∧ fo (sPc L m) k (nI 0, -1) = (nI 0, -1)) ∨ ((fo F k (nI 0, nI 2147483647)).1 = (fo (sPc L m) k (nI 0, -1)).1 ∧ ∃ y, y ≤ 8000 ∧ (fo (sPc L m) k (nI 0, -1)).2 = nI y ∧ (fo F k (nI 0, nI 2147483647)).2 = nI x - nI y) := by
    intro k
    induction k with
    | zero => exact fun _ => Or.inl ⟨rfl, rfl⟩
    | succ k ih =>
      intro hk
      obtain ⟨l, hl, el⟩ := hL k hk
      have hi := ih (by omega)
      show (F k (fo F k (nI 0, nI 2147483647)) = _ ∧ sPc L m k (fo (sPc L m) k (nI 0, -1)) = _) ∨ ((F k (fo F k (nI 0, nI 2147483647))).1 = (sPc L m k (fo (sPc L m) k (nI 0, -1))).1 ∧ ∃ y, y ≤ 8000 ∧ (sPc L m k (fo (sPc L m) k (nI 0, -1))).2 = nI y ∧ (F k (fo F k (nI 0, nI 2147483647))).2 = nI x - nI y)
      generalize fo F k (nI 0, nI 2147483647) = A at hi ⊢
      generalize fo (sPc L m) k (nI 0, -1) = B at hi ⊢
      rw [hF k A, hS k hk]
      by_cases hb : sBits 256 (nI 0) (nI k) = m
      · rw [if_pos hb, show sPc L m k B = if B.2 < L k then (nI k, L k) else B from if_pos hb, el]
        rcases hi with ⟨rfl, rfl⟩ | ⟨e1, y, hy, e2, e3⟩
        · rw [if_pos (neg1_lt hl), if_pos (cmp_m hx hl), mn2_t (cmp_m hx hl)]
          exact Or.inr ⟨rfl, l, hl, rfl, rfl⟩
        · refine Or.inr ?_
          rw [e2, e3]
          by_cases g : nI y < nI l
          · rw [if_pos g, if_pos ((cmp_k hx hl hy).mpr g), mn2_t ((cmp_k hx hl hy).mpr g)]
            exact ⟨rfl, l, hl, rfl, rfl⟩
          · rw [if_neg g, if_neg (fun z => g ((cmp_k hx hl hy).mp z)), mn2_f (fun z => g ((cmp_k hx hl hy).mp z))]
            exact ⟨e1, y, hy, e2, rfl⟩
      · rw [if_neg hb, show sPc L m k B = B from if_neg hb, if_neg (max_no _), mn2_f (max_no _)]
        exact hi
  rcases main c (Nat.le_refl _) with ⟨e1, e2⟩ | ⟨e, -⟩
  · rw [e1, e2]
  · exact e
theorem thk_id {f : Nat → Int32} (h : ∀ t, t < nt → f t = r (14 + 6 * t + 2)) : ∀ k, k ≤ nt → thk f r k = r := by
  intro k
  induction k with
  | zero => exact fun _ => rfl
  | succ k ih =>
    intro hk
    show put1 (thk f r k) _ (f k) = r
    rw [ih (by omega), h k (by omega)]
    exact put1_e
theorem paint_eq {n : Nat} {m : Int32} {B D : Nat → Int32} (hG : Gd nt np r) (hn : n ≤ 1000) (hB : ∀ t, t < nt → B t = sDays (-1) nt np n (alo 0 r nt) (14 + 6 * t + 2)) (hD : ∀ t, t < nt → D t = sDays (-1) nt np n (alo (2 ^ nt - 1) r nt) (14 + 6 * t + 2)) : (fo (sPt r (-1) nt np n m) (2 ^ nt) (nI 0, 2147483647)).1 = (fo (sPc (sLp2 r B D nt) m) (2 ^ nt) (nI 0, -1)).1 := by
  have hV := hG.2.2.1
  have hn8 := hV.1
  have hT : ∀ k, sThick (pnt k r nt) nt = sThick r nt := fun k => fo_c nt _ fun t s ht => by rw [pnt_hi nt fun u hu => by omega]
  have main : ∃ T, Le 8000 T ∧ ∀ k, k < 2 ^ nt → Le 8000 (sLp2 r B D nt k) ∧ sLp r (-1) nt np n m k = if sBits 256 (nI 0) (nI k) = m then T - sLp2 r B D nt k else nI 2147483647 := by
    cases n with
    | zero =>
      have e1 : ∀ k, sLp2 r B D nt k = sThick (sFall nt 8 r) nt := fun k => by
        unfold sLp2
        rw [thk_id (fun t ht => ?_) nt (Nat.le_refl _)]
        show (if k.testBit t = true then D t else B t) = _
        split
        · exact (hD t ht).trans (alo_o nt fun u hu => ⟨by omega, by omega⟩)
        · exact (hB t ht).trans (alo_o nt fun u hu => ⟨by omega, by omega⟩)
      have l1 : Le 8000 (sThick (sFall nt 8 r) nt) := by
        obtain ⟨k, hk, e⟩ := thick_le (r := sFall nt 8 r) nt (sFall_le 8 r fun t ht => (hG.2.2.2.2.2.1 t ht).2.1)
        exact ⟨k, by omega, e⟩
      refine ⟨_, l1, fun k _ => ⟨by rw [e1]; exact l1, ?_⟩⟩
      unfold sLp
      rw [e1, Int32.sub_self]
      rw [show sThick (pnt k r nt) nt - sThick (sDays (-1) nt np 0 (pnt k r nt)) nt = 0 from Int32.sub_self _]
    | succ n =>
      refine ⟨sThick r nt, thick_le8 hG, fun k _ => ?_⟩
      have e := left_days (k := k) hG hB hD
      refine ⟨by rw [e]; exact lost_le (pnt_gd hG k nt (Nat.le_refl _)) hn, ?_⟩
      unfold sLp
      rw [e, hT]
  obtain ⟨T, lT, h⟩ := main
  exact pick_set (S := sLp r (-1) nt np n m) lT (fun k hk => (h k hk).1) (fun k hk => (h k hk).2) (fun k z => rfl)
end PT
section EZ
variable {X : mSc} {Q : Option Value → mHp → Prop} {M : mM} {nt np : Nat} {r : Nat → Int32}
theorem g42t (hR : Rel 1 nt np M r) (hn8 : nt ≤ 8) (hp8 : np ≤ 8) (hc : M 1 7 = -1) : ∃ M', mT X 42 [.ref 0] (con M) none (con M') ∧ Rel 35 nt np M' r ∧ M' 35 7 = -1 ∧ ∀ a, (a < 35 ∨ 51 < a) → M' a = M a := by
  refine tv_of (row := _) rfl (Nat.le_of_ble_eq_true rfl) ?_
  have hm : mMet 42 = some _ := rfl
  refine x_aload_n hm rfl rfl ?_
  refine x_getf hm rfl (gR rfl rfl) ?_
  refine x_aload_n hm rfl rfl ?_
  refine x_getf hm rfl (gR rfl rfl) ?_
  refine x_cVv hm rfl rfl (g43 (b := 35) (o := 1) (by decide) (by decide) (by decide)) (fun M1 r1 => ?_)
  refine x_ret hm rfl rfl ?_
  exact ⟨_, rfl, rfl, r1.rel hR hn8 hp8, r1.2.2.2.2.2.2.2.2.trans hc, fun a ha => r1.1 a ha⟩
/-- a trial, and what was worn alone in i -/
def Wr (i : Nat) (M M1 : mM) : Prop := ∀ a, (a < 35 ∨ 51 < a) → a ≠ i → M1 a = M a
theorem gv56l {s a i : Nat} (hV : Vs nt np r) (hs : s < 256) (ha : a ≤ 1000) (hi : i = 56 ∨ i = 57) {M0 : mM} : ∀ (n k : Nat) (M1 : mM), nt - k < n → k ≤ nt → Tc 35 nt np (alo s r k) M M1 → Wr i M0 M → M 35 7 = -1 → mEv X (QV (fun M' => (∀ x, x < nt → M' i x = sDays (-1) nt np a (alo s r nt) (14 + 6 * x + 2)) ∧ Wr i M0 M')) 56 7 [some (.ref 0), some (.int (nI s)), some (.int (nI a)), some (.ref i), some (.int (nI k))] [] (con M1) := by
  have hm : mMet 56 = some _ := rfl
  intro n
  induction n with
  | zero =>
    intro k M1 hkn hkb hT hw0 h70
    omega
  | succ n ih =>
    intro k M1 hkn hkb hT hw0 h70
    have hn8 := hV.1
    have hn1 : M1 35 3 = nI nt := hT.1.1
    have h7 := hT.2.1.trans h70
    refine x_iload hm rfl rfl ?_
    refine x_aload_n hm rfl rfl ?_
    refine x_getf hm rfl (gR rfl rfl) ?_
    refine x_getf hm rfl (gI rfl rfl) ?_
    rw [hn1]
    refine x_icmp_ge hm rfl (t := 61) rfl (fun h1 => ?_) (fun h1 => ?_)
    · obtain rfl : k = nt := Nat.le_antisymm hkb ((jI_le (by omega) (by omega)).mp h1)
      refine x_aload_n hm rfl rfl ?_
      refine x_getf hm rfl (gR rfl rfl) ?_
      refine x_iload_n hm rfl rfl ?_
      refine x_cVv hm rfl rfl (e30 (by decide) hT.1 (alo_vs hV s _ hn8) ha) (fun M2 r2 => ?_)
      rw [h7] at r2
      refine x_aload_n hm rfl rfl ?_
      refine x_getf hm rfl (gR rfl rfl) ?_
      refine x_getf hm rfl (gR rfl rfl) ?_
      refine x_iconst hm rfl (v := nI 2) (by decide) ?_
      refine x_aald hm rfl (lQ _ (by decide) rfl rfl (by omega) (by decide)) ?_
      refine x_iconst hm rfl (v := nI 0) (by decide) ?_
      refine x_aload_n hm rfl rfl ?_
      refine x_iconst hm rfl (v := nI 0) (by decide) ?_
      refine x_bipush hm rfl (v := nI 8) (by decide) ?_
      refine x_lib hm rfl (acp_call rfl (wearSp hi) (by decide) (by decide) ⟨by decide, by decide⟩ rfl) ?_
      dsimp only
      refine x_ret hm rfl rfl ?_
      refine ⟨_, rfl, rfl, fun x hx => ?_, fun b hb hbi => ?_⟩
      · rw [acp_row (by omega)]
        exact r2.1.thick hx
      · rw [acp_o hbi, r2.2.2 b hb, hT.2.2 b hb]
        exact hw0 b hb hbi
    · have hk : k < nt := Nat.lt_of_not_le fun h => h1 (nI_le h (by omega))
      refine x_aload_n hm rfl rfl ?_
      refine x_getf hm rfl (gR rfl rfl) ?_
      refine x_getf hm rfl (gR rfl rfl) ?_
      refine x_iconst hm rfl (v := nI 5) (by decide) ?_
      refine x_aald hm rfl (lQ _ (by decide) rfl rfl (by omega) (by decide)) ?_
      refine x_iload hm rfl rfl ?_
      refine x_iconst hm rfl (v := (-1 : Int32)) (by decide) ?_
      refine x_iast hm rfl (sI rfl (by omega) (by decide)) ?_
      have hT2 := hT.pi (f := 5) (v := -1) hn8 (by decide) hk
      refine x_iload_n hm rfl rfl ?_
      refine x_iload hm rfl rfl ?_
      refine x_callS hm rfl rfl (g21 hs (by omega)) ?_
      refine x_if_eq hm rfl (t := 55) rfl (fun h3 => ?_) (fun h3 => ?_)
      · have hT3 : Tc 35 nt np (alo s r (k + 1)) M (mput M1 (35 + 2 + 5) k (-1)) := by
          rw [show alo s r (k + 1) = put1 (alo s r k) (14 + 6 * k + 5) (-1) from if_neg (bI_eq0.mp h3)]
          exact hT2
        refine x_iinc hm rfl rfl (v := nI 1) (by decide) rfl ?_
        rw [jI_add]
        refine x_goto hm rfl (t := 7) rfl ?_
        exact ih _ _ (by omega) (by omega) hT3 hw0 h70
      · refine x_aload_n hm rfl rfl ?_
        refine x_getf hm rfl (gR rfl rfl) ?_
        refine x_getf hm rfl (gR rfl rfl) ?_
        refine x_iconst hm rfl (v := nI 3) (by decide) ?_
        refine x_aald hm rfl (lQ _ (by decide) rfl rfl (by omega) (by decide)) ?_
        refine x_iload hm rfl rfl ?_
        refine x_bipush hm rfl (v := nI 9) (by decide) ?_
        refine x_iast hm rfl (sI rfl (by omega) (by decide)) ?_
        have hT3 : Tc 35 nt np (alo s r (k + 1)) M (mput (mput M1 (35 + 2 + 5) k (-1)) (35 + 2 + 3) k (nI 9)) := by
          rw [show alo s r (k + 1) = put1 (put1 (alo s r k) (14 + 6 * k + 5) (-1)) (14 + 6 * k + 3) (nI 9) from if_pos (bI_ne0 (by assumption))]
          exact hT2.pi (f := 3) (v := nI 9) hn8 (by decide) hk
        refine x_iinc hm rfl rfl (v := nI 1) (by decide) rfl ?_
        rw [jI_add]
        refine x_goto hm rfl (t := 7) rfl ?_
        exact ih _ _ (by omega) (by omega) hT3 hw0 h70
theorem gv56 {s a i : Nat} (hR : Rel 1 nt np M r) (hV : Vs nt np r) (hc : M 1 7 = -1) (hs : s < 256) (ha : a ≤ 1000) (hi : i = 56 ∨ i = 57) : ∃ M', mT X 56 [.ref 0, .int (nI s), .int (nI a), .ref i] (con M) none (con M') ∧ (∀ x, x < nt → M' i x = sDays (-1) nt np a (alo s r nt) (14 + 6 * x + 2)) ∧ Wr i M M' := by
  refine tv_of (row := _) rfl (Nat.le_of_ble_eq_true rfl) ?_
  have hm : mMet 56 = some _ := rfl
  refine x_aload_n hm rfl rfl ?_
  refine x_cVv hm rfl rfl (g42t hR hV.1 hV.2.1 hc) (fun M1 r1 => ?_)
  refine x_iconst hm rfl (v := nI 0) (by decide) ?_
  refine x_istore hm rfl rfl ?_
  exact gv56l hV hs ha hi _ 0 _ (Nat.lt_succ_self _) (Nat.zero_le _) r1.1.tc (fun b hb _ => r1.2.2 b hb) r1.2.1
theorem ev_i58 {m pc : Nat} {L : mLoc} {st : List Value} {D : mHp} {P P2 : Int32 → mM → Prop} (h : mEv X (QI P) m pc L st D) (g : ∀ v M', P v M' → P2 v M') : mEv X (QI P2) m pc L st D := ev_mono h fun r D' ⟨v, M2, g1, g2, g3⟩ => ⟨v, M2, g1, g2, g v M2 g3⟩
theorem gv58l {s : Nat} {q : Nat → Int32} (hV : Vs nt np q) (hs : s < 256) : ∀ (n k : Nat) (M1 : mM), nt - k < n → k ≤ nt → Tc 35 nt np (thk (fun t => if s.testBit t = true then M 57 t else M 56 t) q k) M M1 → mEv X (QI (fun v M' => v = sThick (sFall nt 8 (thk (fun t => if s.testBit t = true then M 57 t else M 56 t) q nt)) nt ∧ Tc 35 nt np (sFall nt 8 (thk (fun t => if s.testBit t = true then M 57 t else M 56 t) q nt)) M M')) 58 2 [some (.ref 0), some (.int (nI s)), some (.int (nI k))] [] (con M1) := by
  have hm : mMet 58 = some _ := rfl
  intro n
  induction n with
  | zero =>
    intro k M1 hkn hkb hT
    omega
  | succ n ih =>
    intro k M1 hkn hkb hT
    have hn8 := hV.1
    have hn1 : M1 35 3 = nI nt := hT.1.1
    have e56 : M1 56 = M 56 := hT.2.2 56 (by decide)
    have e57 : M1 57 = M 57 := hT.2.2 57 (by decide)
    refine x_iload_n hm rfl rfl ?_
    refine x_aload_n hm rfl rfl ?_
    refine x_getf hm rfl (gR rfl rfl) ?_
    refine x_getf hm rfl (gI rfl rfl) ?_
    rw [hn1]
    refine x_icmp_ge hm rfl (t := 53) rfl (fun h1 => ?_) (fun h1 => ?_)
    · obtain rfl : k = nt := Nat.le_antisymm hkb ((jI_le (by omega) (by omega)).mp h1)
      refine x_aload_n hm rfl rfl ?_
      refine x_getf hm rfl (gR rfl rfl) ?_
      refine x_cVv hm rfl rfl (e31 (by decide) hT.1 ((thk_eth (Nat.le_refl _)).vs hV)) (fun M2 r2 => ?_)
      have hr57 := r2
      refine x_aload_n hm rfl rfl ?_
      refine x_getf hm rfl (gR rfl rfl) ?_
      refine x_callV hm rfl rfl (e38 (by decide) hr57.1 (((thk_eth (Nat.le_refl _)).to (fall_eth 8)).vs hV)) ?_
      refine x_iret hm rfl rfl (by first | rfl | exact bI_nar | decide) ?_
      exact ⟨_, _, rfl, rfl, rfl, hT.to hr57⟩
    · have hk : k < nt := Nat.lt_of_not_le fun h => h1 (nI_le h (by omega))
      refine x_aload_n hm rfl rfl ?_
      refine x_getf hm rfl (gR rfl rfl) ?_
      refine x_getf hm rfl (gR rfl rfl) ?_
      refine x_iconst hm rfl (v := nI 2) (by decide) ?_
      refine x_aald hm rfl (lQ _ (by decide) rfl rfl (by omega) (by decide)) ?_
      refine x_iload_n hm rfl rfl ?_
      refine x_iload_n hm rfl rfl ?_
      refine x_iload_n hm rfl rfl ?_
      refine x_callS hm rfl rfl (g21 hs (by omega)) ?_
      refine x_if_eq hm rfl (t := 40) rfl (fun h3 => ?_) (fun h3 => ?_)
      · have hv : M1 56 k = (fun t => if s.testBit t = true then M 57 t else M 56 t) k := by
          rw [e56]; exact (if_neg (bI_eq0.mp h3)).symm
        refine x_aload_n hm rfl rfl ?_
        refine x_getf hm rfl (gR rfl rfl) ?_
        refine x_iload_n hm rfl rfl ?_
        refine x_iald hm rfl (lI rfl (by omega) (by decide)) ?_
        refine x_iast hm rfl (sI rfl (by omega) (by decide)) ?_
        have hT2 : Tc 35 nt np (thk (fun t => if s.testBit t = true then M 57 t else M 56 t) q (k + 1)) M _ := hT.pi (f := 2) (v := (fun t => if s.testBit t = true then M 57 t else M 56 t) k) hn8 (by decide) hk
        rw [← hv] at hT2
        refine x_iinc hm rfl rfl (v := nI 1) (by decide) rfl ?_
        rw [jI_add]
        refine x_goto hm rfl (t := 2) rfl ?_
        exact ih _ _ (by omega) (by omega) hT2
      · have hv : M1 57 k = (fun t => if s.testBit t = true then M 57 t else M 56 t) k := by
          rw [e57]; exact (if_pos (bI_ne0 h3)).symm
        refine x_aload_n hm rfl rfl ?_
        refine x_getf hm rfl (gR rfl rfl) ?_
        refine x_iload_n hm rfl rfl ?_
        refine x_iald hm rfl (lI rfl (by omega) (by decide)) ?_
        refine x_goto hm rfl (t := 46) rfl ?_
        refine x_iast hm rfl (sI rfl (by omega) (by decide)) ?_
        have hT2 : Tc 35 nt np (thk (fun t => if s.testBit t = true then M 57 t else M 56 t) q (k + 1)) M _ := hT.pi (f := 2) (v := (fun t => if s.testBit t = true then M 57 t else M 56 t) k) hn8 (by decide) hk
        rw [← hv] at hT2
        refine x_iinc hm rfl rfl (v := nI 1) (by decide) rfl ?_
        rw [jI_add]
        refine x_goto hm rfl (t := 2) rfl ?_
        exact ih _ _ (by omega) (by omega) hT2
theorem gv58 {s : Nat} {q : Nat → Int32} (hq : Rel 35 nt np M q) (hV : Vs nt np q) (hs : s < 256) : ∃ v M', mT X 58 [.ref 0, .int (nI s)] (con M) (some (.int v)) (con M') ∧ v = sThick (sFall nt 8 (thk (fun t => if s.testBit t = true then M 57 t else M 56 t) q nt)) nt ∧ Tc 35 nt np (sFall nt 8 (thk (fun t => if s.testBit t = true then M 57 t else M 56 t) q nt)) M M' := by
  refine ti_of (row := _) rfl (Nat.le_of_ble_eq_true rfl) ?_
  have hm : mMet 58 = some _ := rfl
  refine x_iconst hm rfl (v := nI 0) (by decide) ?_
  refine x_istore_n hm rfl rfl ?_
  exact gv58l hV hs _ 0 _ (Nat.lt_succ_self _) (Nat.zero_le _) hq.tc
theorem all_sub (hn8 : nt ≤ 8) : nI (2 ^ nt) - nI 1 = nI (2 ^ nt - 1) := by
  have hp1 : 1 ≤ 2 ^ nt := Nat.pos_of_ne_zero (by simp)
  have e : 2 ^ nt = (2 ^ nt - 1) + 1 := by omega
  rw [e, ← jI_add (2 ^ nt - 1) 1, Int32.add_sub_cancel]
  rfl
theorem gv55l {c m : Int32} {a : Nat} (hR : Rel 1 nt np M r) (hV : Vs nt np r) : ∀ (n k : Nat) (b g : Int32) (x7 : Option Value) (M1 : mM) (q : Nat → Int32), 2 ^ nt - k < n → k ≤ 2 ^ nt → Tc 35 nt np q M M1 → Eth nt q r → (b, g) = fo (sPc (sLp2 r (M 56) (M 57) nt) m) k (nI 0, -1) → mEv X (QI (fun v _ => v = (fo (sPc (sLp2 r (M 56) (M 57) nt) m) (2 ^ nt) (nI 0, -1)).1)) 55 78 [some (.ref 0), some (.int c), some (.int (nI a)), some (.int m), some (.int b), some (.int g), some (.int (nI k)), x7] [] (con M1) := by
  have hm : mMet 55 = some _ := rfl
  intro n
  induction n with
  | zero =>
    intro k b g x7 M1 q hkn hkb hT he hz
    omega
  | succ n ih =>
    intro k b g x7 M1 q hkn hkb hT he hz
    have hn8 := hV.1
    have hpw := pow_k hn8
    have hp1 : 1 ≤ 2 ^ nt := Nat.pos_of_ne_zero (by simp)
    have hn1 : M1 1 3 = nI nt := by rw [hT.2.2 1 (by decide)]; exact hR.1
    have e56 : M1 56 = M 56 := hT.2.2 56 (by decide)
    have e57 : M1 57 = M 57 := hT.2.2 57 (by decide)
    refine x_iload hm rfl rfl ?_
    refine x_aload_n hm rfl rfl ?_
    refine x_getf hm rfl (gR rfl rfl) ?_
    refine x_callV hm rfl rfl (t57 (by decide) hn1 hn8) ?_
    rw [all_sub hn8]
    refine x_icmp_gt hm rfl (t := 128) rfl (fun h1 => ?_) (fun h1 => ?_)
    · obtain rfl : k = 2 ^ nt := by
        have := (jI_lt (by omega) (by omega)).mp h1
        omega
      refine x_iload hm rfl rfl ?_
      refine x_iret hm rfl rfl (by first | rfl | exact bI_nar | decide) ?_
      exact ⟨_, _, rfl, rfl, congrArg Prod.fst hz⟩
    · have hk : k ≤ 2 ^ nt - 1 := Nat.le_of_not_lt fun h => h1 (nI_lt h (by omega))
      refine x_iload hm rfl rfl ?_
      refine x_callS hm rfl rfl (g36 (by omega)) ?_
      refine x_iload_n hm rfl rfl ?_
      refine x_icmp_ne hm rfl (t := 122) rfl (fun h2 => ?_) (fun h2 => ?_)
      · have hz2 : (b, g) = fo (sPc (sLp2 r (M 56) (M 57) nt) m) (k + 1) (nI 0, -1) := by
          rw [hz]; exact (if_neg h2).symm
        have hT3 := hT
        have he3 := he
        refine x_iinc hm rfl rfl (v := nI 1) (by decide) rfl ?_
        rw [jI_add]
        refine x_goto hm rfl (t := 78) rfl ?_
        exact ih _ _ _ _ _ _ (by omega) (by omega) hT3 he3 hz2
      · have hb := h2
        refine x_aload_n hm rfl rfl ?_
        refine x_iload hm rfl rfl ?_
        refine x_cVi hm rfl rfl (gv58 hT.1 (he.vs hV) (by omega)) (fun v3 M3 r3 => ?_)
        obtain ⟨hv, hr102⟩ := r3
        rw [e56, e57, he.thk] at hv hr102
        have hT3 := hT.to hr102
        have he3 := (thk_eth (q := r) (f := fun t => if k.testBit t = true then M 57 t else M 56 t) (Nat.le_refl nt)).to (fall_eth 8)
        have hv2 : v3 = sLp2 r (M 56) (M 57) nt k := hv
        refine x_istore hm rfl rfl ?_
        refine x_iload hm rfl rfl ?_
        refine x_iload hm rfl rfl ?_
        refine x_icmp_le hm rfl (t := 122) rfl (fun h4 => ?_) (fun h4 => ?_)
        · have hz2 : (b, g) = fo (sPc (sLp2 r (M 56) (M 57) nt) m) (k + 1) (nI 0, -1) := by
            rw [hz]
            refine Eq.trans ?_ (if_pos hb).symm
            refine (if_neg ?_).symm
            rw [← hz, ← hv2]
            exact Int32.not_lt.mpr h4
          refine x_iinc hm rfl rfl (v := nI 1) (by decide) rfl ?_
          rw [jI_add]
          refine x_goto hm rfl (t := 78) rfl ?_
          exact ih _ _ _ _ _ _ (by omega) (by omega) hT3 he3 hz2
        · have hz2 : (nI k, v3) = fo (sPc (sLp2 r (M 56) (M 57) nt) m) (k + 1) (nI 0, -1) := by
            refine Eq.trans ?_ (if_pos hb).symm
            rw [hv2]
            refine (if_pos ?_).symm
            rw [← hz, ← hv2]
            exact Int32.not_le.mp h4
          refine x_iload hm rfl rfl ?_
          refine x_istore hm rfl rfl ?_
          refine x_iload hm rfl rfl ?_
          refine x_istore hm rfl rfl ?_
          refine x_iinc hm rfl rfl (v := nI 1) (by decide) rfl ?_
          rw [jI_add]
          refine x_goto hm rfl (t := 78) rfl ?_
          exact ih _ _ _ _ _ _ (by omega) (by omega) hT3 he3 hz2
theorem gv55 {a1 a2 : Int32} (hR : Rel 1 nt np M r) (hG : Gd nt np r) (hc : M 1 7 = -1) : ∃ v M', mT X 55 [.ref 0, .int a1, .int a2] (con M) (some (.int v)) (con M') ∧ v = (qPaint r nt np a1 a2).1 := by
  refine ti_of (row := _) rfl (Nat.le_of_ble_eq_true rfl) ?_
  have hm : mMet 55 = some _ := rfl
  have hV := hG.2.2.1
  have hn8 := hV.1
  have hp8 := hV.2.1
  refine x_iload_n hm rfl rfl ?_
  refine x_iconst hm rfl (v := nI 0) (by decide) ?_
  refine x_bipush hm rfl (v := nI 8) (by decide) ?_
  refine x_callS hm rfl rfl (t6) ?_
  refine x_if_eq hm rfl (t := 20) rfl (fun h1 => ?_) (fun h1 => ?_)
  · refine x_aload_n hm rfl rfl ?_
    refine x_ldcI hm rfl (v := (-1000001 : Int32)) (by decide +kernel) ?_
    refine x_cVi hm rfl rfl (t7 (by decide +kernel)) (fun v2 M2 r2 => ?_)
    refine x_iret hm rfl rfl (by first | rfl | exact bI_nar | decide) ?_
    first
      | (have hq : qPaint r nt np a1 a2 = (-1000001, true) := by
           unfold qPaint
           rw [if_pos (by assumption)]
         exact ⟨_, _, rfl, rfl, r2.1.trans (fst_q hq)⟩)
      | (have hq : qPaint r nt np a1 a2 = (-1000001, true) := by
           unfold qPaint
           rw [if_neg (by assumption), if_pos (by assumption)]
         exact ⟨_, _, rfl, rfl, r2.1.trans (fst_q hq)⟩)
  · refine x_iload_n hm rfl rfl ?_
    refine x_iconst hm rfl (v := nI 0) (by decide) ?_
    refine x_bipush hm rfl (v := nI 60) (by decide) ?_
    refine x_callS hm rfl rfl (t6) ?_
    refine x_if_ne hm rfl (t := 27) rfl (fun h3 => ?_) (fun h3 => ?_)
    · obtain ⟨a, ha, rfl⟩ := le_k (by omega) (bI_ne0 h3)
      refine x_iload_n hm rfl rfl ?_
      refine x_aload_n hm rfl rfl ?_
      refine x_getf hm rfl (gR rfl rfl) ?_
      refine x_getf hm rfl (gI rfl rfl) ?_
      rw [hR.1]
      refine x_lib hm rfl rfl ?_
      dsimp only
      refine x_istore_n hm rfl rfl ?_
      refine x_aload_n hm rfl rfl ?_
      refine x_iconst hm rfl (v := nI 0) (by decide) ?_
      refine x_iload_n hm rfl rfl ?_
      refine x_aload_n hm rfl rfl ?_
      refine x_getf hm rfl (gR rfl rfl) ?_
      refine x_cVv hm rfl rfl (gv56 (s := 0) hR hV hc (by decide) (by omega) (Or.inl rfl)) (fun M4 r4 => ?_)
      have hw1 := r4
      have hR1 : Rel 1 nt np M4 r := hR.fr fun b _ hb => hw1.2 b (by omega) (by omega)
      have hc1 : M4 1 7 = -1 := by rw [hw1.2 1 (by decide) (by decide)]; exact hc
      refine x_aload_n hm rfl rfl ?_
      refine x_aload_n hm rfl rfl ?_
      refine x_getf hm rfl (gR rfl rfl) ?_
      refine x_callV hm rfl rfl (t57 (by decide) hR1.1 hn8) ?_
      rw [all_sub hn8]
      refine x_iload_n hm rfl rfl ?_
      refine x_aload_n hm rfl rfl ?_
      refine x_getf hm rfl (gR rfl rfl) ?_
      refine x_cVv hm rfl rfl (gv56 (s := 2 ^ nt - 1) hR1 hV hc1 (by have := pow_k hn8; omega) (by omega) (Or.inr rfl)) (fun M5 r5 => ?_)
      have hw2 := r5
      have hR2 : Rel 1 nt np M5 r := hR1.fr fun b _ hb => hw2.2 b (by omega) (by omega)
      have hc2 : M5 1 7 = -1 := by rw [hw2.2 1 (by decide) (by decide)]; exact hc1
      refine x_aload_n hm rfl rfl ?_
      refine x_cVv hm rfl rfl (g42t hR2 hn8 hp8 hc2) (fun M6 r6 => ?_)
      have hw3 := r6
      refine x_iconst hm rfl (v := nI 0) (by decide) ?_
      refine x_istore hm rfl rfl ?_
      refine x_iconst hm rfl (v := (-1 : Int32)) (by decide) ?_
      refine x_istore hm rfl rfl ?_
      refine x_iconst hm rfl (v := nI 0) (by decide) ?_
      refine x_istore hm rfl rfl ?_
      have hq : qPaint r nt np a1 (nI a) = ((fo (sPt r (-1) nt np a (mn2 a1 (nI nt))) (2 ^ nt) (nI 0, 2147483647)).1, false) := by
        unfold qPaint
        rw [if_neg (by assumption), if_neg (by assumption), jI_nat (k := a) (by omega)]
      rw [hq]
      have hR3 : Rel 1 nt np M6 r := hR2.fr fun b _ hb => hw3.2.2 b (by omega)
      refine ev_i58 (gv55l hR3 hV _ 0 _ _ _ _ r (Nat.lt_succ_self _) (Nat.zero_le _) hw3.1.tc (fun _ _ => rfl) rfl) (fun v M' h => h.trans ?_)
      refine (paint_eq hG (by omega) (fun t ht => ?_) (fun t ht => ?_)).symm
      · rw [hw3.2.2 56 (by decide), hw2.2 56 (by decide) (by decide)]
        exact hw1.1 t ht
      · rw [hw3.2.2 57 (by decide)]
        exact hw2.1 t ht
    · refine x_aload_n hm rfl rfl ?_
      refine x_ldcI hm rfl (v := (-1000001 : Int32)) (by decide +kernel) ?_
      refine x_cVi hm rfl rfl (t7 (by decide +kernel)) (fun v7 M7 r7 => ?_)
      refine x_iret hm rfl rfl (by first | rfl | exact bI_nar | decide) ?_
      first
        | (have hq : qPaint r nt np a1 a2 = (-1000001, true) := by
             unfold qPaint
             rw [if_pos (by assumption)]
           exact ⟨_, _, rfl, rfl, r7.1.trans (fst_q hq)⟩)
        | (have hq : qPaint r nt np a1 a2 = (-1000001, true) := by
             unfold qPaint
             rw [if_neg (by assumption), if_pos (by assumption)]
           exact ⟨_, _, rfl, rfl, r7.1.trans (fst_q hq)⟩)
theorem j_paint {a1 a2 : Int32} (hJ : J M) : JJ X 55 189 [.ref 0, .int a1, .int a2] [.ref 66, .int a1, .int a2] M Eq := hJ.asq (F := fun r nt np => qPaint r nt np a1 a2) (t55 hJ.1.1) (fun nt np hR g h7 => gv55 hR g h7) (fun M1 nt np j g => e189 j.1.1 g.1 g.2.2.1.1 g.2.1 g.2.2.1.2.1 j.2.2.2.2.2.2)
end EZ
end
