section
/-! ===== what asking what will be rests on: pure facts ===== -/
section PQ
variable {nt np : Nat} {r q : Nat → Int32} {w : Int32}
/-- alike but for the day -/
def Eq0 (q r : Nat → Int32) : Prop := ∀ j, j ≠ 0 → q j = r j
theorem Eq0.eq (h : Eq0 q r) : q = put1 r 0 (q 0) := by
  funext j
  by_cases e : j = 0
  · subst e; exact put1_s.symm
  · rw [put1_o e]; exact h j e
theorem sEnv_0 {v o : Int32} {p t : Nat} : sEnv (put1 r 0 v) w o p t = sEnv r w o p t := by
  unfold sEnv sPl sRi sPl
  simp (disch := omega) only [put1_o]
theorem sWs_0 {v : Int32} {t : Nat} : ∀ k, sWs (put1 r 0 v) w t k = sWs r w t k := by
  intro k
  unfold sWs
  refine fo_c k _ fun p s _ => ?_
  simp (disch := omega) only [put1_o, sEnv_0]
theorem sWear_0 {v : Int32} {t : Nat} : sWear (put1 r 0 v) w np t = sWear r w np t := by
  unfold sWear
  rw [sWs_0, put1_o (by omega)]
theorem Eq0.put (h : Eq0 q r) {i : Nat} {v v' : Int32} (e : v = v') : Eq0 (put1 q i v) (put1 r i v') := by
  intro j hj
  subst e
  by_cases g : j = i
  · subst g; rw [put1_s, put1_s]
  · rw [put1_o g, put1_o g]; exact h j hj
theorem Eq0.worn (h : Eq0 q r) : ∀ n, Eq0 (sWorn q w np n q) (sWorn r w np n r) := by
  intro n
  induction n with
  | zero => exact h
  | succ n ih =>
    refine ih.put ?_
    have e := ih (14 + 6 * n + 2) (by omega)
    have e2 : sWear q w np n = sWear r w np n := by
      rw [h.eq]
      exact sWear_0
    show sWorn q w np n q (14 + 6 * n + 2) - sWear q w np n = sWorn r w np n r (14 + 6 * n + 2) - sWear r w np n
    rw [e, e2]
theorem Eq0.fp1 {s : Int32} (h : Eq0 q r) (t : Nat) : Eq0 (sFp1 t (q, s)).1 (sFp1 t (r, s)).1 ∧ (sFp1 t (q, s)).2 = (sFp1 t (r, s)).2 := by
  have e2 := h (14 + 6 * t + 2) (by omega)
  have e5 := h (14 + 6 * t + 5) (by omega)
  have e6 := h (14 + 6 * (r (14 + 6 * t + 5)).toNatClampNeg + 2) (by omega)
  by_cases g : ¬ r (14 + 6 * t + 2) = 0 ∧ ¬ r (14 + 6 * t + 5) < 0 ∧ r (14 + 6 * (r (14 + 6 * t + 5)).toNatClampNeg + 2) = 0
  · have g' : ¬ q (14 + 6 * t + 2) = 0 ∧ ¬ q (14 + 6 * t + 5) < 0 ∧ q (14 + 6 * (q (14 + 6 * t + 5)).toNatClampNeg + 2) = 0 := by rw [e2, e5, e6]; exact g
    rw [show sFp1 t (q, s) = (put1 q (14 + 6 * t + 2) (nI 0), nI 1) from if_pos g', show sFp1 t (r, s) = (put1 r (14 + 6 * t + 2) (nI 0), nI 1) from if_pos g]
    exact ⟨h.put rfl, rfl⟩
  · have g' : ¬ (¬ q (14 + 6 * t + 2) = 0 ∧ ¬ q (14 + 6 * t + 5) < 0 ∧ q (14 + 6 * (q (14 + 6 * t + 5)).toNatClampNeg + 2) = 0) := by rw [e2, e5, e6]; exact g
    rw [show sFp1 t (q, s) = (q, s) from if_neg g', show sFp1 t (r, s) = (r, s) from if_neg g]
    exact ⟨h, rfl⟩
theorem Eq0.fp (h : Eq0 q r) : ∀ n, Eq0 (sFp n q).1 (sFp n r).1 ∧ (sFp n q).2 = (sFp n r).2 := by
  intro n
  induction n with
  | zero => exact ⟨h, rfl⟩
  | succ n ih =>
    have e := ih.1.fp1 (s := (sFp n q).2) n
    rw [show ((sFp n r).1, (sFp n q).2) = sFp n r by rw [ih.2]] at e
    exact e
theorem Eq0.fall {n : Nat} : ∀ (f : Nat) {q r : Nat → Int32}, Eq0 q r → Eq0 (sFall n f q) (sFall n f r) := by
  intro f
  induction f with
  | zero => exact fun h => h
  | succ f ih =>
    intro q r h
    obtain ⟨h1, h2⟩ := h.fp n
    by_cases g : (sFp n r).2 = nI 0
    · rw [show sFall n (f + 1) q = (sFp n q).1 from if_pos (h2.trans g), show sFall n (f + 1) r = (sFp n r).1 from if_pos g]
      exact h1
    · rw [show sFall n (f + 1) q = sFall n f (sFp n q).1 from if_neg (fun e => g (h2.symm.trans e)), show sFall n (f + 1) r = sFall n f (sFp n r).1 from if_neg g]
      exact ih h1
theorem Eq0.go (h : Eq0 q r) : ∀ n, Eq0 (sGo n q) (sGo n r) := by
  intro n
  induction n with
  | zero => exact h
  | succ n ih =>
    refine ih.put ?_
    have e := ih (62 + 7 * n + 1) (by omega)
    have e2 := ih (62 + 7 * n + 2) (by omega)
    show rem16 (sGo n q (62 + 7 * n + 1) + sGo n q (62 + 7 * n + 2)) = rem16 (sGo n r (62 + 7 * n + 1) + sGo n r (62 + 7 * n + 2))
    rw [e, e2]
theorem Eq0.day (h : Eq0 q r) : Eq0 (sDay w nt np q) (sDay w nt np r) := by
  intro j hj
  show put1 _ 0 _ j = put1 _ 0 _ j
  rw [put1_o hj, put1_o hj]
  exact (Eq0.fall 8 (h.worn nt)).go np j hj
theorem Eq0.days (h : Eq0 q r) : ∀ n, Eq0 (sDays w nt np n q) (sDays w nt np n r) := by
  intro n
  induction n with
  | zero => exact h
  | succ n ih => exact ih.day
theorem Gd.d0 (h : Gd nt np r) : Gd nt np (put1 r 0 (nI 0)) := by
  obtain ⟨h1, h2, ⟨v1, v2, v3, v4⟩, ⟨w1, w2, w3, w4⟩⟩ := h
  refine ⟨(put1_o (by decide)).trans h1, (put1_o (by decide)).trans h2, ⟨v1, v2, fun t ht => ?_, fun q hq => ?_⟩, ⟨⟨0, by decide, put1_s⟩, fun z hz => ?_, fun t ht => ?_, fun q hq => ?_⟩⟩
  · rw [put1_o (by omega), put1_o (by omega), put1_o (by omega)]; exact v3 t ht
  · rw [put1_o (by omega)]; exact v4 q hq
  · rw [put1_o (by omega)]; exact w2 z hz
  · rw [put1_o (by omega), put1_o (by omega), put1_o (by omega)]; exact w3 t ht
  · obtain ⟨g1, g2, g3⟩ := w4 q hq
    rw [put1_o (by omega), put1_o (by omega)]
    exact ⟨g1, g2, fun z hz => by rw [put1_o (by omega)]; exact g3 z hz⟩
theorem Eq0.rst {v : Int32} : Eq0 r (put1 r 0 v) := fun j hj => (put1_o hj).symm
theorem days_le (h : Gd nt np r) {n t : Nat} (hn : n ≤ 1000) (ht : t < nt) : Le 999 (sDays w nt np n r (14 + 6 * t + 2)) := by
  rw [(Eq0.rst (r := r) (v := nI 0)).days n _ (by omega)]
  exact ((h.d0.days (w := w) (d := 0) put1_s n (by omega)).1.2.2.2.2.2.1 t ht).2.1
theorem thick_le : ∀ n, (∀ t, t < n → Le 999 (r (14 + 6 * t + 2))) → Le (999 * n) (sThick r n) := by
  intro n
  induction n with
  | zero => exact fun _ => ⟨0, Nat.zero_le _, rfl⟩
  | succ n ih =>
    intro h
    obtain ⟨a, ha, ea⟩ := ih fun t ht => h t (by omega)
    obtain ⟨b, hb, eb⟩ := h n (Nat.lt_succ_self n)
    refine ⟨a + b, by omega, ?_⟩
    show sThick r n + r (14 + 6 * n + 2) = _
    rw [ea, eb, jI_add]
theorem lost_le (h : Gd nt np r) {n : Nat} (hn : n ≤ 1000) : Le 8000 (sThick (sDays w nt np n r) nt) := by
  obtain ⟨k, hk, e⟩ := thick_le nt fun t ht => days_le (w := w) h hn ht
  have := h.2.2.1.1
  exact ⟨k, by omega, e⟩
theorem thick_o {pl : Nat} {v : Int32} (h : ∀ t, t < nt → ¬ 14 + 6 * t + 2 = pl) : sThick (put1 r pl v) nt = sThick r nt := fo_c nt _ fun t s ht => by rw [put1_o (h t ht)]
/-- the class's choice: what leaves most, the first of them -/
def sCl (L : Nat → Int32) (k : Nat) (z : Int32 × Int32) : Int32 × Int32 := if z.2 < L k then (nI k, L k) else z
theorem cmp_k {x l m : Nat} (hx : x ≤ 8000) (hl : l ≤ 8000) (hm : m ≤ 8000) : nI x - nI l < nI x - nI m ↔ nI m < nI l := by
  rw [Int32.lt_iff_toInt_lt, Int32.lt_iff_toInt_lt, Int32.toInt_sub, Int32.toInt_sub, jI_int (by omega), jI_int (by omega), jI_int (by omega), Int.bmod_def, Int.bmod_def]
  omega
theorem cmp_m {x l : Nat} (hx : x ≤ 8000) (hl : l ≤ 8000) : nI x - nI l < nI 2147483647 := by
  rw [Int32.lt_iff_toInt_lt, Int32.toInt_sub, jI_int (by omega), jI_int (by omega), jI_int (by decide), Int.bmod_def]
  omega
theorem neg1_lt {l : Nat} (hl : l ≤ 8000) : (-1 : Int32) < nI l := by
  rw [Int32.lt_iff_toInt_lt, jI_int (by omega), show (-1 : Int32).toInt = -1 from by decide]
  omega
theorem mn2_t {x y : Int32} (h : y < x) : mn2 x y = y := if_pos h
theorem mn2_f {x y : Int32} (h : ¬ y < x) : mn2 x y = x := if_neg h
/-- least lost is most left -/
theorem pick_lost {T : Int32} {L : Nat → Int32} {F : Nat → Int32 × Int32 → Int32 × Int32} {c : Nat} {b0 b1 : Int32} (hT : Le 8000 T) (hL : ∀ k, k < c → Le 8000 (L k)) (hF : ∀ k z, k < c → F k z = (if T - L k < z.2 then nI k else z.1, mn2 z.2 (T - L k))) (hb : 0 < c ∨ b0 = b1) : (fo F c (b0, nI 2147483647)).1 = (fo (sCl L) c (b1, -1)).1 := by
  obtain ⟨x, hx, rfl⟩ := hT
  have main : ∀ k, k ≤ c → 0 < k → (fo F k (b0, nI 2147483647)).1 = (fo (sCl L) k (b1, -1)).1 ∧ ∃ m, m ≤ 8000 ∧ (fo (sCl L) k (b1, -1)).2 = nI m ∧ (fo F k (b0, nI 2147483647)).2 = nI x - nI m := by
    intro k
    induction k with
    | zero => exact fun _ h => absurd h (Nat.lt_irrefl _)
    | succ k ih =>
      intro hk _
      obtain ⟨l, hl, el⟩ := hL k hk
      show (F k (fo F k (b0, nI 2147483647))).1 = (sCl L k (fo (sCl L) k (b1, -1))).1 ∧ ∃ m, m ≤ 8000 ∧ (sCl L k (fo (sCl L) k (b1, -1))).2 = nI m ∧ (F k (fo F k (b0, nI 2147483647))).2 = nI x - nI m
      rw [hF k _ hk, el]
      by_cases h0 : k = 0
      · subst h0
        rw [show fo F 0 (b0, nI 2147483647) = (b0, nI 2147483647) from rfl, show sCl L 0 (fo (sCl L) 0 (b1, -1)) = (nI 0, L 0) from if_pos (by rw [el]; exact neg1_lt hl)]
        dsimp only
        rw [if_pos (cmp_m hx hl), mn2_t (cmp_m hx hl)]
        exact ⟨rfl, l, hl, el, rfl⟩
      · obtain ⟨e1, m, hm, e2, e3⟩ := ih (by omega) (by omega)
        dsimp only
        rw [e3]
        by_cases g : nI m < nI l
        · rw [show sCl L k (fo (sCl L) k (b1, -1)) = (nI k, L k) from if_pos (by rw [e2, el]; exact g), if_pos ((cmp_k hx hl hm).mpr g), mn2_t ((cmp_k hx hl hm).mpr g)]
          exact ⟨rfl, l, hl, el, rfl⟩
        · rw [show sCl L k (fo (sCl L) k (b1, -1)) = fo (sCl L) k (b1, -1) from if_neg (by rw [e2, el]; exact g), if_neg (fun z => g ((cmp_k hx hl hm).mp z)), mn2_f (fun z => g ((cmp_k hx hl hm).mp z))]
          exact ⟨e1, m, hm, e2, rfl⟩
  rcases Nat.eq_zero_or_pos c with h | h
  · subst h
    exact hb.resolve_left (Nat.lt_irrefl _)
  · exact (main c (Nat.le_refl _) h).1
theorem pick_most {L : Nat → Int32} {F : Nat → Int32 × Int32 → Int32 × Int32} {c : Nat} {b0 b1 : Int32} (hL : ∀ k, k < c → Le 8000 (L k)) (hF : ∀ k z, k < c → F k z = (if z.2 < L k then nI k else z.1, if z.2 < L k then L k else z.2)) (hb : 0 < c) : (fo F c (b0, -1)).1 = (fo (sCl L) c (b1, -1)).1 := by
  have main : ∀ k, k ≤ c → 0 < k → fo F k (b0, -1) = fo (sCl L) k (b1, -1) := by
    intro k
    induction k with
    | zero => exact fun _ h => absurd h (Nat.lt_irrefl _)
    | succ k ih =>
      intro hk _
      obtain ⟨l, hl, el⟩ := hL k hk
      show F k (fo F k (b0, -1)) = sCl L k (fo (sCl L) k (b1, -1))
      rw [hF k _ hk]
      by_cases h0 : k = 0
      · subst h0
        rw [show fo F 0 (b0, -1) = (b0, -1) from rfl, show sCl L 0 (fo (sCl L) 0 (b1, -1)) = (nI 0, L 0) from if_pos (by rw [el]; exact neg1_lt hl)]
        dsimp only
        rw [el, if_pos (neg1_lt hl), if_pos (neg1_lt hl)]
      · rw [ih (by omega) (by omega)]
        by_cases g : (fo (sCl L) k (b1, -1)).2 < L k
        · rw [show sCl L k (fo (sCl L) k (b1, -1)) = (nI k, L k) from if_pos g, if_pos g, if_pos g]
        · rw [show sCl L k (fo (sCl L) k (b1, -1)) = fo (sCl L) k (b1, -1) from if_neg g, if_neg g, if_neg g]
  rw [main c (Nat.le_refl _) hb]
/-- where one is behind i days of walking -/
def pos (w x : Int32) (i : Nat) : Int32 := fo (fun _ z => rem16 (z + w)) i x
theorem pos_16 : ∀ a, a < 16 → ∀ w, w < 16 → pos (nI w) (nI a) 16 = nI a := by decide +kernel
theorem pos_p {x : Int32} (h : pos w x 16 = x) : ∀ i, pos w x (16 + i) = pos w x i := by
  intro i
  induction i with
  | zero => exact h
  | succ i ih =>
    show rem16 (pos w x (16 + i) + w) = rem16 (pos w x i + w)
    rw [ih]
theorem pos_m {x : Int32} (h : pos w x 16 = x) (i : Nat) : pos w x i = pos w x (i % 16) := by
  have e : ∀ j k, pos w x (16 * k + j) = pos w x j := by
    intro j k
    induction k with
    | zero => rw [Nat.mul_zero, Nat.zero_add]
    | succ k ih => rw [show 16 * (k + 1) + j = 16 + (16 * k + j) by omega, pos_p h, ih]
  have := e (i % 16) (i / 16)
  rw [Nat.div_add_mod] at this
  exact this
theorem pos_s {x : Int32} : ∀ i, pos w (rem16 (x + w)) i = pos w x (i + 1) := by
  intro i
  induction i with
  | zero => rfl
  | succ i ih =>
    show rem16 (pos w (rem16 (x + w)) i + w) = rem16 (pos w x (i + 1) + w)
    rw [ih]
theorem sSe_no {g : Int32} : ∀ (m n : Nat) (x : Int32), (∀ i, i < m → ¬ pos w x i = g) → sSe g w m n x = (-1000004, true) := by
  intro m
  induction m with
  | zero => intro n x _; rfl
  | succ m ih =>
    intro n x h
    show (if x = g then (nI n, false) else sSe g w m (n + 1) (rem16 (x + w))) = _
    rw [if_neg (show ¬ x = g from h 0 (Nat.succ_pos m))]
    exact ih _ _ fun i hi => by rw [pos_s]; exact h (i + 1) (by omega)
theorem sSe_yes {g : Int32} {f : Nat} : ∀ (m n : Nat) (x : Int32), (∃ i, i < m ∧ pos w x i = g) → sSe g w (m + f) n x = sSe g w m n x := by
  intro m
  induction m with
  | zero => intro n x ⟨i, hi, _⟩; exact absurd hi (Nat.not_lt_zero _)
  | succ m ih =>
    intro n x ⟨i, hi, e⟩
    rw [show m + 1 + f = (m + f) + 1 by omega]
    show (if x = g then (nI n, false) else sSe g w (m + f) (n + 1) (rem16 (x + w))) = (if x = g then (nI n, false) else sSe g w m (n + 1) (rem16 (x + w)))
    by_cases h : x = g
    · rw [if_pos h, if_pos h]
    · rw [if_neg h, if_neg h]
      refine ih _ _ ⟨i - 1, ?_, ?_⟩
      · cases i with
        | zero => exact absurd e h
        | succ i => omega
      · cases i with
        | zero => exact absurd e h
        | succ i => rw [pos_s]; exact e
theorem sSe_101 {g x : Int32} (hx : Le 15 x) (hw : Le 15 w) : sSe g w 101 0 x = sSe g w 16 0 x := by
  obtain ⟨a, ha, rfl⟩ := hx
  obtain ⟨b, hb, rfl⟩ := hw
  have hp := pos_16 a (by omega) b (by omega)
  by_cases h : ∃ i, i < 16 ∧ pos (nI b) (nI a) i = g
  · exact sSe_yes (f := 85) 16 0 _ h
  · have h1 : ∀ i, ¬ pos (nI b) (nI a) i = g := fun i e => h ⟨i % 16, Nat.mod_lt _ (by decide), (pos_m hp i).symm.trans e⟩
    rw [sSe_no 101 0 _ fun i _ => h1 i, sSe_no 16 0 _ fun i _ => h1 i]
theorem orN_k {k : Nat} (h : k < 2147483648) : orN (nI k) = (nI k, false) := if_pos (Int32.not_lt.mp (jI_nn h))
theorem orN_m : orN (-1) = (-1000004, true) := if_neg (by decide)
end PQ
end
section
/-! ===== what will be, asked of the class ===== -/
section EV
variable {X : mSc} {Q : Option Value → mHp → Prop} {M : mM} {nt np : Nat} {r : Nat → Int32}
/-- a trial leaves the town -/
def Tz (M M1 : mM) : Prop := ∀ a, a < 35 → M1 a = M a
theorem Tz.rf : Tz M M := fun _ _ => rfl
theorem Tz.to {M1 M2 : mM} (h : Tz M M1) (g : Tz M1 M2) : Tz M M2 := fun a ha => (g a ha).trans (h a ha)
theorem Tz.put {j x : Nat} {v : Int32} : Tz M (mput M (35 + j) x v) := fun a ha => mpo (by omega)
theorem Tc.tz {q : Nat → Int32} {M1 : mM} (h : Tc 35 nt np q M M1) : Tz M M1 := fun a ha => h.2.2 a (by omega)
theorem Tz.rel {M1 : mM} (h : Tz M M1) (hR : Rel 1 nt np M r) : Rel 1 nt np M1 r := hR.fr fun a _ hx => h a (by omega)
theorem Tz.c {M1 : mM} (h : Tz M M1) (hc : M 1 7 = -1) : M1 1 7 = -1 := by rw [h 1 (by decide)]; exact hc
theorem Rel.calm {b : Nat} {v : Int32} (h : Rel b nt np M r) : Rel b nt np (mput M b 7 v) r := by
  obtain ⟨h1, h2, h3, h4, h5, h6, h7⟩ := h
  exact ⟨(mpn (by omega)).trans h1, (mpn (by omega)).trans h2, (mpn (by omega)).trans h3, (mpn (by omega)).trans h4, fun s hs => (mpn (by omega)).trans (h5 s hs), fun f t hf ht => (mpn (by omega)).trans (h6 f t hf ht), fun f p hf hp => (mpn (by omega)).trans (h7 f p hf hp)⟩
theorem g42 (hR : Rel 1 nt np M r) (hn8 : nt ≤ 8) (hp8 : np ≤ 8) (hc : M 1 7 = -1) : ∃ M', mT X 42 [.ref 0] (con M) none (con M') ∧ Rel 35 nt np M' r ∧ M' 35 7 = -1 ∧ Tz M M' := by
  refine tv_of (row := _) rfl (Nat.le_of_ble_eq_true rfl) ?_
  have hm : mMet 42 = some _ := rfl
  refine x_aload_n hm rfl rfl ?_
  refine x_getf hm rfl (gR rfl rfl) ?_
  refine x_aload_n hm rfl rfl ?_
  refine x_getf hm rfl (gR rfl rfl) ?_
  refine x_cVv hm rfl rfl (g43 (b := 35) (o := 1) (by decide) (by decide) (by decide)) (fun M1 r1 => ?_)
  refine x_ret hm rfl rfl ?_
  exact ⟨_, rfl, rfl, r1.rel hR hn8 hp8, r1.2.2.2.2.2.2.2.2.trans hc, fun a ha => r1.1 a (Or.inl ha)⟩
theorem kind_gd {p k : Nat} (hG : Gd nt np r) (hp : p < np) (hk : k < 7) : Gd nt np (put1 r (62 + 7 * p + 0) (nI k)) := hG.pf hp (by decide) (fun _ => ⟨k, by omega, rfl⟩) (fun h => by omega) (fun h => by omega)
theorem walk_gd {p k : Nat} (hG : Gd nt np r) (hp : p < np) (hk : k < 16) : Gd nt np (put1 r (62 + 7 * p + 2) (nI k)) := hG.pf hp (by decide) (fun h => by omega) (fun _ => ⟨k, by omega, rfl⟩) (fun h => by omega)
theorem place_gd {t k : Nat} (hG : Gd nt np r) (ht : t < nt) (hk : k < 16) : Gd nt np (put1 r (14 + 6 * t + 1) (nI k)) := hG.pt ht (by decide) (fun h => by omega) (fun _ => ⟨k, by omega, rfl⟩) (fun h => by omega) (fun h => by omega) (fun h => by omega) (fun h => by omega)
theorem owner_gd {t k : Nat} (hG : Gd nt np r) (ht : t < nt) (hk : k < np) : Gd nt np (put1 r (14 + 6 * t + 4) (nI k)) := hG.pt ht (by decide) (fun h => by omega) (fun h => by omega) (fun h => by omega) (fun h => by omega) (fun _ => Or.inr ⟨k, hk, rfl⟩) (fun h => by omega)
theorem paint_gd {t k : Nat} (hG : Gd nt np r) (ht : t < nt) (hk : k < 10) : Gd nt np (put1 r (14 + 6 * t + 3) (nI k)) := hG.pt ht (by decide) (fun h => by omega) (fun h => by omega) (fun h => by omega) (fun _ => ⟨k, by omega, rfl⟩) (fun h => by omega) (fun h => by omega)
theorem sCl_k {L : Nat → Int32} {g : Int32} : ∀ c, ∃ j, j ≤ c ∧ (fo (sCl L) c (nI 0, g)).1 = nI j := by
  intro c
  induction c with
  | zero => exact ⟨0, Nat.le_refl _, rfl⟩
  | succ c ih =>
    obtain ⟨j, hj, e⟩ := ih
    show ∃ j, j ≤ c + 1 ∧ (sCl L c (fo (sCl L) c (nI 0, g))).1 = nI j
    by_cases h : (fo (sCl L) c (nI 0, g)).2 < L c
    · exact ⟨c, by omega, by rw [show sCl L c (fo (sCl L) c (nI 0, g)) = (nI c, L c) from if_pos h]⟩
    · exact ⟨j, by omega, by rw [show sCl L c (fo (sCl L) c (nI 0, g)) = fo (sCl L) c (nI 0, g) from if_neg h]; exact e⟩
theorem fo_st {α : Type} {f : Nat → α → α} {z : α} {a : Nat} : ∀ n, a ≤ n → (∀ j, a ≤ j → j < n → ∀ x, f j x = x) → fo f n z = fo f a z := by
  intro n
  induction n with
  | zero => intro h _; rw [show a = 0 by omega]
  | succ n ih =>
    intro h g
    by_cases e : a = n + 1
    · rw [e]
    · show f n (fo f n z) = _
      rw [g n (by omega) (Nat.lt_succ_self _)]
      exact ih (by omega) fun j h1 h2 => g j h1 (by omega)
/-- the least coat that keeps a thing -/
theorem nd_yes {w : Int32} {n t k : Nat} (hk : k < 10) (h : 0 < sDays w nt np n (put1 r (14 + 6 * t + 3) (nI k)) (14 + 6 * t + 2)) (g : ∀ i, i < k → ¬ 0 < sDays w nt np n (put1 r (14 + 6 * t + 3) (nI i)) (14 + 6 * t + 2)) : fo (sNd r w nt np n t) 10 (-1) = nI k := by
  rw [fo_st (f := sNd r w nt np n t) (a := 10 - k) 10 (by omega) (fun j h1 h2 x => show sNd r w nt np n t j x = x from if_neg (g (9 - j) (by omega))), show 10 - k = (9 - k) + 1 by omega]
  show sNd r w nt np n t (9 - k) _ = _
  unfold sNd
  rw [show 9 - (9 - k) = k by omega, if_pos h]
theorem nd_no {w : Int32} {n t : Nat} (g : ∀ i, i < 10 → ¬ 0 < sDays w nt np n (put1 r (14 + 6 * t + 3) (nI i)) (14 + 6 * t + 2)) : fo (sNd r w nt np n t) 10 (-1) = -1 := fo_st (f := sNd r w nt np n t) (a := 0) 10 (by omega) (fun j h1 h2 x => show sNd r w nt np n t j x = x from if_neg (g (9 - j) (by omega)))
theorem pos_le {v : Int32} {n : Nat} (h : Le n v) (hn : n < 2147483648) (g : ¬ v = 0) : 0 < v := by
  obtain ⟨k, hk, rfl⟩ := h
  exact (jI_lt (a := 0) (by decide) (by omega)).mpr (Nat.pos_of_ne_zero fun e => g (by rw [e]; rfl))
theorem gv41 {a1 a2 : Int32} (hR : Rel 1 nt np M r) (hG : Gd nt np r) (hc : M 1 7 = -1) : ∃ v M', mT X 41 [.ref 0, .int a1, .int a2] (con M) (some (.int v)) (con M') ∧ v = (qAhead r nt np a1 a2).1 := by
  refine ti_of (row := _) rfl (Nat.le_of_ble_eq_true rfl) ?_
  have hm : mMet 41 = some _ := rfl
  have hV := hG.2.2.1
  have hn8 := hV.1
  have hp8 := hV.2.1
  refine x_aload_n hm rfl rfl ?_
  refine x_getf hm rfl (gR rfl rfl) ?_
  refine x_iload_n hm rfl rfl ?_
  refine x_callV hm rfl rfl (t10 (by decide)) ?_
  rw [hR.1]
  refine x_if_eq hm rfl (t := 21) rfl (fun h1 => ?_) (fun h1 => ?_)
  · refine x_aload_n hm rfl rfl ?_
    refine x_ldcI hm rfl (v := (-1000001 : Int32)) (by decide +kernel) ?_
    refine x_cVi hm rfl rfl (t7 (by decide +kernel)) (fun v2 M2 r2 => ?_)
    refine x_iret hm rfl rfl (by first | rfl | exact bI_nar | decide) ?_
    first
      | (have hq : qAhead r nt np a1 a2 = (-1000001, true) := by
           unfold qAhead
           rw [if_pos (by assumption)]
         exact ⟨_, _, rfl, rfl, r2.1.trans (fst_q hq)⟩)
      | (have hq : qAhead r nt np (nI t) a2 = (-1000001, true) := by
           unfold qAhead
           rw [if_neg (by assumption), if_pos (by assumption)]
         exact ⟨_, _, rfl, rfl, r2.1.trans (fst_q hq)⟩)
  · obtain ⟨t, ht, rfl⟩ := in_k rfl (by omega) (bI_ne0 h1)
    refine x_iload_n hm rfl rfl ?_
    refine x_iconst hm rfl (v := nI 0) (by decide) ?_
    refine x_bipush hm rfl (v := nI 100) (by decide) ?_
    refine x_callS hm rfl rfl (t6) ?_
    refine x_if_ne hm rfl (t := 28) rfl (fun h3 => ?_) (fun h3 => ?_)
    · obtain ⟨a, ha, rfl⟩ := le_k (by omega) (bI_ne0 h3)
      refine x_aload_n hm rfl rfl ?_
      refine x_cVv hm rfl rfl (g42 hR hn8 hp8 hc) (fun M4 r4 => ?_)
      have h7 := r4.2.1
      refine x_aload_n hm rfl rfl ?_
      refine x_getf hm rfl (gR rfl rfl) ?_
      refine x_iload_n hm rfl rfl ?_
      refine x_cVv hm rfl rfl (e30 (by decide) r4.1 hV (by omega)) (fun M5 r5 => ?_)
      rw [h7] at r5
      refine x_aload_n hm rfl rfl ?_
      refine x_getf hm rfl (gR rfl rfl) ?_
      refine x_getf hm rfl (gR rfl rfl) ?_
      refine x_iconst hm rfl (v := nI 2) (by decide) ?_
      refine x_aald hm rfl (lQ _ (by decide) rfl rfl (by omega) (by decide)) ?_
      refine x_iload_n hm rfl rfl ?_
      refine x_iald hm rfl (lI rfl (by omega) (by decide)) ?_
      refine x_iret hm rfl rfl (by first | rfl | exact bI_nar | decide) ?_
      have hq : qAhead r nt np (nI t) (nI a) = (sDays (-1) nt np a r (14 + 6 * t + 2), false) := by
        unfold qAhead
        rw [if_neg (by assumption), if_neg (by assumption)]
        rw [jI_nat (k := t) (by omega)]
        rw [jI_nat (k := a) (by omega)]
      exact ⟨_, _, rfl, rfl, (r5.1.thick ht).trans (fst_q hq)⟩
    · refine x_aload_n hm rfl rfl ?_
      refine x_ldcI hm rfl (v := (-1000001 : Int32)) (by decide +kernel) ?_
      refine x_cVi hm rfl rfl (t7 (by decide +kernel)) (fun v6 M6 r6 => ?_)
      refine x_iret hm rfl rfl (by first | rfl | exact bI_nar | decide) ?_
      first
        | (have hq : qAhead r nt np a1 a2 = (-1000001, true) := by
             unfold qAhead
             rw [if_pos (by assumption)]
           exact ⟨_, _, rfl, rfl, r6.1.trans (fst_q hq)⟩)
        | (have hq : qAhead r nt np (nI t) a2 = (-1000001, true) := by
             unfold qAhead
             rw [if_neg (by assumption), if_pos (by assumption)]
           exact ⟨_, _, rfl, rfl, r6.1.trans (fst_q hq)⟩)
theorem gv45 {a1 : Int32} (hR : Rel 1 nt np M r) (hG : Gd nt np r) (hc : M 1 7 = -1) : ∃ v M', mT X 45 [.ref 0, .int a1] (con M) (some (.int v)) (con M') ∧ v = (qGone r nt np a1).1 := by
  refine ti_of (row := _) rfl (Nat.le_of_ble_eq_true rfl) ?_
  have hm : mMet 45 = some _ := rfl
  have hV := hG.2.2.1
  have hn8 := hV.1
  have hp8 := hV.2.1
  refine x_iload_n hm rfl rfl ?_
  refine x_iconst hm rfl (v := nI 0) (by decide) ?_
  refine x_bipush hm rfl (v := nI 100) (by decide) ?_
  refine x_callS hm rfl rfl (t6) ?_
  refine x_if_ne hm rfl (t := 17) rfl (fun h1 => ?_) (fun h1 => ?_)
  · obtain ⟨a, ha, rfl⟩ := le_k (by omega) (bI_ne0 h1)
    refine x_aload_n hm rfl rfl ?_
    refine x_cVv hm rfl rfl (g42 hR hn8 hp8 hc) (fun M2 r2 => ?_)
    have h7 := r2.2.1
    refine x_aload_n hm rfl rfl ?_
    refine x_getf hm rfl (gR rfl rfl) ?_
    refine x_iload_n hm rfl rfl ?_
    refine x_cVv hm rfl rfl (e30 (by decide) r2.1 hV (by omega)) (fun M3 r3 => ?_)
    rw [h7] at r3
    refine x_aload_n hm rfl rfl ?_
    refine x_getf hm rfl (gR rfl rfl) ?_
    refine x_callV hm rfl rfl (e35 (by decide) r3.1 (hV.days _)) ?_
    refine x_iret hm rfl rfl (by first | rfl | exact bI_nar | decide) ?_
    have hq : qGone r nt np (nI a) = (sGone (sDays (-1) nt np a r) nt, false) := by
      unfold qGone
      rw [if_neg (by assumption)]
      rw [jI_nat (k := a) (by omega)]
    exact ⟨_, _, rfl, rfl, (rfl).trans (fst_q hq)⟩
  · refine x_aload_n hm rfl rfl ?_
    refine x_ldcI hm rfl (v := (-1000001 : Int32)) (by decide +kernel) ?_
    refine x_cVi hm rfl rfl (t7 (by decide +kernel)) (fun v4 M4 r4 => ?_)
    refine x_iret hm rfl rfl (by first | rfl | exact bI_nar | decide) ?_
    have hq : qGone r nt np a1 = (-1000001, true) := by
      unfold qGone
      rw [if_pos (by assumption)]
    exact ⟨_, _, rfl, rfl, r4.1.trans (fst_q hq)⟩
theorem gv46 {a1 : Int32} (hR : Rel 1 nt np M r) (hG : Gd nt np r) (hc : M 1 7 = -1) : ∃ v M', mT X 46 [.ref 0, .int a1] (con M) (some (.int v)) (con M') ∧ v = (qWorn r nt np a1).1 := by
  refine ti_of (row := _) rfl (Nat.le_of_ble_eq_true rfl) ?_
  have hm : mMet 46 = some _ := rfl
  have hV := hG.2.2.1
  have hn8 := hV.1
  have hp8 := hV.2.1
  refine x_iload_n hm rfl rfl ?_
  refine x_iconst hm rfl (v := nI 0) (by decide) ?_
  refine x_bipush hm rfl (v := nI 100) (by decide) ?_
  refine x_callS hm rfl rfl (t6) ?_
  refine x_if_ne hm rfl (t := 17) rfl (fun h1 => ?_) (fun h1 => ?_)
  · obtain ⟨a, ha, rfl⟩ := le_k (by omega) (bI_ne0 h1)
    refine x_aload_n hm rfl rfl ?_
    refine x_cVv hm rfl rfl (g42 hR hn8 hp8 hc) (fun M2 r2 => ?_)
    have h7 := r2.2.1
    have hz1 := r2.2.2
    refine x_aload_n hm rfl rfl ?_
    refine x_getf hm rfl (gR rfl rfl) ?_
    refine x_iload_n hm rfl rfl ?_
    refine x_cVv hm rfl rfl (e30 (by decide) r2.1 hV (by omega)) (fun M3 r3 => ?_)
    rw [h7] at r3
    refine x_aload_n hm rfl rfl ?_
    refine x_getf hm rfl (gR rfl rfl) ?_
    refine x_callV hm rfl rfl (e38 (by decide) ((hz1.to r3.tz).rel hR) hV) ?_
    refine x_aload_n hm rfl rfl ?_
    refine x_getf hm rfl (gR rfl rfl) ?_
    refine x_callV hm rfl rfl (e38 (by decide) r3.1 (hV.days _)) ?_
    refine x_isub hm rfl ?_
    refine x_iret hm rfl rfl (by first | rfl | exact bI_nar | decide) ?_
    have hq : qWorn r nt np (nI a) = (sThick r nt - sThick (sDays (-1) nt np a r) nt, false) := by
      unfold qWorn
      rw [if_neg (by assumption)]
      rw [jI_nat (k := a) (by omega)]
    exact ⟨_, _, rfl, rfl, (rfl).trans (fst_q hq)⟩
  · refine x_aload_n hm rfl rfl ?_
    refine x_ldcI hm rfl (v := (-1000001 : Int32)) (by decide +kernel) ?_
    refine x_cVi hm rfl rfl (t7 (by decide +kernel)) (fun v4 M4 r4 => ?_)
    refine x_iret hm rfl rfl (by first | rfl | exact bI_nar | decide) ?_
    have hq : qWorn r nt np a1 = (-1000001, true) := by
      unfold qWorn
      rw [if_pos (by assumption)]
    exact ⟨_, _, rfl, rfl, r4.1.trans (fst_q hq)⟩
theorem gv44l {t : Nat} (hV : Vs nt np r) (hn8 : nt ≤ 8) (ht : t < nt) : ∀ (n k : Nat) (M1 : mM), 101 - k < n → k ≤ 101 → Rel 35 nt np M1 (sDays (-1) nt np k r) → M1 35 7 = -1 → ((k ≤ 100 ∧ orN (sLa (-1) nt np t 100 0 r) = orN (sLa (-1) nt np t (100 - k) k (sDays (-1) nt np k r))) ∨ (k = 101 ∧ orN (sLa (-1) nt np t 100 0 r) = (-1000004, true))) → mEv X (QI (fun v M' => v = (orN (sLa (-1) nt np t 100 0 r)).1)) 44 24 [some (.ref 0), some (.int (nI t)), some (.int (nI k))] [] (con M1) := by
  have hm : mMet 44 = some _ := rfl
  intro n
  induction n with
  | zero =>
    intro k M1 hkn hkb hR1 h7 hq
    omega
  | succ n ih =>
    intro k M1 hkn hkb hR1 h7 hq
    have hth : M1 (35 + 4) t = sDays (-1) nt np k r (14 + 6 * t + 2) := hR1.thick ht
    refine x_iload_n hm rfl rfl ?_
    refine x_bipush hm rfl (v := nI 100) (by decide) ?_
    refine x_icmp_gt hm rfl (t := 57) rfl (fun h1 => ?_) (fun h1 => ?_)
    · have hk : ¬ k ≤ 100 := fun h => absurd h1 (Int32.not_lt.mpr ((jI_le (by omega) (by decide)).mpr h))
      have hq9 := (hq.resolve_left fun z => hk z.1).2
      refine x_aload_n hm rfl rfl ?_
      refine x_ldcI hm rfl (v := (-1000004 : Int32)) (by decide +kernel) ?_
      refine x_cVi hm rfl rfl (t7 (by decide +kernel)) (fun v2 M2 r2 => ?_)
      refine x_iret hm rfl rfl (by first | rfl | exact bI_nar | decide) ?_
      exact ⟨_, _, rfl, rfl, r2.1.trans (congrArg Prod.fst hq9).symm⟩
    · have hk : k ≤ 100 := Nat.le_of_not_lt fun h => h1 (nI_lt h (by omega))
      refine x_aload_n hm rfl rfl ?_
      refine x_getf hm rfl (gR rfl rfl) ?_
      refine x_iload_n hm rfl rfl ?_
      refine x_callV hm rfl rfl (t32 (by decide) (by omega)) ?_
      rw [hth]
      refine x_if_eq hm rfl (t := 43) rfl (fun h3 => ?_) (fun h3 => ?_)
      · have hng := bI_eq0.mp h3
        have hq2 : ((k + 1 ≤ 100 ∧ orN (sLa (-1) nt np t 100 0 r) = orN (sLa (-1) nt np t (100 - (k + 1)) (k + 1) (sDays (-1) nt np (k + 1) r))) ∨ (k + 1 = 101 ∧ orN (sLa (-1) nt np t 100 0 r) = (-1000004, true))) := by
          rcases hq with ⟨g1, g2⟩ | ⟨g1, -⟩
          · by_cases hk9 : k < 100
            · exact Or.inl ⟨hk9, g2.trans (congrArg orN (la_s hk9 hng))⟩
            · have hk9 : k = 100 := by omega
              exact Or.inr ⟨by omega, g2.trans ((congrArg orN (la_n hk9 hng)).trans orN_m)⟩
          · omega
        refine x_aload_n hm rfl rfl ?_
        refine x_getf hm rfl (gR rfl rfl) ?_
        refine x_iconst hm rfl (v := nI 1) (by decide) ?_
        refine x_cVv hm rfl rfl (e30 (by decide) hR1 (hV.days _) (by decide)) (fun M4 r4 => ?_)
        have h72 := r4.2.1.trans h7
        rw [h7] at r4
        refine x_iinc hm rfl rfl (v := nI 1) (by decide) rfl ?_
        rw [jI_add]
        refine x_goto hm rfl (t := 24) rfl ?_
        exact ih (k + 1) _ (by omega) (by omega) r4.1 h72 hq2
      · have hq9 := (hq.resolve_right fun z => by omega).2.trans ((congrArg orN (la_g (bI_ne0 h3))).trans (orN_k (by omega)))
        refine x_iload_n hm rfl rfl ?_
        refine x_iret hm rfl rfl (by first | rfl | exact bI_nar | decide) ?_
        exact ⟨_, _, rfl, rfl, (congrArg Prod.fst hq9).symm⟩
theorem gv44 {a1 : Int32} (hR : Rel 1 nt np M r) (hG : Gd nt np r) (hc : M 1 7 = -1) : ∃ v M', mT X 44 [.ref 0, .int a1] (con M) (some (.int v)) (con M') ∧ v = (qLasts r nt np a1).1 := by
  refine ti_of (row := _) rfl (Nat.le_of_ble_eq_true rfl) ?_
  have hm : mMet 44 = some _ := rfl
  have hV := hG.2.2.1
  have hn8 := hV.1
  have hp8 := hV.2.1
  refine x_aload_n hm rfl rfl ?_
  refine x_getf hm rfl (gR rfl rfl) ?_
  refine x_iload_n hm rfl rfl ?_
  refine x_callV hm rfl rfl (t10 (by decide)) ?_
  rw [hR.1]
  refine x_if_ne hm rfl (t := 18) rfl (fun h1 => ?_) (fun h1 => ?_)
  · obtain ⟨t, ht, rfl⟩ := in_k rfl (by omega) (bI_ne0 h1)
    refine x_aload_n hm rfl rfl ?_
    refine x_cVv hm rfl rfl (g42 hR hn8 hp8 hc) (fun M2 r2 => ?_)
    refine x_iconst hm rfl (v := nI 0) (by decide) ?_
    refine x_istore_n hm rfl rfl ?_
    have hq : qLasts r nt np (nI t) = orN (sLa (-1) nt np t 100 0 r) := by
      unfold qLasts
      rw [if_neg (by assumption), jI_nat (by omega)]
    rw [hq]
    exact gv44l hV hn8 ht _ 0 _ (Nat.lt_succ_self _) (Nat.zero_le _) r2.1 r2.2.1 (Or.inl ⟨Nat.zero_le _, rfl⟩)
  · refine x_aload_n hm rfl rfl ?_
    refine x_ldcI hm rfl (v := (-1000001 : Int32)) (by decide +kernel) ?_
    refine x_cVi hm rfl rfl (t7 (by decide +kernel)) (fun v3 M3 r3 => ?_)
    refine x_iret hm rfl rfl (by first | rfl | exact bI_nar | decide) ?_
    have hq : qLasts r nt np a1 = (-1000001, true) := by
      unfold qLasts
      rw [if_pos (by assumption)]
    exact ⟨_, _, rfl, rfl, r3.1.trans (fst_q hq)⟩
theorem gv47l {p t x y : Int32} {q0 : Int32 × Bool} : ∀ (n k : Nat) (z : Int32), 101 - k < n → k ≤ 101 → q0 = sSe x y (101 - k) k z → mEv X (QI (fun v M' => v = (q0).1)) 47 70 [some (.ref 0), some (.int p), some (.int t), some (.int x), some (.int y), some (.int z), some (.int (nI k))] [] (con M) := by
  have hm : mMet 47 = some _ := rfl
  intro n
  induction n with
  | zero =>
    intro k z hkn hkb hq
    omega
  | succ n ih =>
    intro k z hkn hkb hq
    refine x_iload hm rfl rfl ?_
    refine x_bipush hm rfl (v := nI 100) (by decide) ?_
    refine x_icmp_gt hm rfl (t := 101) rfl (fun h1 => ?_) (fun h1 => ?_)
    · have hk : k = 101 := by
        have : ¬ k ≤ 100 := fun h => absurd h1 (Int32.not_lt.mpr ((jI_le (by omega) (by decide)).mpr h))
        omega
      have hq9 : q0 = (-1000004, true) := by rw [hq, hk]; rfl
      refine x_aload_n hm rfl rfl ?_
      refine x_ldcI hm rfl (v := (-1000004 : Int32)) (by decide +kernel) ?_
      refine x_cVi hm rfl rfl (t7 (by decide +kernel)) (fun v2 M2 r2 => ?_)
      refine x_iret hm rfl rfl (by first | rfl | exact bI_nar | decide) ?_
      exact ⟨_, _, rfl, rfl, r2.1.trans (congrArg Prod.fst hq9).symm⟩
    · have hk : k ≤ 100 := Nat.le_of_not_lt fun h => h1 (nI_lt h (by omega))
      have hq1 := hq.trans (show sSe x y (101 - k) k z = sSe x y (101 - (k + 1) + 1) k z by rw [show 101 - k = 101 - (k + 1) + 1 by omega])
      refine x_iload hm rfl rfl ?_
      refine x_iload_n hm rfl rfl ?_
      refine x_icmp_ne hm rfl (t := 86) rfl (fun h3 => ?_) (fun h3 => ?_)
      · have hq2 : q0 = sSe x y (101 - (k + 1)) (k + 1) (rem16 (z + y)) := hq1.trans (if_neg h3)
        refine x_iload hm rfl rfl ?_
        refine x_iload hm rfl rfl ?_
        refine x_callS hm rfl rfl (e34) ?_
        refine x_istore hm rfl rfl ?_
        refine x_iinc hm rfl rfl (v := nI 1) (by decide) rfl ?_
        rw [jI_add]
        refine x_goto hm rfl (t := 70) rfl ?_
        exact ih _ _ (by omega) (by omega) hq2
      · have hq9 : q0 = (nI k, false) := hq1.trans (if_pos h3)
        refine x_iload hm rfl rfl ?_
        refine x_iret hm rfl rfl (by first | rfl | exact bI_nar | decide) ?_
        exact ⟨_, _, rfl, rfl, (congrArg Prod.fst hq9).symm⟩
theorem gv47 {a1 a2 : Int32} (hR : Rel 1 nt np M r) (hG : Gd nt np r) (hc : M 1 7 = -1) : ∃ v M', mT X 47 [.ref 0, .int a1, .int a2] (con M) (some (.int v)) (con M') ∧ v = (qSees r nt np a1 a2).1 := by
  refine ti_of (row := _) rfl (Nat.le_of_ble_eq_true rfl) ?_
  have hm : mMet 47 = some _ := rfl
  have hV := hG.2.2.1
  have hn8 := hV.1
  have hp8 := hV.2.1
  refine x_aload_n hm rfl rfl ?_
  refine x_getf hm rfl (gR rfl rfl) ?_
  refine x_iload_n hm rfl rfl ?_
  refine x_callV hm rfl rfl (t19 (by decide)) ?_
  rw [hR.2.1]
  refine x_if_eq hm rfl (t := 22) rfl (fun h1 => ?_) (fun h1 => ?_)
  · refine x_aload_n hm rfl rfl ?_
    refine x_ldcI hm rfl (v := (-1000001 : Int32)) (by decide +kernel) ?_
    refine x_cVi hm rfl rfl (t7 (by decide +kernel)) (fun v2 M2 r2 => ?_)
    refine x_iret hm rfl rfl (by first | rfl | exact bI_nar | decide) ?_
    first
      | (have hq : qSees r nt np a1 a2 = (-1000001, true) := by
           unfold qSees
           rw [if_pos (by assumption)]
         exact ⟨_, _, rfl, rfl, r2.1.trans (fst_q hq)⟩)
      | (have hq : qSees r nt np (nI p) a2 = (-1000001, true) := by
           unfold qSees
           rw [if_neg (by assumption), if_pos (by assumption)]
         exact ⟨_, _, rfl, rfl, r2.1.trans (fst_q hq)⟩)
  · obtain ⟨p, hp, rfl⟩ := in_k rfl (by omega) (bI_ne0 h1)
    refine x_aload_n hm rfl rfl ?_
    refine x_getf hm rfl (gR rfl rfl) ?_
    refine x_iload_n hm rfl rfl ?_
    refine x_callV hm rfl rfl (t10 (by decide)) ?_
    rw [hR.1]
    refine x_if_ne hm rfl (t := 29) rfl (fun h3 => ?_) (fun h3 => ?_)
    · obtain ⟨t, ht, rfl⟩ := in_k rfl (by omega) (bI_ne0 h3)
      refine x_aload_n hm rfl rfl ?_
      refine x_getf hm rfl (gR rfl rfl) ?_
      refine x_getf hm rfl (gR rfl rfl) ?_
      refine x_iconst hm rfl (v := nI 1) (by decide) ?_
      refine x_aald hm rfl (lQ _ (by decide) rfl rfl (by omega) (by decide)) ?_
      refine x_iload_n hm rfl rfl ?_
      refine x_iald hm rfl (lI rfl (by omega) (by decide)) ?_
      rw [show M 4 t = _ from hR.at_ ht]
      refine x_istore_n hm rfl rfl ?_
      refine x_aload_n hm rfl rfl ?_
      refine x_getf hm rfl (gR rfl rfl) ?_
      refine x_getf hm rfl (gR rfl rfl) ?_
      refine x_iconst hm rfl (v := nI 2) (by decide) ?_
      refine x_aald hm rfl (lQ _ (by decide) rfl rfl (by omega) (by decide)) ?_
      refine x_iload_n hm rfl rfl ?_
      refine x_iald hm rfl (lI rfl (by omega) (by decide)) ?_
      rw [show M 12 p = _ from hR.walk hp]
      refine x_istore hm rfl rfl ?_
      refine x_aload_n hm rfl rfl ?_
      refine x_getf hm rfl (gR rfl rfl) ?_
      refine x_getf hm rfl (gR rfl rfl) ?_
      refine x_iconst hm rfl (v := nI 1) (by decide) ?_
      refine x_aald hm rfl (lQ _ (by decide) rfl rfl (by omega) (by decide)) ?_
      refine x_iload_n hm rfl rfl ?_
      refine x_iald hm rfl (lI rfl (by omega) (by decide)) ?_
      rw [show M 11 p = _ from hR.pat hp]
      refine x_istore hm rfl rfl ?_
      refine x_iconst hm rfl (v := nI 0) (by decide) ?_
      refine x_istore hm rfl rfl ?_
      have hq : qSees r nt np (nI p) (nI t) = sSe (r (14 + 6 * t + 1)) (r (62 + 7 * p + 2)) 16 0 (r (62 + 7 * p + 1)) := by
        unfold qSees
        rw [if_neg (by assumption), if_neg (by assumption)]
        rw [jI_nat (k := t) (by omega)]
        rw [jI_nat (k := p) (by omega)]
      have hw := hG.2.2.2.2.2.2 p hp
      exact gv47l _ 0 _ (Nat.lt_succ_self _) (Nat.zero_le _) (hq.trans (sSe_101 hw.1 hw.2.1).symm)
    · refine x_aload_n hm rfl rfl ?_
      refine x_ldcI hm rfl (v := (-1000001 : Int32)) (by decide +kernel) ?_
      refine x_cVi hm rfl rfl (t7 (by decide +kernel)) (fun v4 M4 r4 => ?_)
      refine x_iret hm rfl rfl (by first | rfl | exact bI_nar | decide) ?_
      first
        | (have hq : qSees r nt np a1 a2 = (-1000001, true) := by
             unfold qSees
             rw [if_pos (by assumption)]
           exact ⟨_, _, rfl, rfl, r4.1.trans (fst_q hq)⟩)
        | (have hq : qSees r nt np (nI p) a2 = (-1000001, true) := by
             unfold qSees
             rw [if_neg (by assumption), if_pos (by assumption)]
           exact ⟨_, _, rfl, rfl, r4.1.trans (fst_q hq)⟩)
theorem gv49l {p f c a : Nat} (hR : Rel 1 nt np M r) (hV : Vs nt np r) (hc : M 1 7 = -1) (hp : p < np) (hf : f < 7) (hc1 : c ≤ 1000) (ha : a ≤ 1000) (hVk : ∀ k, k < c → Vs nt np (put1 r (62 + 7 * p + f) (nI k))) : ∀ (n k : Nat) (s g : Int32) (x8 : Option Value) (M1 : mM), c - k < n → k ≤ c → Tz M M1 → (s, g) = fo (sCl (fun k => sThick (sDays (-1) nt np a (put1 r (62 + 7 * p + f) (nI k))) nt)) k (nI 0, -1) → mEv X (QI (fun v M' => v = (fo (sCl (fun k => sThick (sDays (-1) nt np a (put1 r (62 + 7 * p + f) (nI k))) nt)) c (nI 0, -1)).1)) 49 9 [some (.ref 0), some (.int (nI p)), some (.int (nI f)), some (.int (nI c)), some (.int (nI a)), some (.int s), some (.int g), some (.int (nI k)), x8] [] (con M1) := by
  have hm : mMet 49 = some _ := rfl
  intro n
  induction n with
  | zero =>
    intro k s g x8 M1 hkn hkb hT hz
    omega
  | succ n ih =>
    intro k s g x8 M1 hkn hkb hT hz
    have hn8 := hV.1
    have hp8 := hV.2.1
    refine x_iload hm rfl rfl ?_
    refine x_iload_n hm rfl rfl ?_
    refine x_icmp_ge hm rfl (t := 71) rfl (fun h1 => ?_) (fun h1 => ?_)
    · obtain rfl : k = c := Nat.le_antisymm hkb ((jI_le (by omega) (by omega)).mp h1)
      refine x_iload hm rfl rfl ?_
      refine x_iret hm rfl rfl (by first | rfl | exact bI_nar | decide) ?_
      exact ⟨_, _, rfl, rfl, congrArg Prod.fst hz⟩
    · have hk : k < c := Nat.lt_of_not_le fun h => h1 (nI_le h (by omega))
      refine x_aload_n hm rfl rfl ?_
      refine x_cVv hm rfl rfl (g42 (hT.rel hR) hn8 hp8 (hT.c hc)) (fun M2 r2 => ?_)
      refine x_aload_n hm rfl rfl ?_
      refine x_getf hm rfl (gR rfl rfl) ?_
      refine x_getf hm rfl (gR rfl rfl) ?_
      refine x_iload_n hm rfl rfl ?_
      refine x_aald (v := .ref (35 + 9 + f)) hm rfl ?_ ?_
      · exact lQ 3 (Or.inr (Or.inl rfl)) (tF (b := 35) (by decide)) (tFk (by omega)) (by omega) (by decide)
      refine x_iload_n hm rfl rfl ?_
      refine x_iload hm rfl rfl ?_
      refine x_iast hm rfl (sI (tRowF (b := 35) (by decide) (by omega)) (by omega) (by decide)) ?_
      have hq2 := r2.1.pf (v := nI k) hn8 hf hp
      have h7 : mput M2 (35 + 9 + f) p (nI k) 35 7 = -1 := (mpn (by omega)).trans r2.2.1
      have hz2 : Tz M (mput M2 (35 + 9 + f) p (nI k)) := (hT.to r2.2.2).to (fun x hx => mpo (by omega))
      refine x_aload_n hm rfl rfl ?_
      refine x_getf hm rfl (gR rfl rfl) ?_
      refine x_iload hm rfl rfl ?_
      refine x_cVv hm rfl rfl (e30 (by decide) hq2 (hVk k hk) ha) (fun M3 r3 => ?_)
      rw [h7] at r3
      have hz3 := hz2.to r3.tz
      refine x_aload_n hm rfl rfl ?_
      refine x_getf hm rfl (gR rfl rfl) ?_
      refine x_callV hm rfl rfl (e38 (by decide) r3.1 ((hVk k hk).days _)) ?_
      refine x_istore hm rfl rfl ?_
      refine x_iload hm rfl rfl ?_
      refine x_iload hm rfl rfl ?_
      refine x_icmp_le hm rfl (t := 65) rfl (fun h4 => ?_) (fun h4 => ?_)
      · have hle := h4
        refine x_iinc hm rfl rfl (v := nI 1) (by decide) rfl ?_
        rw [jI_add]
        refine x_goto hm rfl (t := 9) rfl ?_
        first
          | exact ih _ _ _ _ _ (by omega) (by omega) hz3 (by show _ = sCl (fun k => sThick (sDays (-1) nt np a (put1 r (62 + 7 * p + f) (nI k))) nt) k _; rw [← hz]; exact (if_pos hlt).symm)
          | exact ih _ _ _ _ _ (by omega) (by omega) hz3 (by show _ = sCl (fun k => sThick (sDays (-1) nt np a (put1 r (62 + 7 * p + f) (nI k))) nt) k _; rw [← hz]; exact (if_neg (Int32.not_lt.mpr hle)).symm)
      · have hlt := Int32.not_le.mp h4
        refine x_iload hm rfl rfl ?_
        refine x_istore hm rfl rfl ?_
        refine x_iload hm rfl rfl ?_
        refine x_istore hm rfl rfl ?_
        refine x_iinc hm rfl rfl (v := nI 1) (by decide) rfl ?_
        rw [jI_add]
        refine x_goto hm rfl (t := 9) rfl ?_
        first
          | exact ih _ _ _ _ _ (by omega) (by omega) hz3 (by show _ = sCl (fun k => sThick (sDays (-1) nt np a (put1 r (62 + 7 * p + f) (nI k))) nt) k _; rw [← hz]; exact (if_pos hlt).symm)
          | exact ih _ _ _ _ _ (by omega) (by omega) hz3 (by show _ = sCl (fun k => sThick (sDays (-1) nt np a (put1 r (62 + 7 * p + f) (nI k))) nt) k _; rw [← hz]; exact (if_neg (Int32.not_lt.mpr hle)).symm)
theorem gv49 {p f c a : Nat} (hR : Rel 1 nt np M r) (hV : Vs nt np r) (hc : M 1 7 = -1) (hp : p < np) (hf : f < 7) (hc1 : c ≤ 1000) (ha : a ≤ 1000) (hVk : ∀ k, k < c → Vs nt np (put1 r (62 + 7 * p + f) (nI k))) : ∃ v M', mT X 49 [.ref 0, .int (nI p), .int (nI f), .int (nI c), .int (nI a)] (con M) (some (.int v)) (con M') ∧ v = (fo (sCl (fun k => sThick (sDays (-1) nt np a (put1 r (62 + 7 * p + f) (nI k))) nt)) c (nI 0, -1)).1 := by
  refine ti_of (row := _) rfl (Nat.le_of_ble_eq_true rfl) ?_
  have hm : mMet 49 = some _ := rfl
  refine x_iconst hm rfl (v := nI 0) (by decide) ?_
  refine x_istore hm rfl rfl ?_
  refine x_iconst hm rfl (v := (-1 : Int32)) (by decide) ?_
  refine x_istore hm rfl rfl ?_
  refine x_iconst hm rfl (v := nI 0) (by decide) ?_
  refine x_istore hm rfl rfl ?_
  exact gv49l hR hV hc hp hf hc1 ha hVk _ 0 _ _ _ _ (Nat.lt_succ_self _) (Nat.zero_le _) Tz.rf rfl
theorem gv52l {t f c a : Nat} (hR : Rel 1 nt np M r) (hV : Vs nt np r) (hc : M 1 7 = -1) (ht : t < nt) (hf : f < 6) (hc1 : c ≤ 1000) (ha : a ≤ 1000) (hVk : ∀ k, k < c → Vs nt np (put1 r (14 + 6 * t + f) (nI k))) : ∀ (n k : Nat) (s g : Int32) (x8 : Option Value) (M1 : mM), c - k < n → k ≤ c → Tz M M1 → (s, g) = fo (sCl (fun k => sDays (-1) nt np a (put1 r (14 + 6 * t + f) (nI k)) (14 + 6 * t + 2))) k (nI 0, -1) → mEv X (QI (fun v M' => v = (fo (sCl (fun k => sDays (-1) nt np a (put1 r (14 + 6 * t + f) (nI k)) (14 + 6 * t + 2))) c (nI 0, -1)).1)) 52 9 [some (.ref 0), some (.int (nI t)), some (.int (nI f)), some (.int (nI c)), some (.int (nI a)), some (.int s), some (.int g), some (.int (nI k)), x8] [] (con M1) := by
  have hm : mMet 52 = some _ := rfl
  intro n
  induction n with
  | zero =>
    intro k s g x8 M1 hkn hkb hT hz
    omega
  | succ n ih =>
    intro k s g x8 M1 hkn hkb hT hz
    have hn8 := hV.1
    have hp8 := hV.2.1
    refine x_iload hm rfl rfl ?_
    refine x_iload_n hm rfl rfl ?_
    refine x_icmp_ge hm rfl (t := 75) rfl (fun h1 => ?_) (fun h1 => ?_)
    · obtain rfl : k = c := Nat.le_antisymm hkb ((jI_le (by omega) (by omega)).mp h1)
      refine x_iload hm rfl rfl ?_
      refine x_iret hm rfl rfl (by first | rfl | exact bI_nar | decide) ?_
      exact ⟨_, _, rfl, rfl, congrArg Prod.fst hz⟩
    · have hk : k < c := Nat.lt_of_not_le fun h => h1 (nI_le h (by omega))
      refine x_aload_n hm rfl rfl ?_
      refine x_cVv hm rfl rfl (g42 (hT.rel hR) hn8 hp8 (hT.c hc)) (fun M2 r2 => ?_)
      refine x_aload_n hm rfl rfl ?_
      refine x_getf hm rfl (gR rfl rfl) ?_
      refine x_getf hm rfl (gR rfl rfl) ?_
      refine x_iload_n hm rfl rfl ?_
      refine x_aald (v := .ref (35 + 2 + f)) hm rfl ?_ ?_
      · exact lQ 3 (Or.inr (Or.inl rfl)) (tI (b := 35) (by decide)) (tIk (by omega)) (by omega) (by decide)
      refine x_iload_n hm rfl rfl ?_
      refine x_iload hm rfl rfl ?_
      refine x_iast hm rfl (sI (tRowI (b := 35) (by decide) (by omega)) (by omega) (by decide)) ?_
      have hq2 := r2.1.pi (v := nI k) hn8 hf ht
      have h7 : mput M2 (35 + 2 + f) t (nI k) 35 7 = -1 := (mpn (by omega)).trans r2.2.1
      have hz2 : Tz M (mput M2 (35 + 2 + f) t (nI k)) := (hT.to r2.2.2).to (fun x hx => mpo (by omega))
      refine x_aload_n hm rfl rfl ?_
      refine x_getf hm rfl (gR rfl rfl) ?_
      refine x_iload hm rfl rfl ?_
      refine x_cVv hm rfl rfl (e30 (by decide) hq2 (hVk k hk) ha) (fun M3 r3 => ?_)
      rw [h7] at r3
      have hz3 := hz2.to r3.tz
      refine x_aload_n hm rfl rfl ?_
      refine x_getf hm rfl (gR rfl rfl) ?_
      refine x_getf hm rfl (gR rfl rfl) ?_
      refine x_iconst hm rfl (v := nI 2) (by decide) ?_
      refine x_aald hm rfl (lQ _ (by decide) rfl rfl (by omega) (by decide)) ?_
      refine x_iload_n hm rfl rfl ?_
      refine x_iald hm rfl (lI rfl (by omega) (by decide)) ?_
      rw [show M3 39 t = _ from r3.1.thick ht]
      refine x_istore hm rfl rfl ?_
      refine x_iload hm rfl rfl ?_
      refine x_iload hm rfl rfl ?_
      refine x_icmp_le hm rfl (t := 69) rfl (fun h4 => ?_) (fun h4 => ?_)
      · have hle := h4
        refine x_iinc hm rfl rfl (v := nI 1) (by decide) rfl ?_
        rw [jI_add]
        refine x_goto hm rfl (t := 9) rfl ?_
        first
          | exact ih _ _ _ _ _ (by omega) (by omega) hz3 (by show _ = sCl (fun k => sDays (-1) nt np a (put1 r (14 + 6 * t + f) (nI k)) (14 + 6 * t + 2)) k _; rw [← hz]; exact (if_pos hlt).symm)
          | exact ih _ _ _ _ _ (by omega) (by omega) hz3 (by show _ = sCl (fun k => sDays (-1) nt np a (put1 r (14 + 6 * t + f) (nI k)) (14 + 6 * t + 2)) k _; rw [← hz]; exact (if_neg (Int32.not_lt.mpr hle)).symm)
      · have hlt := Int32.not_le.mp h4
        refine x_iload hm rfl rfl ?_
        refine x_istore hm rfl rfl ?_
        refine x_iload hm rfl rfl ?_
        refine x_istore hm rfl rfl ?_
        refine x_iinc hm rfl rfl (v := nI 1) (by decide) rfl ?_
        rw [jI_add]
        refine x_goto hm rfl (t := 9) rfl ?_
        first
          | exact ih _ _ _ _ _ (by omega) (by omega) hz3 (by show _ = sCl (fun k => sDays (-1) nt np a (put1 r (14 + 6 * t + f) (nI k)) (14 + 6 * t + 2)) k _; rw [← hz]; exact (if_pos hlt).symm)
          | exact ih _ _ _ _ _ (by omega) (by omega) hz3 (by show _ = sCl (fun k => sDays (-1) nt np a (put1 r (14 + 6 * t + f) (nI k)) (14 + 6 * t + 2)) k _; rw [← hz]; exact (if_neg (Int32.not_lt.mpr hle)).symm)
theorem gv52 {t f c a : Nat} (hR : Rel 1 nt np M r) (hV : Vs nt np r) (hc : M 1 7 = -1) (ht : t < nt) (hf : f < 6) (hc1 : c ≤ 1000) (ha : a ≤ 1000) (hVk : ∀ k, k < c → Vs nt np (put1 r (14 + 6 * t + f) (nI k))) : ∃ v M', mT X 52 [.ref 0, .int (nI t), .int (nI f), .int (nI c), .int (nI a)] (con M) (some (.int v)) (con M') ∧ v = (fo (sCl (fun k => sDays (-1) nt np a (put1 r (14 + 6 * t + f) (nI k)) (14 + 6 * t + 2))) c (nI 0, -1)).1 := by
  refine ti_of (row := _) rfl (Nat.le_of_ble_eq_true rfl) ?_
  have hm : mMet 52 = some _ := rfl
  refine x_iconst hm rfl (v := nI 0) (by decide) ?_
  refine x_istore hm rfl rfl ?_
  refine x_iconst hm rfl (v := (-1 : Int32)) (by decide) ?_
  refine x_istore hm rfl rfl ?_
  refine x_iconst hm rfl (v := nI 0) (by decide) ?_
  refine x_istore hm rfl rfl ?_
  exact gv52l hR hV hc ht hf hc1 ha hVk _ 0 _ _ _ _ (Nat.lt_succ_self _) (Nat.zero_le _) Tz.rf rfl
theorem thick_le8 (hG : Gd nt np r) : Le 8000 (sThick r nt) := by
  obtain ⟨k, hk, e⟩ := thick_le nt fun t ht => (hG.2.2.2.2.2.1 t ht).2.1
  have := hG.2.2.1.1
  exact ⟨k, by omega, e⟩
theorem le_8000 {v : Int32} (h : Le 999 v) : Le 8000 v := by
  obtain ⟨k, hk, e⟩ := h
  exact ⟨k, by omega, e⟩
theorem gv48 {a1 a2 : Int32} (hR : Rel 1 nt np M r) (hG : Gd nt np r) (hc : M 1 7 = -1) : ∃ v M', mT X 48 [.ref 0, .int a1, .int a2] (con M) (some (.int v)) (con M') ∧ v = (qKind r nt np a1 a2).1 := by
  refine ti_of (row := _) rfl (Nat.le_of_ble_eq_true rfl) ?_
  have hm : mMet 48 = some _ := rfl
  have hV := hG.2.2.1
  have hn8 := hV.1
  have hp8 := hV.2.1
  refine x_aload_n hm rfl rfl ?_
  refine x_getf hm rfl (gR rfl rfl) ?_
  refine x_iload_n hm rfl rfl ?_
  refine x_callV hm rfl rfl (t19 (by decide)) ?_
  rw [hR.2.1]
  refine x_if_eq hm rfl (t := 21) rfl (fun h1 => ?_) (fun h1 => ?_)
  · refine x_aload_n hm rfl rfl ?_
    refine x_ldcI hm rfl (v := (-1000001 : Int32)) (by decide +kernel) ?_
    refine x_cVi hm rfl rfl (t7 (by decide +kernel)) (fun v2 M2 r2 => ?_)
    refine x_iret hm rfl rfl (by first | rfl | exact bI_nar | decide) ?_
    first
      | (have hq : qKind r nt np a1 a2 = (-1000001, true) := by
           unfold qKind
           rw [if_pos (by assumption)]
         exact ⟨_, _, rfl, rfl, r2.1.trans (fst_q hq)⟩)
      | (have hq : qKind r nt np (nI p) a2 = (-1000001, true) := by
           unfold qKind
           rw [if_neg (by assumption), if_pos (by assumption)]
         exact ⟨_, _, rfl, rfl, r2.1.trans (fst_q hq)⟩)
  · obtain ⟨p, hp, rfl⟩ := in_k rfl (by omega) (bI_ne0 h1)
    refine x_iload_n hm rfl rfl ?_
    refine x_iconst hm rfl (v := nI 0) (by decide) ?_
    refine x_bipush hm rfl (v := nI 60) (by decide) ?_
    refine x_callS hm rfl rfl (t6) ?_
    refine x_if_ne hm rfl (t := 28) rfl (fun h3 => ?_) (fun h3 => ?_)
    · obtain ⟨a, ha, rfl⟩ := le_k (by omega) (bI_ne0 h3)
      refine x_aload_n hm rfl rfl ?_
      refine x_iload_n hm rfl rfl ?_
      refine x_iconst hm rfl (v := nI 0) (by decide) ?_
      refine x_bipush hm rfl (v := nI 7) (by decide) ?_
      refine x_iload_n hm rfl rfl ?_
      refine x_cVi hm rfl rfl (gv49 (f := 0) (c := 7) hR hV hc hp (by decide) (by decide) (by omega) (fun k hk => (kind_gd hG hp hk).2.2.1)) (fun v4 M4 r4 => ?_)
      refine x_iret hm rfl rfl (by first | rfl | exact bI_nar | decide) ?_
      have hq : qKind r nt np (nI p) (nI a) = ((fo (sLl r (-1) nt np a (62 + 7 * p + 0)) 7 (nI 0, 2147483647)).1, false) := by
        unfold qKind
        rw [if_neg (by assumption), if_neg (by assumption)]
        rw [jI_nat (k := p) (by omega)]
        rw [jI_nat (k := a) (by omega)]
      exact ⟨_, _, rfl, rfl, (r4.trans (pick_lost (T := sThick r nt) (c := 7) (thick_le8 hG) (fun k hk => lost_le (kind_gd hG hp hk) (by omega)) (fun k z hk => by unfold sLl; rw [thick_o (fun t ht => by omega)]) (Or.inl (by decide))).symm).trans (fst_q hq)⟩
    · refine x_aload_n hm rfl rfl ?_
      refine x_ldcI hm rfl (v := (-1000001 : Int32)) (by decide +kernel) ?_
      refine x_cVi hm rfl rfl (t7 (by decide +kernel)) (fun v5 M5 r5 => ?_)
      refine x_iret hm rfl rfl (by first | rfl | exact bI_nar | decide) ?_
      first
        | (have hq : qKind r nt np a1 a2 = (-1000001, true) := by
             unfold qKind
             rw [if_pos (by assumption)]
           exact ⟨_, _, rfl, rfl, r5.1.trans (fst_q hq)⟩)
        | (have hq : qKind r nt np (nI p) a2 = (-1000001, true) := by
             unfold qKind
             rw [if_neg (by assumption), if_pos (by assumption)]
           exact ⟨_, _, rfl, rfl, r5.1.trans (fst_q hq)⟩)
theorem gv50 {a1 a2 : Int32} (hR : Rel 1 nt np M r) (hG : Gd nt np r) (hc : M 1 7 = -1) : ∃ v M', mT X 50 [.ref 0, .int a1, .int a2] (con M) (some (.int v)) (con M') ∧ v = (qWalk r nt np a1 a2).1 := by
  refine ti_of (row := _) rfl (Nat.le_of_ble_eq_true rfl) ?_
  have hm : mMet 50 = some _ := rfl
  have hV := hG.2.2.1
  have hn8 := hV.1
  have hp8 := hV.2.1
  refine x_aload_n hm rfl rfl ?_
  refine x_getf hm rfl (gR rfl rfl) ?_
  refine x_iload_n hm rfl rfl ?_
  refine x_callV hm rfl rfl (t19 (by decide)) ?_
  rw [hR.2.1]
  refine x_if_eq hm rfl (t := 21) rfl (fun h1 => ?_) (fun h1 => ?_)
  · refine x_aload_n hm rfl rfl ?_
    refine x_ldcI hm rfl (v := (-1000001 : Int32)) (by decide +kernel) ?_
    refine x_cVi hm rfl rfl (t7 (by decide +kernel)) (fun v2 M2 r2 => ?_)
    refine x_iret hm rfl rfl (by first | rfl | exact bI_nar | decide) ?_
    first
      | (have hq : qWalk r nt np a1 a2 = (-1000001, true) := by
           unfold qWalk
           rw [if_pos (by assumption)]
         exact ⟨_, _, rfl, rfl, r2.1.trans (fst_q hq)⟩)
      | (have hq : qWalk r nt np (nI p) a2 = (-1000001, true) := by
           unfold qWalk
           rw [if_neg (by assumption), if_pos (by assumption)]
         exact ⟨_, _, rfl, rfl, r2.1.trans (fst_q hq)⟩)
  · obtain ⟨p, hp, rfl⟩ := in_k rfl (by omega) (bI_ne0 h1)
    refine x_iload_n hm rfl rfl ?_
    refine x_iconst hm rfl (v := nI 0) (by decide) ?_
    refine x_bipush hm rfl (v := nI 60) (by decide) ?_
    refine x_callS hm rfl rfl (t6) ?_
    refine x_if_ne hm rfl (t := 28) rfl (fun h3 => ?_) (fun h3 => ?_)
    · obtain ⟨a, ha, rfl⟩ := le_k (by omega) (bI_ne0 h3)
      refine x_aload_n hm rfl rfl ?_
      refine x_iload_n hm rfl rfl ?_
      refine x_iconst hm rfl (v := nI 2) (by decide) ?_
      refine x_bipush hm rfl (v := nI 16) (by decide) ?_
      refine x_iload_n hm rfl rfl ?_
      refine x_cVi hm rfl rfl (gv49 (f := 2) (c := 16) hR hV hc hp (by decide) (by decide) (by omega) (fun k hk => (walk_gd hG hp hk).2.2.1)) (fun v4 M4 r4 => ?_)
      refine x_iret hm rfl rfl (by first | rfl | exact bI_nar | decide) ?_
      have hq : qWalk r nt np (nI p) (nI a) = ((fo (sLl r (-1) nt np a (62 + 7 * p + 2)) 16 (nI 0, 2147483647)).1, false) := by
        unfold qWalk
        rw [if_neg (by assumption), if_neg (by assumption)]
        rw [jI_nat (k := p) (by omega)]
        rw [jI_nat (k := a) (by omega)]
      exact ⟨_, _, rfl, rfl, (r4.trans (pick_lost (T := sThick r nt) (c := 16) (thick_le8 hG) (fun k hk => lost_le (walk_gd hG hp hk) (by omega)) (fun k z hk => by unfold sLl; rw [thick_o (fun t ht => by omega)]) (Or.inl (by decide))).symm).trans (fst_q hq)⟩
    · refine x_aload_n hm rfl rfl ?_
      refine x_ldcI hm rfl (v := (-1000001 : Int32)) (by decide +kernel) ?_
      refine x_cVi hm rfl rfl (t7 (by decide +kernel)) (fun v5 M5 r5 => ?_)
      refine x_iret hm rfl rfl (by first | rfl | exact bI_nar | decide) ?_
      first
        | (have hq : qWalk r nt np a1 a2 = (-1000001, true) := by
             unfold qWalk
             rw [if_pos (by assumption)]
           exact ⟨_, _, rfl, rfl, r5.1.trans (fst_q hq)⟩)
        | (have hq : qWalk r nt np (nI p) a2 = (-1000001, true) := by
             unfold qWalk
             rw [if_neg (by assumption), if_pos (by assumption)]
           exact ⟨_, _, rfl, rfl, r5.1.trans (fst_q hq)⟩)
theorem gv51 {a1 a2 : Int32} (hR : Rel 1 nt np M r) (hG : Gd nt np r) (hc : M 1 7 = -1) : ∃ v M', mT X 51 [.ref 0, .int a1, .int a2] (con M) (some (.int v)) (con M') ∧ v = (qPlace r nt np a1 a2).1 := by
  refine ti_of (row := _) rfl (Nat.le_of_ble_eq_true rfl) ?_
  have hm : mMet 51 = some _ := rfl
  have hV := hG.2.2.1
  have hn8 := hV.1
  have hp8 := hV.2.1
  refine x_aload_n hm rfl rfl ?_
  refine x_getf hm rfl (gR rfl rfl) ?_
  refine x_iload_n hm rfl rfl ?_
  refine x_callV hm rfl rfl (t10 (by decide)) ?_
  rw [hR.1]
  refine x_if_eq hm rfl (t := 21) rfl (fun h1 => ?_) (fun h1 => ?_)
  · refine x_aload_n hm rfl rfl ?_
    refine x_ldcI hm rfl (v := (-1000001 : Int32)) (by decide +kernel) ?_
    refine x_cVi hm rfl rfl (t7 (by decide +kernel)) (fun v2 M2 r2 => ?_)
    refine x_iret hm rfl rfl (by first | rfl | exact bI_nar | decide) ?_
    first
      | (have hq : qPlace r nt np a1 a2 = (-1000001, true) := by
           unfold qPlace
           rw [if_pos (by assumption)]
         exact ⟨_, _, rfl, rfl, r2.1.trans (fst_q hq)⟩)
      | (have hq : qPlace r nt np (nI t) a2 = (-1000001, true) := by
           unfold qPlace
           rw [if_neg (by assumption), if_pos (by assumption)]
         exact ⟨_, _, rfl, rfl, r2.1.trans (fst_q hq)⟩)
  · obtain ⟨t, ht, rfl⟩ := in_k rfl (by omega) (bI_ne0 h1)
    refine x_iload_n hm rfl rfl ?_
    refine x_iconst hm rfl (v := nI 0) (by decide) ?_
    refine x_bipush hm rfl (v := nI 60) (by decide) ?_
    refine x_callS hm rfl rfl (t6) ?_
    refine x_if_ne hm rfl (t := 28) rfl (fun h3 => ?_) (fun h3 => ?_)
    · obtain ⟨a, ha, rfl⟩ := le_k (by omega) (bI_ne0 h3)
      refine x_aload_n hm rfl rfl ?_
      refine x_iload_n hm rfl rfl ?_
      refine x_iconst hm rfl (v := nI 1) (by decide) ?_
      refine x_bipush hm rfl (v := nI 16) (by decide) ?_
      refine x_iload_n hm rfl rfl ?_
      refine x_cVi hm rfl rfl (gv52 (f := 1) (c := 16) hR hV hc ht (by decide) (by decide) (by omega) (fun k hk => (place_gd hG ht hk).2.2.1)) (fun v4 M4 r4 => ?_)
      refine x_iret hm rfl rfl (by first | rfl | exact bI_nar | decide) ?_
      have hq : qPlace r nt np (nI t) (nI a) = ((fo (sTk r (-1) nt np a t (14 + 6 * t + 1)) 16 (-1, -1)).1, false) := by
        unfold qPlace
        rw [if_neg (by assumption), if_neg (by assumption)]
        rw [jI_nat (k := t) (by omega)]
        rw [jI_nat (k := a) (by omega)]
      exact ⟨_, _, rfl, rfl, (r4.trans (pick_most (c := 16) (fun k hk => le_8000 (days_le (place_gd hG ht hk) (by omega) ht)) (fun k z hk => rfl) (by decide)).symm).trans (fst_q hq)⟩
    · refine x_aload_n hm rfl rfl ?_
      refine x_ldcI hm rfl (v := (-1000001 : Int32)) (by decide +kernel) ?_
      refine x_cVi hm rfl rfl (t7 (by decide +kernel)) (fun v5 M5 r5 => ?_)
      refine x_iret hm rfl rfl (by first | rfl | exact bI_nar | decide) ?_
      first
        | (have hq : qPlace r nt np a1 a2 = (-1000001, true) := by
             unfold qPlace
             rw [if_pos (by assumption)]
           exact ⟨_, _, rfl, rfl, r5.1.trans (fst_q hq)⟩)
        | (have hq : qPlace r nt np (nI t) a2 = (-1000001, true) := by
             unfold qPlace
             rw [if_neg (by assumption), if_pos (by assumption)]
           exact ⟨_, _, rfl, rfl, r5.1.trans (fst_q hq)⟩)
theorem gv53 {a1 a2 : Int32} (hR : Rel 1 nt np M r) (hG : Gd nt np r) (hc : M 1 7 = -1) : ∃ v M', mT X 53 [.ref 0, .int a1, .int a2] (con M) (some (.int v)) (con M') ∧ v = (qOwner r nt np a1 a2).1 := by
  refine ti_of (row := _) rfl (Nat.le_of_ble_eq_true rfl) ?_
  have hm : mMet 53 = some _ := rfl
  have hV := hG.2.2.1
  have hn8 := hV.1
  have hp8 := hV.2.1
  refine x_aload_n hm rfl rfl ?_
  refine x_getf hm rfl (gR rfl rfl) ?_
  refine x_iload_n hm rfl rfl ?_
  refine x_callV hm rfl rfl (t10 (by decide)) ?_
  rw [hR.1]
  refine x_if_eq hm rfl (t := 21) rfl (fun h1 => ?_) (fun h1 => ?_)
  · refine x_aload_n hm rfl rfl ?_
    refine x_ldcI hm rfl (v := (-1000001 : Int32)) (by decide +kernel) ?_
    refine x_cVi hm rfl rfl (t7 (by decide +kernel)) (fun v2 M2 r2 => ?_)
    refine x_iret hm rfl rfl (by first | rfl | exact bI_nar | decide) ?_
    first
      | (have hq : qOwner r nt np a1 a2 = (-1000001, true) := by
           unfold qOwner
           rw [if_pos (by assumption)]
         exact ⟨_, _, rfl, rfl, r2.1.trans (fst_q hq)⟩)
      | (have hq : qOwner r nt np (nI t) a2 = (-1000001, true) := by
           unfold qOwner
           rw [if_neg (by assumption), if_pos (by assumption)]
         exact ⟨_, _, rfl, rfl, r2.1.trans (fst_q hq)⟩)
  · obtain ⟨t, ht, rfl⟩ := in_k rfl (by omega) (bI_ne0 h1)
    refine x_iload_n hm rfl rfl ?_
    refine x_iconst hm rfl (v := nI 0) (by decide) ?_
    refine x_bipush hm rfl (v := nI 60) (by decide) ?_
    refine x_callS hm rfl rfl (t6) ?_
    refine x_if_ne hm rfl (t := 28) rfl (fun h3 => ?_) (fun h3 => ?_)
    · obtain ⟨a, ha, rfl⟩ := le_k (by omega) (bI_ne0 h3)
      refine x_aload_n hm rfl rfl ?_
      refine x_getf hm rfl (gR rfl rfl) ?_
      refine x_getf hm rfl (gI rfl rfl) ?_
      rw [hR.2.1]
      refine x_if_ne hm rfl (t := 45) rfl (fun h4 => ?_) (fun h4 => ?_)
      · have hnp0 : 0 < np := Nat.pos_of_ne_zero fun e => h4 (by rw [e]; rfl)
        refine x_aload_n hm rfl rfl ?_
        refine x_iload_n hm rfl rfl ?_
        refine x_iconst hm rfl (v := nI 4) (by decide) ?_
        refine x_aload_n hm rfl rfl ?_
        refine x_getf hm rfl (gR rfl rfl) ?_
        refine x_getf hm rfl (gI rfl rfl) ?_
        rw [hR.2.1]
        refine x_iload_n hm rfl rfl ?_
        refine x_cVi hm rfl rfl (gv52 (f := 4) (c := np) hR hV hc ht (by decide) (by omega) (by omega) (fun k hk => (owner_gd hG ht hk).2.2.1)) (fun v5 M5 r5 => ?_)
        refine x_iret hm rfl rfl (by first | rfl | exact bI_nar | decide) ?_
        have hq : qOwner r nt np (nI t) (nI a) = orN (fo (sTk r (-1) nt np a t (14 + 6 * t + 4)) np (-1, -1)).1 := by
          unfold qOwner
          rw [if_neg (by assumption), if_neg (by assumption)]
          rw [jI_nat (k := t) (by omega)]
          rw [jI_nat (k := a) (by omega)]
        obtain ⟨j, hj, e⟩ := sCl_k (L := (fun k => sDays (-1) nt np a (put1 r (14 + 6 * t + 4) (nI k)) (14 + 6 * t + 2))) (g := -1) np
        have e2 := (pick_most (F := sTk r (-1) nt np a t (14 + 6 * t + 4)) (b0 := -1) (b1 := nI 0) (c := np) (L := (fun k => sDays (-1) nt np a (put1 r (14 + 6 * t + 4) (nI k)) (14 + 6 * t + 2))) (fun k hk => le_8000 (days_le (owner_gd hG ht hk) (by omega) ht)) (fun k z hk => rfl) hnp0).trans e
        have hq9 := hq.trans ((congrArg orN e2).trans (orN_k (by omega)))
        exact ⟨_, _, rfl, rfl, (r5.trans e).trans (fst_q hq9)⟩
      · have hnp0 : np = 0 := jI_inj (by omega) (by decide) h4
        refine x_aload_n hm rfl rfl ?_
        refine x_ldcI hm rfl (v := (-1000004 : Int32)) (by decide +kernel) ?_
        refine x_cVi hm rfl rfl (t7 (by decide +kernel)) (fun v6 M6 r6 => ?_)
        refine x_iret hm rfl rfl (by first | rfl | exact bI_nar | decide) ?_
        have hq : qOwner r nt np (nI t) (nI a) = orN (fo (sTk r (-1) nt np a t (14 + 6 * t + 4)) np (-1, -1)).1 := by
          unfold qOwner
          rw [if_neg (by assumption), if_neg (by assumption)]
          rw [jI_nat (k := t) (by omega)]
          rw [jI_nat (k := a) (by omega)]
        have hq9 : qOwner r nt np (nI t) (nI a) = (-1000004, true) := by
          rw [hq]
          subst hnp0
          exact orN_m
        exact ⟨_, _, rfl, rfl, r6.1.trans (fst_q hq9)⟩
    · refine x_aload_n hm rfl rfl ?_
      refine x_ldcI hm rfl (v := (-1000001 : Int32)) (by decide +kernel) ?_
      refine x_cVi hm rfl rfl (t7 (by decide +kernel)) (fun v7 M7 r7 => ?_)
      refine x_iret hm rfl rfl (by first | rfl | exact bI_nar | decide) ?_
      first
        | (have hq : qOwner r nt np a1 a2 = (-1000001, true) := by
             unfold qOwner
             rw [if_pos (by assumption)]
           exact ⟨_, _, rfl, rfl, r7.1.trans (fst_q hq)⟩)
        | (have hq : qOwner r nt np (nI t) a2 = (-1000001, true) := by
             unfold qOwner
             rw [if_neg (by assumption), if_pos (by assumption)]
           exact ⟨_, _, rfl, rfl, r7.1.trans (fst_q hq)⟩)
theorem gv54l {a : Nat} (hR : Rel 1 nt np M r) (hV : Vs nt np r) (hc : M 1 7 = -1) (ha : a ≤ 1000) : ∀ (n k : Nat) (s g : Int32) (x5 : Option Value) (M1 : mM), np - k < n → k ≤ np → Tz M M1 → (s, g) = fo (sCl (fun k => sThick (sDays (nI k) nt np a r) nt)) k (nI 0, -1) → mEv X (QI (fun v M' => v = (fo (sCl (fun k => sThick (sDays (nI k) nt np a r) nt)) np (nI 0, -1)).1)) 54 41 [some (.ref 0), some (.int (nI a)), some (.int s), some (.int g), some (.int (nI k)), x5] [] (con M1) := by
  have hm : mMet 54 = some _ := rfl
  intro n
  induction n with
  | zero =>
    intro k s g x5 M1 hkn hkb hT hz
    omega
  | succ n ih =>
    intro k s g x5 M1 hkn hkb hT hz
    have hn8 := hV.1
    have hp8 := hV.2.1
    have hp1 : M1 1 4 = nI np := (hT.rel hR).2.1
    refine x_iload hm rfl rfl ?_
    refine x_aload_n hm rfl rfl ?_
    refine x_getf hm rfl (gR rfl rfl) ?_
    refine x_getf hm rfl (gI rfl rfl) ?_
    rw [hp1]
    refine x_icmp_ge hm rfl (t := 101) rfl (fun h1 => ?_) (fun h1 => ?_)
    · obtain rfl : k = np := Nat.le_antisymm hkb ((jI_le (by omega) (by omega)).mp h1)
      refine x_iload_n hm rfl rfl ?_
      refine x_iret hm rfl rfl (by first | rfl | exact bI_nar | decide) ?_
      exact ⟨_, _, rfl, rfl, congrArg Prod.fst hz⟩
    · have hk : k < np := Nat.lt_of_not_le fun h => h1 (nI_le h (by omega))
      refine x_aload_n hm rfl rfl ?_
      refine x_cVv hm rfl rfl (g42 (hT.rel hR) hn8 hp8 (hT.c hc)) (fun M2 r2 => ?_)
      refine x_aload_n hm rfl rfl ?_
      refine x_getf hm rfl (gR rfl rfl) ?_
      refine x_iload hm rfl rfl ?_
      refine x_putf hm rfl (pI rfl rfl (by decide) (by first | exact mFit_int | rfl | decide) rfl) ?_
      have hq2 := r2.1.calm (v := nI k)
      have h7 : mput M2 35 7 (nI k) 35 7 = nI k := mp0
      have hz2 : Tz M (mput M2 35 7 (nI k)) := (hT.to r2.2.2).to (fun x hx => mpo (by omega))
      refine x_aload_n hm rfl rfl ?_
      refine x_getf hm rfl (gR rfl rfl) ?_
      refine x_iload_n hm rfl rfl ?_
      refine x_cVv hm rfl rfl (e30 (by decide) hq2 hV ha) (fun M3 r3 => ?_)
      rw [h7] at r3
      have hz3 := hz2.to r3.tz
      refine x_aload_n hm rfl rfl ?_
      refine x_getf hm rfl (gR rfl rfl) ?_
      refine x_callV hm rfl rfl (e38 (by decide) r3.1 (hV.days _)) ?_
      refine x_istore hm rfl rfl ?_
      refine x_iload hm rfl rfl ?_
      refine x_iload_n hm rfl rfl ?_
      refine x_icmp_le hm rfl (t := 95) rfl (fun h4 => ?_) (fun h4 => ?_)
      · have hle := h4
        refine x_iinc hm rfl rfl (v := nI 1) (by decide) rfl ?_
        rw [jI_add]
        refine x_goto hm rfl (t := 41) rfl ?_
        first
          | exact ih _ _ _ _ _ (by omega) (by omega) hz3 (by show _ = sCl (fun k => sThick (sDays (nI k) nt np a r) nt) k _; rw [← hz]; exact (if_pos hlt).symm)
          | exact ih _ _ _ _ _ (by omega) (by omega) hz3 (by show _ = sCl (fun k => sThick (sDays (nI k) nt np a r) nt) k _; rw [← hz]; exact (if_neg (Int32.not_lt.mpr hle)).symm)
      · have hlt := Int32.not_le.mp h4
        refine x_iload hm rfl rfl ?_
        refine x_istore_n hm rfl rfl ?_
        refine x_iload hm rfl rfl ?_
        refine x_istore_n hm rfl rfl ?_
        refine x_iinc hm rfl rfl (v := nI 1) (by decide) rfl ?_
        rw [jI_add]
        refine x_goto hm rfl (t := 41) rfl ?_
        first
          | exact ih _ _ _ _ _ (by omega) (by omega) hz3 (by show _ = sCl (fun k => sThick (sDays (nI k) nt np a r) nt) k _; rw [← hz]; exact (if_pos hlt).symm)
          | exact ih _ _ _ _ _ (by omega) (by omega) hz3 (by show _ = sCl (fun k => sThick (sDays (nI k) nt np a r) nt) k _; rw [← hz]; exact (if_neg (Int32.not_lt.mpr hle)).symm)
theorem gv54 {a1 : Int32} (hR : Rel 1 nt np M r) (hG : Gd nt np r) (hc : M 1 7 = -1) : ∃ v M', mT X 54 [.ref 0, .int a1] (con M) (some (.int v)) (con M') ∧ v = (qWorst r nt np a1).1 := by
  refine ti_of (row := _) rfl (Nat.le_of_ble_eq_true rfl) ?_
  have hm : mMet 54 = some _ := rfl
  have hV := hG.2.2.1
  have hn8 := hV.1
  have hp8 := hV.2.1
  refine x_iload_n hm rfl rfl ?_
  refine x_iconst hm rfl (v := nI 0) (by decide) ?_
  refine x_bipush hm rfl (v := nI 60) (by decide) ?_
  refine x_callS hm rfl rfl (t6) ?_
  refine x_if_ne hm rfl (t := 17) rfl (fun h1 => ?_) (fun h1 => ?_)
  · obtain ⟨a, ha, rfl⟩ := le_k (by omega) (bI_ne0 h1)
    refine x_aload_n hm rfl rfl ?_
    refine x_getf hm rfl (gR rfl rfl) ?_
    refine x_getf hm rfl (gI rfl rfl) ?_
    rw [hR.2.1]
    refine x_if_ne hm rfl (t := 34) rfl (fun h2 => ?_) (fun h2 => ?_)
    · have hnp0 : 0 < np := Nat.pos_of_ne_zero fun e => h2 (by rw [e]; rfl)
      refine x_iconst hm rfl (v := nI 0) (by decide) ?_
      refine x_istore_n hm rfl rfl ?_
      refine x_iconst hm rfl (v := (-1 : Int32)) (by decide) ?_
      refine x_istore_n hm rfl rfl ?_
      refine x_iconst hm rfl (v := nI 0) (by decide) ?_
      refine x_istore hm rfl rfl ?_
      have hq : qWorst r nt np (nI a) = orN (fo (sWo r nt np a) np (-1, 2147483647)).1 := by
        unfold qWorst
        rw [if_neg (by assumption)]
        rw [jI_nat (k := a) (by omega)]
      obtain ⟨j, hj, e⟩ := sCl_k (L := (fun k => sThick (sDays (nI k) nt np a r) nt)) (g := -1) np
      have e2 := (pick_lost (F := sWo r nt np a) (T := sThick r nt) (b0 := -1) (b1 := nI 0) (c := np) (L := (fun k => sThick (sDays (nI k) nt np a r) nt)) (thick_le8 hG) (fun k hk => lost_le hG (by omega)) (fun k z hk => rfl) (Or.inl hnp0)).trans e
      have hq9 := hq.trans ((congrArg orN e2).trans (orN_k (by omega)))
      exact ev_mono (gv54l hR hV hc (by omega) _ 0 _ _ _ _ (Nat.lt_succ_self _) (Nat.zero_le _) Tz.rf rfl) (fun r9 D ⟨v, M2, g1, g2, g3⟩ => ⟨v, M2, g1, g2, (g3.trans e).trans (fst_q hq9)⟩)
    · have hnp0 : np = 0 := jI_inj (by omega) (by decide) h2
      refine x_aload_n hm rfl rfl ?_
      refine x_ldcI hm rfl (v := (-1000004 : Int32)) (by decide +kernel) ?_
      refine x_cVi hm rfl rfl (t7 (by decide +kernel)) (fun v3 M3 r3 => ?_)
      refine x_iret hm rfl rfl (by first | rfl | exact bI_nar | decide) ?_
      have hq : qWorst r nt np (nI a) = orN (fo (sWo r nt np a) np (-1, 2147483647)).1 := by
        unfold qWorst
        rw [if_neg (by assumption)]
        rw [jI_nat (k := a) (by omega)]
      have hq9 : qWorst r nt np (nI a) = (-1000004, true) := by
        rw [hq]
        subst hnp0
        exact orN_m
      exact ⟨_, _, rfl, rfl, r3.1.trans (fst_q hq9)⟩
  · refine x_aload_n hm rfl rfl ?_
    refine x_ldcI hm rfl (v := (-1000001 : Int32)) (by decide +kernel) ?_
    refine x_cVi hm rfl rfl (t7 (by decide +kernel)) (fun v4 M4 r4 => ?_)
    refine x_iret hm rfl rfl (by first | rfl | exact bI_nar | decide) ?_
    have hq : qWorst r nt np a1 = (-1000001, true) := by
      unfold qWorst
      rw [if_pos (by assumption)]
    exact ⟨_, _, rfl, rfl, r4.1.trans (fst_q hq)⟩
theorem gv59l {t a : Nat} (hR : Rel 1 nt np M r) (hG : Gd nt np r) (hc : M 1 7 = -1) (ht : t < nt) (ha : a ≤ 1000) : ∀ (n k : Nat) (M1 : mM), 10 - k < n → k ≤ 10 → Tz M M1 → (∀ i, i < k → ¬ 0 < sDays (-1) nt np a (put1 r (14 + 6 * t + 3) (nI i)) (14 + 6 * t + 2)) → mEv X (QI (fun v M' => v = (orN (fo (sNd r (-1) nt np a t) 10 (-1))).1)) 59 30 [some (.ref 0), some (.int (nI t)), some (.int (nI a)), some (.int (nI k))] [] (con M1) := by
  have hm : mMet 59 = some _ := rfl
  intro n
  induction n with
  | zero =>
    intro k M1 hkn hkb hT hno
    omega
  | succ n ih =>
    intro k M1 hkn hkb hT hno
    have hV := hG.2.2.1
    have hn8 := hV.1
    have hp8 := hV.2.1
    refine x_iload_n hm rfl rfl ?_
    refine x_bipush hm rfl (v := nI 9) (by decide) ?_
    refine x_icmp_gt hm rfl (t := 79) rfl (fun h1 => ?_) (fun h1 => ?_)
    · have hk : k = 10 := by
        have : ¬ k ≤ 9 := fun h => absurd h1 (Int32.not_lt.mpr ((jI_le (by omega) (by decide)).mpr h))
        omega
      have hq9 : orN (fo (sNd r (-1) nt np a t) 10 (-1)) = (-1000004, true) := by rw [nd_no (fun i hi => hno i (by omega))]; exact orN_m
      refine x_aload_n hm rfl rfl ?_
      refine x_ldcI hm rfl (v := (-1000004 : Int32)) (by decide +kernel) ?_
      refine x_cVi hm rfl rfl (t7 (by decide +kernel)) (fun v2 M2 r2 => ?_)
      refine x_iret hm rfl rfl (by first | rfl | exact bI_nar | decide) ?_
      exact ⟨_, _, rfl, rfl, r2.1.trans (congrArg Prod.fst hq9).symm⟩
    · have hk : k ≤ 9 := Nat.le_of_not_lt fun h => h1 (nI_lt h (by omega))
      refine x_aload_n hm rfl rfl ?_
      refine x_cVv hm rfl rfl (g42 (hT.rel hR) hn8 hp8 (hT.c hc)) (fun M3 r3 => ?_)
      refine x_aload_n hm rfl rfl ?_
      refine x_getf hm rfl (gR rfl rfl) ?_
      refine x_getf hm rfl (gR rfl rfl) ?_
      refine x_iconst hm rfl (v := nI 3) (by decide) ?_
      refine x_aald hm rfl (lQ _ (by decide) rfl rfl (by omega) (by decide)) ?_
      refine x_iload_n hm rfl rfl ?_
      refine x_iload_n hm rfl rfl ?_
      refine x_iast hm rfl (sI rfl (by omega) (by decide)) ?_
      have hq2 := r3.1.pi (f := 3) (v := nI k) hn8 (by decide) ht
      have h7 : mput M3 (35 + 2 + 3) t (nI k) 35 7 = -1 := (mpn (by omega)).trans r3.2.1
      have hz2 : Tz M (mput M3 (35 + 2 + 3) t (nI k)) := (hT.to r3.2.2).to (fun x hx => mpo (by omega))
      have hgk := paint_gd hG ht (show k < 10 by omega)
      refine x_aload_n hm rfl rfl ?_
      refine x_getf hm rfl (gR rfl rfl) ?_
      refine x_iload_n hm rfl rfl ?_
      refine x_cVv hm rfl rfl (e30 (by decide) hq2 hgk.2.2.1 ha) (fun M4 r4 => ?_)
      rw [h7] at r4
      have hz3 := hz2.to r4.tz
      have hth := r4.1.thick ht
      refine x_aload_n hm rfl rfl ?_
      refine x_getf hm rfl (gR rfl rfl) ?_
      refine x_iload_n hm rfl rfl ?_
      refine x_callV hm rfl rfl (t32 (by decide) (by omega)) ?_
      rw [show M4 (35 + 4) t = _ from hth]
      refine x_if_ne hm rfl (t := 73) rfl (fun h5 => ?_) (fun h5 => ?_)
      · have hno2 : ∀ i, i < k + 1 → ¬ 0 < sDays (-1) nt np a (put1 r (14 + 6 * t + 3) (nI i)) (14 + 6 * t + 2) := fun i hi => by
          by_cases e : i = k
          · subst e
            rw [bI_ne0 h5]
            decide
          · exact hno i (by omega)
        refine x_iinc hm rfl rfl (v := nI 1) (by decide) rfl ?_
        rw [jI_add]
        refine x_goto hm rfl (t := 30) rfl ?_
        exact ih _ _ (by omega) (by omega) hz3 hno2
      · have hq9 : orN (fo (sNd r (-1) nt np a t) 10 (-1)) = (nI k, false) := by rw [nd_yes (by omega) (pos_le (days_le hgk (by omega) ht) (by decide) (bI_eq0.mp h5)) hno]; exact orN_k (by omega)
        refine x_iload_n hm rfl rfl ?_
        refine x_iret hm rfl rfl (by first | rfl | exact bI_nar | decide) ?_
        exact ⟨_, _, rfl, rfl, (congrArg Prod.fst hq9).symm⟩
theorem gv59 {a1 a2 : Int32} (hR : Rel 1 nt np M r) (hG : Gd nt np r) (hc : M 1 7 = -1) : ∃ v M', mT X 59 [.ref 0, .int a1, .int a2] (con M) (some (.int v)) (con M') ∧ v = (qNeeds r nt np a1 a2).1 := by
  refine ti_of (row := _) rfl (Nat.le_of_ble_eq_true rfl) ?_
  have hm : mMet 59 = some _ := rfl
  have hV := hG.2.2.1
  have hn8 := hV.1
  have hp8 := hV.2.1
  refine x_aload_n hm rfl rfl ?_
  refine x_getf hm rfl (gR rfl rfl) ?_
  refine x_iload_n hm rfl rfl ?_
  refine x_callV hm rfl rfl (t10 (by decide)) ?_
  rw [hR.1]
  refine x_if_eq hm rfl (t := 21) rfl (fun h1 => ?_) (fun h1 => ?_)
  · refine x_aload_n hm rfl rfl ?_
    refine x_ldcI hm rfl (v := (-1000001 : Int32)) (by decide +kernel) ?_
    refine x_cVi hm rfl rfl (t7 (by decide +kernel)) (fun v2 M2 r2 => ?_)
    refine x_iret hm rfl rfl (by first | rfl | exact bI_nar | decide) ?_
    first
      | (have hq : qNeeds r nt np a1 a2 = (-1000001, true) := by
           unfold qNeeds
           rw [if_pos (by assumption)]
         exact ⟨_, _, rfl, rfl, r2.1.trans (fst_q hq)⟩)
      | (have hq : qNeeds r nt np (nI t) a2 = (-1000001, true) := by
           unfold qNeeds
           rw [if_neg (by assumption), if_pos (by assumption)]
         exact ⟨_, _, rfl, rfl, r2.1.trans (fst_q hq)⟩)
  · obtain ⟨t, ht, rfl⟩ := in_k rfl (by omega) (bI_ne0 h1)
    refine x_iload_n hm rfl rfl ?_
    refine x_iconst hm rfl (v := nI 0) (by decide) ?_
    refine x_bipush hm rfl (v := nI 60) (by decide) ?_
    refine x_callS hm rfl rfl (t6) ?_
    refine x_if_ne hm rfl (t := 28) rfl (fun h3 => ?_) (fun h3 => ?_)
    · obtain ⟨a, ha, rfl⟩ := le_k (by omega) (bI_ne0 h3)
      refine x_iconst hm rfl (v := nI 0) (by decide) ?_
      refine x_istore_n hm rfl rfl ?_
      have hq : qNeeds r nt np (nI t) (nI a) = orN (fo (sNd r (-1) nt np a t) 10 (-1)) := by
        unfold qNeeds
        rw [if_neg (by assumption), if_neg (by assumption)]
        rw [jI_nat (k := t) (by omega)]
        rw [jI_nat (k := a) (by omega)]
      rw [hq]
      exact gv59l hR hG hc ht (by omega) _ 0 _ (Nat.lt_succ_self _) (Nat.zero_le _) Tz.rf (fun i hi => absurd hi (Nat.not_lt_zero _))
    · refine x_aload_n hm rfl rfl ?_
      refine x_ldcI hm rfl (v := (-1000001 : Int32)) (by decide +kernel) ?_
      refine x_cVi hm rfl rfl (t7 (by decide +kernel)) (fun v4 M4 r4 => ?_)
      refine x_iret hm rfl rfl (by first | rfl | exact bI_nar | decide) ?_
      first
        | (have hq : qNeeds r nt np a1 a2 = (-1000001, true) := by
             unfold qNeeds
             rw [if_pos (by assumption)]
           exact ⟨_, _, rfl, rfl, r4.1.trans (fst_q hq)⟩)
        | (have hq : qNeeds r nt np (nI t) a2 = (-1000001, true) := by
             unfold qNeeds
             rw [if_neg (by assumption), if_pos (by assumption)]
           exact ⟨_, _, rfl, rfl, r4.1.trans (fst_q hq)⟩)
theorem J.asq {cmd rmd : Nat} {as bs : List Value} {F : (Nat → Int32) → Nat → Nat → Int32 × Bool} (hJ : J M) (hc : ∃ v M1, mT X cmd as (con M) (some (.int v)) (con M1) ∧ Cq M M1) (he : ∀ nt np, Rel 1 nt np M (M 67) → Gd nt np (M 67) → M 1 7 = -1 → ∃ v M1, mT X cmd as (con M) (some (.int v)) (con M1) ∧ v = (F (M 67) nt np).1)
    (hr : ∀ M1 nt np, J M1 → Gd nt np (M1 67) → ∃ v M', mT X rmd bs (con M1) (some (.int v)) (con M') ∧ v = (F (M1 67) nt np).1 ∧ Kq M1 M' ∧ Fq (F (M1 67) nt np) M1 M') : JJ X cmd rmd as bs M Eq := by
  obtain ⟨nt, np, hR, h1, h2, hV, hr0, hc7⟩ := hJ.2.2.1
  have g : Gd nt np (M 67) := ⟨h1, h2, hV, hr0⟩
  refine hJ.asv hc (he nt np hR g hc7) (fun M1 j => j.kq (F := fun nt np => F (M1 67) nt np) fun nt np g => hr M1 nt np j g) (fun M1 j k => ?_) rfl
  obtain ⟨v, M', a, b, -⟩ := hr M1 nt np j (by rw [k 67 (by decide)]; exact g)
  exact ⟨v, M', a, by rw [b, k 67 (by decide)]⟩
theorem j_ahead {a1 a2 : Int32} (hJ : J M) : JJ X 41 172 [.ref 0, .int a1, .int a2] [.ref 66, .int a1, .int a2] M Eq := hJ.asq (F := fun r nt np => qAhead r nt np a1 a2) (t41 hJ.1.1) (fun nt np hR g h7 => gv41 hR g h7) (fun M1 nt np j g => e172 j.1.1 g.1 g.2.2.1.1 g.2.1 g.2.2.1.2.1 j.2.2.2.2.2.2)
theorem j_lasts {a1 : Int32} (hJ : J M) : JJ X 44 176 [.ref 0, .int a1] [.ref 66, .int a1] M Eq := hJ.asq (F := fun r nt np => qLasts r nt np a1) (t44 hJ.1.1) (fun nt np hR g h7 => gv44 hR g h7) (fun M1 nt np j g => e176 j.1.1 g.1 g.2.2.1.1 g.2.1 g.2.2.1.2.1 j.2.2.2.2.2.2)
theorem j_gone {a1 : Int32} (hJ : J M) : JJ X 45 178 [.ref 0, .int a1] [.ref 66, .int a1] M Eq := hJ.asq (F := fun r nt np => qGone r nt np a1) (t45 hJ.1.1) (fun nt np hR g h7 => gv45 hR g h7) (fun M1 nt np j g => e178 j.1.1 g.1 g.2.2.1.1 g.2.1 g.2.2.1.2.1 j.2.2.2.2.2.2)
theorem j_worn {a1 : Int32} (hJ : J M) : JJ X 46 179 [.ref 0, .int a1] [.ref 66, .int a1] M Eq := hJ.asq (F := fun r nt np => qWorn r nt np a1) (t46 hJ.1.1) (fun nt np hR g h7 => gv46 hR g h7) (fun M1 nt np j g => e179 j.1.1 g.1 g.2.2.1.1 g.2.1 g.2.2.1.2.1 j.2.2.2.2.2.2)
theorem j_sees {a1 a2 : Int32} (hJ : J M) : JJ X 47 181 [.ref 0, .int a1, .int a2] [.ref 66, .int a1, .int a2] M Eq := hJ.asq (F := fun r nt np => qSees r nt np a1 a2) (t47 hJ.1.1) (fun nt np hR g h7 => gv47 hR g h7) (fun M1 nt np j g => e181 j.1.1 g.1 g.2.2.1.1 g.2.1 g.2.2.1.2.1 j.2.2.2.2.2.2)
theorem j_kindFor {a1 a2 : Int32} (hJ : J M) : JJ X 48 182 [.ref 0, .int a1, .int a2] [.ref 66, .int a1, .int a2] M Eq := hJ.asq (F := fun r nt np => qKind r nt np a1 a2) (t48 hJ.1.1) (fun nt np hR g h7 => gv48 hR g h7) (fun M1 nt np j g => e182 j.1.1 g.1 g.2.2.1.1 g.2.1 g.2.2.1.2.1 j.2.2.2.2.2.2)
theorem j_walkFor {a1 a2 : Int32} (hJ : J M) : JJ X 50 184 [.ref 0, .int a1, .int a2] [.ref 66, .int a1, .int a2] M Eq := hJ.asq (F := fun r nt np => qWalk r nt np a1 a2) (t50 hJ.1.1) (fun nt np hR g h7 => gv50 hR g h7) (fun M1 nt np j g => e184 j.1.1 g.1 g.2.2.1.1 g.2.1 g.2.2.1.2.1 j.2.2.2.2.2.2)
theorem j_placeFor {a1 a2 : Int32} (hJ : J M) : JJ X 51 185 [.ref 0, .int a1, .int a2] [.ref 66, .int a1, .int a2] M Eq := hJ.asq (F := fun r nt np => qPlace r nt np a1 a2) (t51 hJ.1.1) (fun nt np hR g h7 => gv51 hR g h7) (fun M1 nt np j g => e185 j.1.1 g.1 g.2.2.1.1 g.2.1 g.2.2.1.2.1 j.2.2.2.2.2.2)
theorem j_ownerFor {a1 a2 : Int32} (hJ : J M) : JJ X 53 187 [.ref 0, .int a1, .int a2] [.ref 66, .int a1, .int a2] M Eq := hJ.asq (F := fun r nt np => qOwner r nt np a1 a2) (t53 hJ.1.1) (fun nt np hR g h7 => gv53 hR g h7) (fun M1 nt np j g => e187 j.1.1 g.1 g.2.2.1.1 g.2.1 g.2.2.1.2.1 j.2.2.2.2.2.2)
theorem j_worst {a1 : Int32} (hJ : J M) : JJ X 54 188 [.ref 0, .int a1] [.ref 66, .int a1] M Eq := hJ.asq (F := fun r nt np => qWorst r nt np a1) (t54 hJ.1.1) (fun nt np hR g h7 => gv54 hR g h7) (fun M1 nt np j g => e188 j.1.1 g.1 g.2.2.1.1 g.2.1 g.2.2.1.2.1 j.2.2.2.2.2.2)
theorem j_needs {a1 a2 : Int32} (hJ : J M) : JJ X 59 192 [.ref 0, .int a1, .int a2] [.ref 66, .int a1, .int a2] M Eq := hJ.asq (F := fun r nt np => qNeeds r nt np a1 a2) (t59 hJ.1.1) (fun nt np hR g h7 => gv59 hR g h7) (fun M1 nt np j g => e192 j.1.1 g.1 g.2.2.1.1 g.2.1 g.2.2.1.2.1 j.2.2.2.2.2.2)
end EV
end
