/-! ===== what asking what will be rests on: pure facts ===== -/
section PQ
variable {nt np : Nat} {r q : Nat → Int32} {w : Int32}
/-- alike but for the day -/
def Eq0 (q r : Nat → Int32) : Prop := ∀ j, j ≠ 0 → q j = r j
theorem Eq0.eq (h : Eq0 q r) : q = put1 r 0 (q 0) := by
  funext j
  by_cases e : j = 0
  · subst e; exact put1_s.symm
  · rw [put1_o e]; exact h j e
theorem sEnv_0 {v o : Int32} {p t : Nat} : sEnv (put1 r 0 v) w o p t = sEnv r w o p t := by
  unfold sEnv sPl sRi sPl
  simp (disch := omega) only [put1_o]
theorem sWs_0 {v : Int32} {t : Nat} : ∀ k, sWs (put1 r 0 v) w t k = sWs r w t k := by
  intro k
  unfold sWs
  refine fo_c k _ fun p s _ => ?_
  simp (disch := omega) only [put1_o, sEnv_0]
theorem sWear_0 {v : Int32} {t : Nat} : sWear (put1 r 0 v) w np t = sWear r w np t := by
  unfold sWear
  rw [sWs_0, put1_o (by omega)]
theorem Eq0.put (h : Eq0 q r) {i : Nat} {v v' : Int32} (e : v = v') : Eq0 (put1 q i v) (put1 r i v') := by
  intro j hj
  subst e
  by_cases g : j = i
  · subst g; rw [put1_s, put1_s]
  · rw [put1_o g, put1_o g]; exact h j hj
theorem Eq0.worn (h : Eq0 q r) : ∀ n, Eq0 (sWorn q w np n q) (sWorn r w np n r) := by
  intro n
  induction n with
  | zero => exact h
  | succ n ih =>
    refine ih.put ?_
    have e := ih (14 + 6 * n + 2) (by omega)
    have e2 : sWear q w np n = sWear r w np n := by
      rw [h.eq]
      exact sWear_0
    show sWorn q w np n q (14 + 6 * n + 2) - sWear q w np n = sWorn r w np n r (14 + 6 * n + 2) - sWear r w np n
    rw [e, e2]
theorem Eq0.fp1 {s : Int32} (h : Eq0 q r) (t : Nat) : Eq0 (sFp1 t (q, s)).1 (sFp1 t (r, s)).1 ∧ (sFp1 t (q, s)).2 = (sFp1 t (r, s)).2 := by
  have e2 := h (14 + 6 * t + 2) (by omega)
  have e5 := h (14 + 6 * t + 5) (by omega)
  have e6 := h (14 + 6 * (r (14 + 6 * t + 5)).toNatClampNeg + 2) (by omega)
  by_cases g : ¬ r (14 + 6 * t + 2) = 0 ∧ ¬ r (14 + 6 * t + 5) < 0 ∧ r (14 + 6 * (r (14 + 6 * t + 5)).toNatClampNeg + 2) = 0
  · have g' : ¬ q (14 + 6 * t + 2) = 0 ∧ ¬ q (14 + 6 * t + 5) < 0 ∧ q (14 + 6 * (q (14 + 6 * t + 5)).toNatClampNeg + 2) = 0 := by rw [e2, e5, e6]; exact g
    rw [show sFp1 t (q, s) = (put1 q (14 + 6 * t + 2) (nI 0), nI 1) from if_pos g', show sFp1 t (r, s) = (put1 r (14 + 6 * t + 2) (nI 0), nI 1) from if_pos g]
    exact ⟨h.put rfl, rfl⟩
  · have g' : ¬ (¬ q (14 + 6 * t + 2) = 0 ∧ ¬ q (14 + 6 * t + 5) < 0 ∧ q (14 + 6 * (q (14 + 6 * t + 5)).toNatClampNeg + 2) = 0) := by rw [e2, e5, e6]; exact g
    rw [show sFp1 t (q, s) = (q, s) from if_neg g', show sFp1 t (r, s) = (r, s) from if_neg g]
    exact ⟨h, rfl⟩
theorem Eq0.fp (h : Eq0 q r) : ∀ n, Eq0 (sFp n q).1 (sFp n r).1 ∧ (sFp n q).2 = (sFp n r).2 := by
  intro n
  induction n with
  | zero => exact ⟨h, rfl⟩
  | succ n ih =>
    have e := ih.1.fp1 (s := (sFp n q).2) n
    rw [show ((sFp n r).1, (sFp n q).2) = sFp n r by rw [ih.2]] at e
    exact e
theorem Eq0.fall {n : Nat} : ∀ (f : Nat) {q r : Nat → Int32}, Eq0 q r → Eq0 (sFall n f q) (sFall n f r) := by
  intro f
  induction f with
  | zero => exact fun h => h
  | succ f ih =>
    intro q r h
    obtain ⟨h1, h2⟩ := h.fp n
    by_cases g : (sFp n r).2 = nI 0
    · rw [show sFall n (f + 1) q = (sFp n q).1 from if_pos (h2.trans g), show sFall n (f + 1) r = (sFp n r).1 from if_pos g]
      exact h1
    · rw [show sFall n (f + 1) q = sFall n f (sFp n q).1 from if_neg (fun e => g (h2.symm.trans e)), show sFall n (f + 1) r = sFall n f (sFp n r).1 from if_neg g]
      exact ih h1
theorem Eq0.go (h : Eq0 q r) : ∀ n, Eq0 (sGo n q) (sGo n r) := by
  intro n
  induction n with
  | zero => exact h
  | succ n ih =>
    refine ih.put ?_
    have e := ih (62 + 7 * n + 1) (by omega)
    have e2 := ih (62 + 7 * n + 2) (by omega)
    show rem16 (sGo n q (62 + 7 * n + 1) + sGo n q (62 + 7 * n + 2)) = rem16 (sGo n r (62 + 7 * n + 1) + sGo n r (62 + 7 * n + 2))
    rw [e, e2]
theorem Eq0.day (h : Eq0 q r) : Eq0 (sDay w nt np q) (sDay w nt np r) := by
  intro j hj
  show put1 _ 0 _ j = put1 _ 0 _ j
  rw [put1_o hj, put1_o hj]
  exact (Eq0.fall 8 (h.worn nt)).go np j hj
theorem Eq0.days (h : Eq0 q r) : ∀ n, Eq0 (sDays w nt np n q) (sDays w nt np n r) := by
  intro n
  induction n with
  | zero => exact h
  | succ n ih => exact ih.day
theorem Gd.d0 (h : Gd nt np r) : Gd nt np (put1 r 0 (nI 0)) := by
  obtain ⟨h1, h2, ⟨v1, v2, v3, v4⟩, ⟨w1, w2, w3, w4⟩⟩ := h
  refine ⟨(put1_o (by decide)).trans h1, (put1_o (by decide)).trans h2, ⟨v1, v2, fun t ht => ?_, fun q hq => ?_⟩, ⟨⟨0, by decide, put1_s⟩, fun z hz => ?_, fun t ht => ?_, fun q hq => ?_⟩⟩
  · rw [put1_o (by omega), put1_o (by omega), put1_o (by omega)]; exact v3 t ht
  · rw [put1_o (by omega)]; exact v4 q hq
  · rw [put1_o (by omega)]; exact w2 z hz
  · rw [put1_o (by omega), put1_o (by omega), put1_o (by omega)]; exact w3 t ht
  · obtain ⟨g1, g2, g3⟩ := w4 q hq
    rw [put1_o (by omega), put1_o (by omega)]
    exact ⟨g1, g2, fun z hz => by rw [put1_o (by omega)]; exact g3 z hz⟩
theorem Eq0.rst {v : Int32} : Eq0 r (put1 r 0 v) := fun j hj => (put1_o hj).symm
theorem days_le (h : Gd nt np r) {n t : Nat} (hn : n ≤ 1000) (ht : t < nt) : Le 999 (sDays w nt np n r (14 + 6 * t + 2)) := by
  rw [(Eq0.rst (r := r) (v := nI 0)).days n _ (by omega)]
  exact ((h.d0.days (w := w) (d := 0) put1_s n (by omega)).1.2.2.2.2.2.1 t ht).2.1
theorem thick_le : ∀ n, (∀ t, t < n → Le 999 (r (14 + 6 * t + 2))) → Le (999 * n) (sThick r n) := by
  intro n
  induction n with
  | zero => exact fun _ => ⟨0, Nat.zero_le _, rfl⟩
  | succ n ih =>
    intro h
    obtain ⟨a, ha, ea⟩ := ih fun t ht => h t (by omega)
    obtain ⟨b, hb, eb⟩ := h n (Nat.lt_succ_self n)
    refine ⟨a + b, by omega, ?_⟩
    show sThick r n + r (14 + 6 * n + 2) = _
    rw [ea, eb, jI_add]
theorem lost_le (h : Gd nt np r) {n : Nat} (hn : n ≤ 1000) : Le 8000 (sThick (sDays w nt np n r) nt) := by
  obtain ⟨k, hk, e⟩ := thick_le nt fun t ht => days_le (w := w) h hn ht
  have := h.2.2.1.1
  exact ⟨k, by omega, e⟩
theorem thick_o {pl : Nat} {v : Int32} (h : ∀ t, t < nt → ¬ 14 + 6 * t + 2 = pl) : sThick (put1 r pl v) nt = sThick r nt := fo_c nt _ fun t s ht => by rw [put1_o (h t ht)]
/-- the class's choice: what leaves most, the first of them -/
def sCl (L : Nat → Int32) (k : Nat) (z : Int32 × Int32) : Int32 × Int32 := if z.2 < L k then (nI k, L k) else z
theorem cmp_k {x l m : Nat} (hx : x ≤ 8000) (hl : l ≤ 8000) (hm : m ≤ 8000) : nI x - nI l < nI x - nI m ↔ nI m < nI l := by
  rw [Int32.lt_iff_toInt_lt, Int32.lt_iff_toInt_lt, Int32.toInt_sub, Int32.toInt_sub, jI_int (by omega), jI_int (by omega), jI_int (by omega), Int.bmod_def, Int.bmod_def]
  omega
theorem cmp_m {x l : Nat} (hx : x ≤ 8000) (hl : l ≤ 8000) : nI x - nI l < nI 2147483647 := by
  rw [Int32.lt_iff_toInt_lt, Int32.toInt_sub, jI_int (by omega), jI_int (by omega), jI_int (by decide), Int.bmod_def]
  omega
theorem neg1_lt {l : Nat} (hl : l ≤ 8000) : (-1 : Int32) < nI l := by
  rw [Int32.lt_iff_toInt_lt, jI_int (by omega), show (-1 : Int32).toInt = -1 from by decide]
  omega
theorem mn2_t {x y : Int32} (h : y < x) : mn2 x y = y := if_pos h
theorem mn2_f {x y : Int32} (h : ¬ y < x) : mn2 x y = x := if_neg h
/-- least lost is most left -/
theorem pick_lost {T : Int32} {L : Nat → Int32} {F : Nat → Int32 × Int32 → Int32 × Int32} {c : Nat} {b0 b1 : Int32} (hT : Le 8000 T) (hL : ∀ k, k < c → Le 8000 (L k)) (hF : ∀ k z, k < c → F k z = (if T - L k < z.2 then nI k else z.1, mn2 z.2 (T - L k))) (hb : 0 < c ∨ b0 = b1) : (fo F c (b0, nI 2147483647)).1 = (fo (sCl L) c (b1, -1)).1 := by
  obtain ⟨x, hx, rfl⟩ := hT
  have main : ∀ k, k ≤ c → 0 < k → (fo F k (b0, nI 2147483647)).1 = (fo (sCl L) k (b1, -1)).1 ∧ ∃ m, m ≤ 8000 ∧ (fo (sCl L) k (b1, -1)).2 = nI m ∧ (fo F k (b0, nI 2147483647)).2 = nI x - nI m := by
    intro k
    induction k with
    | zero => exact fun _ h => absurd h (Nat.lt_irrefl _)
    | succ k ih =>
      intro hk _
      obtain ⟨l, hl, el⟩ := hL k hk
      show (F k (fo F k (b0, nI 2147483647))).1 = (sCl L k (fo (sCl L) k (b1, -1))).1 ∧ ∃ m, m ≤ 8000 ∧ (sCl L k (fo (sCl L) k (b1, -1))).2 = nI m ∧ (F k (fo F k (b0, nI 2147483647))).2 = nI x - nI m
      rw [hF k _ hk, el]
      by_cases h0 : k = 0
      · subst h0
        rw [show fo F 0 (b0, nI 2147483647) = (b0, nI 2147483647) from rfl, show sCl L 0 (fo (sCl L) 0 (b1, -1)) = (nI 0, L 0) from if_pos (by rw [el]; exact neg1_lt hl)]
        dsimp only
        rw [if_pos (cmp_m hx hl), mn2_t (cmp_m hx hl)]
        exact ⟨rfl, l, hl, el, rfl⟩
      · obtain ⟨e1, m, hm, e2, e3⟩ := ih (by omega) (by omega)
        dsimp only
        rw [e3]
        by_cases g : nI m < nI l
        · rw [show sCl L k (fo (sCl L) k (b1, -1)) = (nI k, L k) from if_pos (by rw [e2, el]; exact g), if_pos ((cmp_k hx hl hm).mpr g), mn2_t ((cmp_k hx hl hm).mpr g)]
          exact ⟨rfl, l, hl, el, rfl⟩
        · rw [show sCl L k (fo (sCl L) k (b1, -1)) = fo (sCl L) k (b1, -1) from if_neg (by rw [e2, el]; exact g), if_neg (fun z => g ((cmp_k hx hl hm).mp z)), mn2_f (fun z => g ((cmp_k hx hl hm).mp z))]
          exact ⟨e1, m, hm, e2, rfl⟩
  rcases Nat.eq_zero_or_pos c with h | h
  · subst h
    exact hb.resolve_left (Nat.lt_irrefl _)
  · exact (main c (Nat.le_refl _) h).1
theorem pick_most {L : Nat → Int32} {F : Nat → Int32 × Int32 → Int32 × Int32} {c : Nat} {b0 b1 : Int32} (hL : ∀ k, k < c → Le 8000 (L k)) (hF : ∀ k z, k < c → F k z = (if z.2 < L k then nI k else z.1, if z.2 < L k then L k else z.2)) (hb : 0 < c) : (fo F c (b0, -1)).1 = (fo (sCl L) c (b1, -1)).1 := by
  have main : ∀ k, k ≤ c → 0 < k → fo F k (b0, -1) = fo (sCl L) k (b1, -1) := by
    intro k
    induction k with
    | zero => exact fun _ h => absurd h (Nat.lt_irrefl _)
    | succ k ih =>
      intro hk _
      obtain ⟨l, hl, el⟩ := hL k hk
      show F k (fo F k (b0, -1)) = sCl L k (fo (sCl L) k (b1, -1))
      rw [hF k _ hk]
      by_cases h0 : k = 0
      · subst h0
        rw [show fo F 0 (b0, -1) = (b0, -1) from rfl, show sCl L 0 (fo (sCl L) 0 (b1, -1)) = (nI 0, L 0) from if_pos (by rw [el]; exact neg1_lt hl)]
        dsimp only
        rw [el, if_pos (neg1_lt hl), if_pos (neg1_lt hl)]
      · rw [ih (by omega) (by omega)]
        by_cases g : (fo (sCl L) k (b1, -1)).2 < L k
        · rw [show sCl L k (fo (sCl L) k (b1, -1)) = (nI k, L k) from if_pos g, if_pos g, if_pos g]
        · rw [show sCl L k (fo (sCl L) k (b1, -1)) = fo (sCl L) k (b1, -1) from if_neg g, if_neg g, if_neg g]
  rw [main c (Nat.le_refl _) hb]
/-- where one is behind i days of walking -/
def pos (w x : Int32) (i : Nat) : Int32 := fo (fun _ z => rem16 (z + w)) i x
theorem pos_16 : ∀ a, a < 16 → ∀ w, w < 16 → pos (nI w) (nI a) 16 = nI a := by decide +kernel
theorem pos_p {x : Int32} (h : pos w x 16 = x) : ∀ i, pos w x (16 + i) = pos w x i := by
  intro i
  induction i with
  | zero => exact h
  | succ i ih =>
    show rem16 (pos w x (16 + i) + w) = rem16 (pos w x i + w)
    rw [ih]
theorem pos_m {x : Int32} (h : pos w x 16 = x) (i : Nat) : pos w x i = pos w x (i % 16) := by
  have e : ∀ j k, pos w x (16 * k + j) = pos w x j := by
    intro j k
    induction k with
    | zero => rw [Nat.mul_zero, Nat.zero_add]
    | succ k ih => rw [show 16 * (k + 1) + j = 16 + (16 * k + j) by omega, pos_p h, ih]
  have := e (i % 16) (i / 16)
  rw [Nat.div_add_mod] at this
  exact this
theorem pos_s {x : Int32} : ∀ i, pos w (rem16 (x + w)) i = pos w x (i + 1) := by
  intro i
  induction i with
  | zero => rfl
  | succ i ih =>
    show rem16 (pos w (rem16 (x + w)) i + w) = rem16 (pos w x (i + 1) + w)
    rw [ih]
theorem sSe_no {g : Int32} : ∀ (m n : Nat) (x : Int32), (∀ i, i < m → ¬ pos w x i = g) → sSe g w m n x = (-1000004, true) := by
  intro m
  induction m with
  | zero => intro n x _; rfl
  | succ m ih =>
    intro n x h
    show (if x = g then (nI n, false) else sSe g w m (n + 1) (rem16 (x + w))) = _
    rw [if_neg (show ¬ x = g from h 0 (Nat.succ_pos m))]
    exact ih _ _ fun i hi => by rw [pos_s]; exact h (i + 1) (by omega)
theorem sSe_yes {g : Int32} {f : Nat} : ∀ (m n : Nat) (x : Int32), (∃ i, i < m ∧ pos w x i = g) → sSe g w (m + f) n x = sSe g w m n x := by
  intro m
  induction m with
  | zero => intro n x ⟨i, hi, _⟩; exact absurd hi (Nat.not_lt_zero _)
  | succ m ih =>
    intro n x ⟨i, hi, e⟩
    rw [show m + 1 + f = (m + f) + 1 by omega]
    show (if x = g then (nI n, false) else sSe g w (m + f) (n + 1) (rem16 (x + w))) = (if x = g then (nI n, false) else sSe g w m (n + 1) (rem16 (x + w)))
    by_cases h : x = g
    · rw [if_pos h, if_pos h]
    · rw [if_neg h, if_neg h]
      refine ih _ _ ⟨i - 1, ?_, ?_⟩
      · cases i with
        | zero => exact absurd e h
        | succ i => omega
      · cases i with
        | zero => exact absurd e h
        | succ i => rw [pos_s]; exact e
theorem sSe_101 {g x : Int32} (hx : Le 15 x) (hw : Le 15 w) : sSe g w 101 0 x = sSe g w 16 0 x := by
  obtain ⟨a, ha, rfl⟩ := hx
  obtain ⟨b, hb, rfl⟩ := hw
  have hp := pos_16 a (by omega) b (by omega)
  by_cases h : ∃ i, i < 16 ∧ pos (nI b) (nI a) i = g
  · exact sSe_yes (f := 85) 16 0 _ h
  · have h1 : ∀ i, ¬ pos (nI b) (nI a) i = g := fun i e => h ⟨i % 16, Nat.mod_lt _ (by decide), (pos_m hp i).symm.trans e⟩
    rw [sSe_no 101 0 _ fun i _ => h1 i, sSe_no 16 0 _ fun i _ => h1 i]
theorem orN_k {k : Nat} (h : k < 2147483648) : orN (nI k) = (nI k, false) := if_pos (Int32.not_lt.mp (jI_nn h))
theorem orN_m : orN (-1) = (-1000004, true) := if_neg (by decide)
end PQ
