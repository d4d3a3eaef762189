/-! ===== the class, exactly: towns read ===== -/
section EC
variable {X : mSc} {Q : Option Value → mHp → Prop} {M : mM} {b nt np : Nat} {r : Nat → Int32}
theorem ka_k : ∀ k, k ≤ 6 → mKA k = ab (nI k) ∧ (mKA k = -1 ∨ mKA k = nI 0 ∨ mKA k = nI 1 ∨ mKA k = nI 2 ∨ mKA k = nI 3 ∨ mKA k = nI 4 ∨ mKA k = nI 5 ∨ mKA k = nI 6) := by decide +kernel
theorem ka_r {k : Nat} (h : k ≤ 6) : mKA k < 0 ∨ ∃ j, j ≤ 6 ∧ mKA k = nI j := by
  rcases (ka_k k h).2 with e | e | e | e | e | e | e | e <;> rw [e]
  · exact Or.inl (by decide)
  · exact Or.inr ⟨0, by decide, rfl⟩
  · exact Or.inr ⟨1, by decide, rfl⟩
  · exact Or.inr ⟨2, by decide, rfl⟩
  · exact Or.inr ⟨3, by decide, rfl⟩
  · exact Or.inr ⟨4, by decide, rfl⟩
  · exact Or.inr ⟨5, by decide, rfl⟩
  · exact Or.inr ⟨6, by decide, rfl⟩
theorem m14 {k0 o : Int32} : ∀ (n i : Nat) (x : Int32), rkU x < n → i + n ≤ 7 → (x < 0 ∨ ∃ k, k ≤ 6 ∧ x = nI k) → mEv X (fun z D => z = some (.int (bI (uo n x o = true))) ∧ D = con M) 14 4 [some (.int k0), some (.int o), some (.int x), some (.int (nI i))] [] (con M) := by
  have hm : mMet 14 = some _ := rfl
  intro n
  induction n with
  | zero =>
    intro i x hx hin hk
    omega
  | succ n ih =>
    intro i x hx hin hk
    refine x_iload_n hm rfl rfl ?_
    refine x_bipush hm rfl (v := nI 7) (by decide) ?_
    refine x_icmp_ge hm rfl (t := 39) rfl (fun h1 => ?_) (fun h1 => ?_)
    · exact absurd ((jI_le (by decide) (by omega)).mp h1) (by omega) --stop
    · refine x_iload_n hm rfl rfl ?_
      refine x_if_lt hm rfl (t := 39) rfl (fun h2 => ?_) (fun h2 => ?_)
      · have hneg := h2
        refine x_iconst hm rfl (v := nI 0) (by decide) ?_
        refine x_iret hm rfl rfl (by first | rfl | exact bI_nar | decide) ?_
        first
          | exact qt (congrArg Value.int (bI_t (uo_eq hneg (by first | exact heq | exact Classical.byContradiction heq))))
          | exact qt (congrArg Value.int (bI_f (by rw [uo_neg hneg]; exact Bool.false_ne_true)))
      · obtain ⟨k, hk6, rfl⟩ := hk.resolve_left h2
        have hneg := h2
        refine x_iload_n hm rfl rfl ?_
        refine x_bipush hm rfl (v := nI 7) (by decide) ?_
        refine x_icmp_ge hm rfl (t := 39) rfl (fun h3 => ?_) (fun h3 => ?_)
        · exact absurd ((jI_le (by decide) (by omega)).mp h3) (by omega) --stop
        · refine x_iload_n hm rfl rfl ?_
          refine x_iload_n hm rfl rfl ?_
          refine x_icmp_ne hm rfl (t := 27) rfl (fun h4 => ?_) (fun h4 => ?_)
          · refine x_gets hm rfl ?_
            refine x_iload_n hm rfl rfl ?_
            refine x_iald hm rfl (lK (by omega)) ?_
            rw [(ka_k k hk6).1]
            refine x_istore_n hm rfl rfl ?_
            refine x_iinc hm rfl rfl (v := nI 1) (by decide) rfl ?_
            rw [jI_add]
            refine x_goto hm rfl (t := 4) rfl ?_
            rw [uo_ab hneg (by assumption)]
            exact ih _ _ (by have := ab_rk hneg; omega) (by omega) (by rw [← (ka_k k hk6).1]; exact ka_r hk6)
          · have heq := h4
            refine x_iconst hm rfl (v := nI 1) (by decide) ?_
            refine x_iret hm rfl rfl (by first | rfl | exact bI_nar | decide) ?_
            first
              | exact qt (congrArg Value.int (bI_t (uo_eq hneg (by first | exact heq | exact Classical.byContradiction heq))))
              | exact qt (congrArg Value.int (bI_f (by rw [uo_neg hneg]; exact Bool.false_ne_true)))
theorem e14 {k : Nat} {o : Int32} (hk : k ≤ 6) : mT X 14 [.int (nI k), .int o] (con M) (some (.int (bI (uo 5 (nI k) o = true)))) (con M) := by
  refine mT.of (row := _) rfl (Nat.le_of_ble_eq_true rfl) ?_
  have hm : mMet 14 = some _ := rfl
  refine x_iload_n hm rfl rfl ?_
  refine x_istore_n hm rfl rfl ?_
  refine x_iconst hm rfl (v := nI 0) (by decide) ?_
  refine x_istore_n hm rfl rfl ?_
  exact m14 5 0 _ (by have := rkU_le (nI k); omega) (by decide) (Or.inr ⟨k, hk, rfl⟩)
theorem kdE5c {k o th pl ri : Int32} (h : k.toInt = 1 + ((4 : Nat) : Int)) : pl * nI 2 = sKd k o th pl ri := by
  rw [Int32.mul_comm]
  exact kdE5 h
theorem mxq {v w : Int32} (h : v = w) : (if nI 0 < v then v else nI 0) = mx0 w := by rw [h]; rfl
theorem mxz {w : Int32} (h : nI 0 = w) : nI 0 = mx0 w := by
  rw [← h]
  rfl
theorem m13a {p t : Nat} {o v6 v7 : Int32} (hb : b = 1 ∨ b = 18 ∨ b = 35) (hR : Rel b nt np M r) (hV : Vs nt np r) (hp : p < np) (ht : t < nt) (ho : o = -1 ∨ ∃ k, k < np ∧ o = nI k) (h7 : v7 = sRi r o p t) : mEv X (fun z D => z = some (.int (mx0 (sKd (r (62 + 7 * p + 0)) o (r (14 + 6 * t + 2)) (sPl r p t) (sRi r o p t)))) ∧ D = con M) 13 87 [some (.ref b), some (.int o), some (.int (nI p)), some (.int (nI t)), some (.int (r (14 + 6 * t + 2))), some (.int (sPl r p t)), some (.int v6), some (.int v7)] [] (con M) := by
  have hm : mMet 13 = some _ := rfl
  subst h7
  have hp8 := hV.p8 hp
  have ht8 := hV.t8 ht
  refine x_aload_n hm rfl rfl ?_
  refine x_getf hm rfl (gR (tO hb) rfl) ?_
  refine x_iconst hm rfl (v := nI 0) (by decide) ?_
  refine x_aald hm rfl (by first | exact lQ 3 (Or.inr (Or.inl rfl)) (tI hb) rfl (by omega) (by decide) | exact lQ 3 (Or.inr (Or.inl rfl)) (tF hb) rfl (by omega) (by decide) | exact lQ 3 (Or.inr (Or.inl rfl)) (tI hb) (tIk (by omega)) (by omega) (by decide) | exact lQ 3 (Or.inr (Or.inl rfl)) (tF hb) (tFk (by omega)) (by omega) (by decide)) ?_
  refine x_iload_n hm rfl rfl ?_
  refine x_iald hm rfl (by first | exact lI (tRow hb (by omega)) (by omega) (by decide) | exact lI (tRowI hb (by omega)) (by omega) (by decide) | exact lI (tRowF hb (by omega)) (by omega) (by decide) | exact lI (tSp hb) (by omega) (by decide) | exact lI rfl (by omega) (by decide)) ?_
  rw [hR.kind hp]
  refine x_ts hm rfl (fun h1 => ⟨199, rfl, ?_⟩) (fun i1 h1 g1 => ?_)
  · refine x_iconst hm rfl (v := nI 0) (by decide) ?_
    refine x_iload hm rfl rfl ?_
    refine x_lib hm rfl rfl ?_
    dsimp only
    refine x_iret hm rfl rfl (by first | rfl | exact bI_nar | decide) ?_
    exact qt (congrArg Value.int (mxq (kdE0 h1)))
  · have k1 : i1 = 0 ∨ i1 = 1 ∨ i1 = 2 ∨ i1 = 3 ∨ i1 = 4 ∨ i1 = 5 := by omega
    rcases k1 with rfl | rfl | rfl | rfl | rfl | rfl
    · refine ⟨_, 132, rfl, rfl, ?_⟩
      refine x_iconst hm rfl (v := nI 0) (by decide) ?_
      refine x_iload hm rfl rfl ?_
      refine x_iconst hm rfl (v := nI 2) (by decide) ?_
      refine x_idiv hm rfl (by decide) ?_
      refine x_lib hm rfl rfl ?_
      dsimp only
      refine x_iret hm rfl rfl (by first | rfl | exact bI_nar | decide) ?_
      exact qt (congrArg Value.int (mxq (kdE1 h1)))
    · refine ⟨_, 141, rfl, rfl, ?_⟩
      refine x_iconst hm rfl (v := nI 0) (by decide) ?_
      refine x_iload hm rfl rfl ?_
      refine x_lib hm rfl rfl ?_
      dsimp only
      refine x_iret hm rfl rfl (by first | rfl | exact bI_nar | decide) ?_
      exact qt (congrArg Value.int (mxq (kdE2 h1)))
    · refine ⟨_, 148, rfl, rfl, ?_⟩
      refine x_iconst hm rfl (v := nI 0) (by decide) ?_
      refine x_iload hm rfl rfl ?_
      refine x_iconst hm rfl (v := nI 3) (by decide) ?_
      refine x_isub hm rfl ?_
      refine x_lib hm rfl rfl ?_
      dsimp only
      refine x_iret hm rfl rfl (by first | rfl | exact bI_nar | decide) ?_
      exact qt (congrArg Value.int (mxq (kdE3 h1)))
    · refine ⟨_, 157, rfl, rfl, ?_⟩
      refine x_iconst hm rfl (v := nI 0) (by decide) ?_
      refine x_iload hm rfl rfl ?_
      refine x_iconst hm rfl (v := nI 3) (by decide) ?_
      refine x_isub hm rfl ?_
      refine x_iload hm rfl rfl ?_
      refine x_bipush hm rfl (v := nI 100) (by decide) ?_
      refine x_idiv hm rfl (by decide) ?_
      refine x_iadd hm rfl ?_
      refine x_lib hm rfl rfl ?_
      dsimp only
      refine x_iret hm rfl rfl (by first | rfl | exact bI_nar | decide) ?_
      exact qt (congrArg Value.int (mxq (kdE4 h1)))
    · refine ⟨_, 172, rfl, rfl, ?_⟩
      refine x_iconst hm rfl (v := nI 0) (by decide) ?_
      refine x_iload hm rfl rfl ?_
      refine x_iconst hm rfl (v := nI 2) (by decide) ?_
      refine x_imul hm rfl ?_
      refine x_lib hm rfl rfl ?_
      dsimp only
      refine x_iret hm rfl rfl (by first | rfl | exact bI_nar | decide) ?_
      exact qt (congrArg Value.int (mxq (kdE5c h1)))
    · refine ⟨_, 181, rfl, rfl, ?_⟩
      refine x_iload_n hm rfl rfl ?_
      refine x_iconst hm rfl (v := (-1 : Int32)) (by decide) ?_
      refine x_icmp_ne hm rfl (t := 190) rfl (fun h2 => ?_) (fun h2 => ?_)
      · have hbg : 0 ≤ o := by
          obtain ⟨k, hk, e⟩ := ho.resolve_left h2
          rw [e]
          exact ge0 (by have := hV.2.1; omega)
        refine x_iconst hm rfl (v := nI 0) (by decide) ?_
        refine x_iload hm rfl rfl ?_
        refine x_iconst hm rfl (v := nI 2) (by decide) ?_
        refine x_idiv hm rfl (by decide) ?_
        refine x_lib hm rfl rfl ?_
        dsimp only
        refine x_iret hm rfl rfl (by first | rfl | exact bI_nar | decide) ?_
        first
          | exact qt (congrArg Value.int (mxz (kdE7 h1 (by rw [hb6]; decide))))
          | exact qt (congrArg Value.int (mxq (kdE6 h1 hbg)))
      · have hb6 : o = -1 := h2
        refine x_iconst hm rfl (v := nI 0) (by decide) ?_
        refine x_goto hm rfl (t := 198) rfl ?_
        refine x_iret hm rfl rfl (by first | rfl | exact bI_nar | decide) ?_
        first
          | exact qt (congrArg Value.int (mxz (kdE7 h1 (by rw [hb6]; decide))))
          | exact qt (congrArg Value.int (mxq (kdE6 h1 hbg)))
theorem m13z {p t : Nat} {o : Int32} (hb : b = 1 ∨ b = 18 ∨ b = 35) (hR : Rel b nt np M r) (hV : Vs nt np r) (hp : p < np) (ht : t < nt) (ho : o = -1 ∨ ∃ k, k < np ∧ o = nI k) (hri : sRi r o p t = sPl r p t) : mEv X (fun z D => z = some (.int (mx0 (sKd (r (62 + 7 * p + 0)) o (r (14 + 6 * t + 2)) (sPl r p t) (sRi r o p t)))) ∧ D = con M) 13 72 [some (.ref b), some (.int o), some (.int (nI p)), some (.int (nI t)), some (.int (r (14 + 6 * t + 2))), some (.int (sPl r p t)), some (.int (nI 0)), none] [] (con M) := by
  have hm : mMet 13 = some _ := rfl
  refine x_iload hm rfl rfl ?_
  refine x_iload hm rfl rfl ?_
  refine x_if_eq hm rfl (t := 83) rfl (fun h1 => ?_) (fun h1 => ?_)
  · refine x_iconst hm rfl (v := nI 0) (by decide) ?_
    refine x_iadd hm rfl ?_
    refine x_istore hm rfl rfl ?_
    exact m13a hb hR hV hp ht ho (addz.symm.trans hri.symm)
  · exact absurd rfl h1 --stop
theorem m13o {p t : Nat} {o : Int32} (hb : b = 1 ∨ b = 18 ∨ b = 35) (hR : Rel b nt np M r) (hV : Vs nt np r) (hp : p < np) (ht : t < nt) (ho : o = -1 ∨ ∃ k, k < np ∧ o = nI k) (hri : sRi r o p t = sPl r p t + nI 2) : mEv X (fun z D => z = some (.int (mx0 (sKd (r (62 + 7 * p + 0)) o (r (14 + 6 * t + 2)) (sPl r p t) (sRi r o p t)))) ∧ D = con M) 13 72 [some (.ref b), some (.int o), some (.int (nI p)), some (.int (nI t)), some (.int (r (14 + 6 * t + 2))), some (.int (sPl r p t)), some (.int (nI 1)), none] [] (con M) := by
  have hm : mMet 13 = some _ := rfl
  refine x_iload hm rfl rfl ?_
  refine x_iload hm rfl rfl ?_
  refine x_if_eq hm rfl (t := 83) rfl (fun h1 => ?_) (fun h1 => ?_)
  · exact absurd h1 (by decide) --stop
  · refine x_iconst hm rfl (v := nI 2) (by decide) ?_
    refine x_goto hm rfl (t := 84) rfl ?_
    refine x_iadd hm rfl ?_
    refine x_istore hm rfl rfl ?_
    exact m13a hb hR hV hp ht ho (hri.symm)
theorem e13 {p t : Nat} {o : Int32} (hb : b = 1 ∨ b = 18 ∨ b = 35) (hR : Rel b nt np M r) (hV : Vs nt np r) (hp : p < np) (ht : t < nt) (ho : o = -1 ∨ ∃ k, k < np ∧ o = nI k) : mT X 13 [.ref b, .int o, .int (nI p), .int (nI t)] (con M) (some (.int (if r (14 + 6 * t + 2) = 0 then nI 0 else mx0 (sKd (r (62 + 7 * p + 0)) o (r (14 + 6 * t + 2)) (sPl r p t) (sRi r o p t))))) (con M) := by
  refine mT.of (row := _) rfl (Nat.le_of_ble_eq_true rfl) ?_
  have hm : mMet 13 = some _ := rfl
  have hp8 := hV.p8 hp
  have ht8 := hV.t8 ht
  obtain ⟨s, hs3, hs⟩ := hV.sort ht
  have hpl : r (62 + 7 * p + (3 + s)) - r (14 + 6 * t + 3) = sPl r p t := by
    unfold sPl
    rw [hs, jI_nat (by omega)]
  refine x_aload_n hm rfl rfl ?_
  refine x_getf hm rfl (gR (tO hb) rfl) ?_
  refine x_iconst hm rfl (v := nI 2) (by decide) ?_
  refine x_aald hm rfl (by first | exact lQ 3 (Or.inr (Or.inl rfl)) (tI hb) rfl (by omega) (by decide) | exact lQ 3 (Or.inr (Or.inl rfl)) (tF hb) rfl (by omega) (by decide) | exact lQ 3 (Or.inr (Or.inl rfl)) (tI hb) (tIk (by omega)) (by omega) (by decide) | exact lQ 3 (Or.inr (Or.inl rfl)) (tF hb) (tFk (by omega)) (by omega) (by decide)) ?_
  refine x_iload_n hm rfl rfl ?_
  refine x_iald hm rfl (by first | exact lI (tRow hb (by omega)) (by omega) (by decide) | exact lI (tRowI hb (by omega)) (by omega) (by decide) | exact lI (tRowF hb (by omega)) (by omega) (by decide) | exact lI (tSp hb) (by omega) (by decide) | exact lI rfl (by omega) (by decide)) ?_
  rw [hR.thick ht]
  refine x_istore hm rfl rfl ?_
  refine x_iload hm rfl rfl ?_
  refine x_if_ne hm rfl (t := 17) rfl (fun h1 => ?_) (fun h1 => ?_)
  · have hth := h1
    refine x_aload_n hm rfl rfl ?_
    refine x_getf hm rfl (gR (tO hb) rfl) ?_
    refine x_iconst hm rfl (v := nI 3) (by decide) ?_
    refine x_aload_n hm rfl rfl ?_
    refine x_getf hm rfl (gR (tO hb) rfl) ?_
    refine x_iconst hm rfl (v := nI 0) (by decide) ?_
    refine x_aald hm rfl (by first | exact lQ 3 (Or.inr (Or.inl rfl)) (tI hb) rfl (by omega) (by decide) | exact lQ 3 (Or.inr (Or.inl rfl)) (tF hb) rfl (by omega) (by decide) | exact lQ 3 (Or.inr (Or.inl rfl)) (tI hb) (tIk (by omega)) (by omega) (by decide) | exact lQ 3 (Or.inr (Or.inl rfl)) (tF hb) (tFk (by omega)) (by omega) (by decide)) ?_
    refine x_iload_n hm rfl rfl ?_
    refine x_iald hm rfl (by first | exact lI (tRow hb (by omega)) (by omega) (by decide) | exact lI (tRowI hb (by omega)) (by omega) (by decide) | exact lI (tRowF hb (by omega)) (by omega) (by decide) | exact lI (tSp hb) (by omega) (by decide) | exact lI rfl (by omega) (by decide)) ?_
    rw [hR.sort ht, hs]
    refine x_iadd hm rfl ?_
    rw [jI_add]
    refine x_aald hm rfl (by first | exact lQ 3 (Or.inr (Or.inl rfl)) (tI hb) rfl (by omega) (by decide) | exact lQ 3 (Or.inr (Or.inl rfl)) (tF hb) rfl (by omega) (by decide) | exact lQ 3 (Or.inr (Or.inl rfl)) (tI hb) (tIk (by omega)) (by omega) (by decide) | exact lQ 3 (Or.inr (Or.inl rfl)) (tF hb) (tFk (by omega)) (by omega) (by decide)) ?_
    refine x_iload_n hm rfl rfl ?_
    refine x_iald hm rfl (by first | exact lI (tRow hb (by omega)) (by omega) (by decide) | exact lI (tRowI hb (by omega)) (by omega) (by decide) | exact lI (tRowF hb (by omega)) (by omega) (by decide) | exact lI (tSp hb) (by omega) (by decide) | exact lI rfl (by omega) (by decide)) ?_
    rw [hR.folk (f := 3 + s) (by omega) hp]
    refine x_aload_n hm rfl rfl ?_
    refine x_getf hm rfl (gR (tO hb) rfl) ?_
    refine x_iconst hm rfl (v := nI 3) (by decide) ?_
    refine x_aald hm rfl (by first | exact lQ 3 (Or.inr (Or.inl rfl)) (tI hb) rfl (by omega) (by decide) | exact lQ 3 (Or.inr (Or.inl rfl)) (tF hb) rfl (by omega) (by decide) | exact lQ 3 (Or.inr (Or.inl rfl)) (tI hb) (tIk (by omega)) (by omega) (by decide) | exact lQ 3 (Or.inr (Or.inl rfl)) (tF hb) (tFk (by omega)) (by omega) (by decide)) ?_
    refine x_iload_n hm rfl rfl ?_
    refine x_iald hm rfl (by first | exact lI (tRow hb (by omega)) (by omega) (by decide) | exact lI (tRowI hb (by omega)) (by omega) (by decide) | exact lI (tRowF hb (by omega)) (by omega) (by decide) | exact lI (tSp hb) (by omega) (by decide) | exact lI rfl (by omega) (by decide)) ?_
    rw [hR.paint ht]
    refine x_isub hm rfl ?_
    rw [hpl]
    refine x_istore hm rfl rfl ?_
    refine x_iload_n hm rfl rfl ?_
    refine x_iconst hm rfl (v := (-1 : Int32)) (by decide) ?_
    refine x_icmp_eq hm rfl (t := 69) rfl (fun h2 => ?_) (fun h2 => ?_)
    · have hri : sRi r o p t = sPl r p t := by
        unfold sRi
        rw [if_neg (fun q => q.1 (by rw [h2]; decide))]
      refine x_iconst hm rfl (v := nI 0) (by decide) ?_
      refine x_istore hm rfl rfl ?_
      rw [if_neg hth]
      first
        | exact m13z hb hR hV hp ht ho hri
        | exact m13o hb hR hV hp ht ho hri
    · obtain ⟨k, hk, rfl⟩ := ho.resolve_left h2
      obtain ⟨kk, hk6, hkk⟩ := hV.kind hk
      have hk8 := hV.p8 hk
      refine x_aload_n hm rfl rfl ?_
      refine x_getf hm rfl (gR (tO hb) rfl) ?_
      refine x_iconst hm rfl (v := nI 0) (by decide) ?_
      refine x_aald hm rfl (by first | exact lQ 3 (Or.inr (Or.inl rfl)) (tI hb) rfl (by omega) (by decide) | exact lQ 3 (Or.inr (Or.inl rfl)) (tF hb) rfl (by omega) (by decide) | exact lQ 3 (Or.inr (Or.inl rfl)) (tI hb) (tIk (by omega)) (by omega) (by decide) | exact lQ 3 (Or.inr (Or.inl rfl)) (tF hb) (tFk (by omega)) (by omega) (by decide)) ?_
      refine x_iload_n hm rfl rfl ?_
      refine x_iald hm rfl (by first | exact lI (tRow hb (by omega)) (by omega) (by decide) | exact lI (tRowI hb (by omega)) (by omega) (by decide) | exact lI (tRowF hb (by omega)) (by omega) (by decide) | exact lI (tSp hb) (by omega) (by decide) | exact lI rfl (by omega) (by decide)) ?_
      rw [hR.kind hk, hkk]
      refine x_iconst hm rfl (v := nI 2) (by decide) ?_
      refine x_callS hm rfl rfl (e14 hk6) ?_
      refine x_if_eq hm rfl (t := 69) rfl (fun h3 => ?_) (fun h3 => ?_)
      · have hri : sRi r (nI k) p t = sPl r p t := by
          unfold sRi
          rw [jI_nat (by omega), hkk, if_neg (fun q => bI_eq0.mp h3 q.2)]
        refine x_iconst hm rfl (v := nI 0) (by decide) ?_
        refine x_istore hm rfl rfl ?_
        rw [if_neg hth]
        first
          | exact m13z hb hR hV hp ht ho hri
          | exact m13o hb hR hV hp ht ho hri
      · have hri : sRi r (nI k) p t = sPl r p t + nI 2 := by
          unfold sRi
          rw [jI_nat (by omega), hkk, if_pos ⟨jI_nn (by omega), bI_ne0 h3⟩]
        refine x_iconst hm rfl (v := nI 1) (by decide) ?_
        refine x_goto hm rfl (t := 70) rfl ?_
        refine x_istore hm rfl rfl ?_
        rw [if_neg hth]
        first
          | exact m13z hb hR hV hp ht ho hri
          | exact m13o hb hR hV hp ht ho hri
  · refine x_iconst hm rfl (v := nI 0) (by decide) ?_
    refine x_iret hm rfl rfl (by first | rfl | exact bI_nar | decide) ?_
    exact qt (congrArg Value.int (if_pos (by assumption)).symm)
theorem e12 {p t : Nat} (hb : b = 1 ∨ b = 18 ∨ b = 35) (hR : Rel b nt np M r) (hV : Vs nt np r) (hp : p < np) (ht : t < nt) : mT X 12 [.ref b, .int (nI p), .int (nI t)] (con M) (some (.int (sEnv r (M b 7) (r (14 + 6 * t + 4)) p t))) (con M) := by
  refine mT.of (row := _) rfl (Nat.le_of_ble_eq_true rfl) ?_
  have hm : mMet 12 = some _ := rfl
  have hp8 := hV.p8 hp
  have ht8 := hV.t8 ht
  refine x_aload_n hm rfl rfl ?_
  refine x_getf hm rfl (gR (tO hb) rfl) ?_
  refine x_iconst hm rfl (v := nI 4) (by decide) ?_
  refine x_aald hm rfl (by first | exact lQ 3 (Or.inr (Or.inl rfl)) (tI hb) rfl (by omega) (by decide) | exact lQ 3 (Or.inr (Or.inl rfl)) (tF hb) rfl (by omega) (by decide) | exact lQ 3 (Or.inr (Or.inl rfl)) (tI hb) (tIk (by omega)) (by omega) (by decide) | exact lQ 3 (Or.inr (Or.inl rfl)) (tF hb) (tFk (by omega)) (by omega) (by decide)) ?_
  refine x_iload_n hm rfl rfl ?_
  refine x_iald hm rfl (by first | exact lI (tRow hb (by omega)) (by omega) (by decide) | exact lI (tRowI hb (by omega)) (by omega) (by decide) | exact lI (tRowF hb (by omega)) (by omega) (by decide) | exact lI (tSp hb) (by omega) (by decide) | exact lI rfl (by omega) (by decide)) ?_
  rw [hR.own ht]
  refine x_istore_n hm rfl rfl ?_
  refine x_iload_n hm rfl rfl ?_
  refine x_iload_n hm rfl rfl ?_
  refine x_icmp_eq hm rfl (t := 22) rfl (fun h1 => ?_) (fun h1 => ?_)
  · refine x_iconst hm rfl (v := nI 0) (by decide) ?_
    refine x_goto hm rfl (t := 33) rfl ?_
    refine x_iret hm rfl rfl (by first | rfl | exact bI_nar | decide) ?_
    refine qt (congrArg Value.int ?_)
    unfold sEnv
    first
      | exact ifp (Or.inl (by assumption))
      | exact ifp (Or.inr (Or.inr (by assumption)))
      | (split
         · rename_i hz
           exact ifp (Or.inr (Or.inl hz))
         · rename_i hz
           refine ifn ?_
           rintro (q | q | q)
           · exact h1 q
           · exact hz q
           · exact h2 q)
  · refine x_iload_n hm rfl rfl ?_
    refine x_aload_n hm rfl rfl ?_
    refine x_getf hm rfl (gI (tO hb) rfl) ?_
    refine x_icmp_ne hm rfl (t := 26) rfl (fun h2 => ?_) (fun h2 => ?_)
    · refine x_aload_n hm rfl rfl ?_
      refine x_iload_n hm rfl rfl ?_
      refine x_iload_n hm rfl rfl ?_
      refine x_iload_n hm rfl rfl ?_
      refine x_callV hm rfl (mCallT hb (by decide) rfl rfl rfl rfl rfl) (e13 hb hR hV hp ht (hV.own ht)) ?_
      refine x_iret hm rfl rfl (by first | rfl | exact bI_nar | decide) ?_
      refine qt (congrArg Value.int ?_)
      unfold sEnv
      first
        | exact ifp (Or.inl (by assumption))
        | exact ifp (Or.inr (Or.inr (by assumption)))
        | (split
           · rename_i hz
             exact ifp (Or.inr (Or.inl hz))
           · rename_i hz
             refine ifn ?_
             rintro (q | q | q)
             · exact h1 q
             · exact hz q
             · exact h2 q)
    · refine x_iconst hm rfl (v := nI 0) (by decide) ?_
      refine x_goto hm rfl (t := 33) rfl ?_
      refine x_iret hm rfl rfl (by first | rfl | exact bI_nar | decide) ?_
      refine qt (congrArg Value.int ?_)
      unfold sEnv
      first
        | exact ifp (Or.inl (by assumption))
        | exact ifp (Or.inr (Or.inr (by assumption)))
        | (split
           · rename_i hz
             exact ifp (Or.inr (Or.inl hz))
           · rename_i hz
             refine ifn ?_
             rintro (q | q | q)
             · exact h1 q
             · exact hz q
             · exact h2 q)
theorem m11 {t : Nat} (hb : b = 1 ∨ b = 18 ∨ b = 35) (hR : Rel b nt np M r) (hV : Vs nt np r) (ht : t < nt) : ∀ (n k : Nat) (s : Int32), np - k < n → k ≤ np → s = sWs r (M b 7) t k → mEv X (fun z D => z = some (.int (sWear r (M b 7) np t)) ∧ D = con M) 11 14 [some (.ref b), some (.int (nI t)), some (.int s), some (.int (r (14 + 6 * t + 1))), some (.int (nI k))] [] (con M) := by
  have hm : mMet 11 = some _ := rfl
  intro n
  induction n with
  | zero =>
    intro k s hkn hkb hs
    omega
  | succ n ih =>
    intro k s hkn hkb hs
    obtain ⟨hnb, hmb, -⟩ := id hR
    have h8 := hV.1
    have hp8 := hV.2.1
    refine x_iload hm rfl rfl ?_
    refine x_aload_n hm rfl rfl ?_
    refine x_getf hm rfl (gI (tO hb) rfl) ?_
    rw [hmb]
    refine x_icmp_ge hm rfl (t := 52) rfl (fun h1 => ?_) (fun h1 => ?_)
    · obtain rfl : k = np := Nat.le_antisymm hkb ((jI_le (by omega) (by omega)).mp h1)
      refine x_iload_n hm rfl rfl ?_
      refine x_aload_n hm rfl rfl ?_
      refine x_getf hm rfl (gR (tO hb) rfl) ?_
      refine x_iconst hm rfl (v := nI 2) (by decide) ?_
      refine x_aald hm rfl (by first | exact lQ 3 (Or.inr (Or.inl rfl)) (tI hb) rfl (by omega) (by decide) | exact lQ 3 (Or.inr (Or.inl rfl)) (tF hb) rfl (by omega) (by decide) | exact lQ 3 (Or.inr (Or.inl rfl)) (tI hb) (tIk (by omega)) (by omega) (by decide) | exact lQ 3 (Or.inr (Or.inl rfl)) (tF hb) (tFk (by omega)) (by omega) (by decide)) ?_
      refine x_iload_n hm rfl rfl ?_
      refine x_iald hm rfl (by first | exact lI (tRow hb (by omega)) (by omega) (by decide) | exact lI (tRowI hb (by omega)) (by omega) (by decide) | exact lI (tRowF hb (by omega)) (by omega) (by decide) | exact lI (tSp hb) (by omega) (by decide) | exact lI rfl (by omega) (by decide)) ?_
      rw [hR.thick ht]
      refine x_lib hm rfl rfl ?_
      dsimp only
      refine x_iret hm rfl rfl (by first | rfl | exact bI_nar | decide) ?_
      rw [hs]
      exact ⟨rfl, rfl⟩
    · have hk : k < np := Nat.lt_of_not_le fun h => h1 (nI_le h (by omega))
      refine x_aload_n hm rfl rfl ?_
      refine x_getf hm rfl (gR (tO hb) rfl) ?_
      refine x_iconst hm rfl (v := nI 1) (by decide) ?_
      refine x_aald hm rfl (by first | exact lQ 3 (Or.inr (Or.inl rfl)) (tI hb) rfl (by omega) (by decide) | exact lQ 3 (Or.inr (Or.inl rfl)) (tF hb) rfl (by omega) (by decide) | exact lQ 3 (Or.inr (Or.inl rfl)) (tI hb) (tIk (by omega)) (by omega) (by decide) | exact lQ 3 (Or.inr (Or.inl rfl)) (tF hb) (tFk (by omega)) (by omega) (by decide)) ?_
      refine x_iload hm rfl rfl ?_
      refine x_iald hm rfl (by first | exact lI (tRow hb (by omega)) (by omega) (by decide) | exact lI (tRowI hb (by omega)) (by omega) (by decide) | exact lI (tRowF hb (by omega)) (by omega) (by decide) | exact lI (tSp hb) (by omega) (by decide) | exact lI rfl (by omega) (by decide)) ?_
      rw [hR.pat hk]
      refine x_iload_n hm rfl rfl ?_
      refine x_icmp_ne hm rfl (t := 46) rfl (fun h2 => ?_) (fun h2 => ?_)
      · refine x_iinc hm rfl rfl (v := nI 1) (by decide) rfl ?_
        rw [jI_add]
        refine x_goto hm rfl (t := 14) rfl ?_
        first
          | exact ih _ _ (by omega) (by omega) (by rw [hs]; exact congrArg (fun z => sWs r (M b 7) t k + z) (ifp (by first | assumption | exact bI_ne0 (by assumption))))
          | exact ih _ _ (by omega) (by omega) (by rw [hs]; exact (addz).trans (congrArg (fun z => sWs r (M b 7) t k + z) (ifn (by first | assumption | exact bI_eq0.mp (by assumption)))))
      · refine x_iload_n hm rfl rfl ?_
        refine x_aload_n hm rfl rfl ?_
        refine x_iload hm rfl rfl ?_
        refine x_iload_n hm rfl rfl ?_
        refine x_callV hm rfl (mCallT hb (by decide) rfl rfl rfl rfl rfl) (e12 hb hR hV hk ht) ?_
        refine x_iadd hm rfl ?_
        refine x_istore_n hm rfl rfl ?_
        refine x_iinc hm rfl rfl (v := nI 1) (by decide) rfl ?_
        rw [jI_add]
        refine x_goto hm rfl (t := 14) rfl ?_
        first
          | exact ih _ _ (by omega) (by omega) (by rw [hs]; exact congrArg (fun z => sWs r (M b 7) t k + z) (ifp (by first | assumption | exact bI_ne0 (by assumption))))
          | exact ih _ _ (by omega) (by omega) (by rw [hs]; exact (addz).trans (congrArg (fun z => sWs r (M b 7) t k + z) (ifn (by first | assumption | exact bI_eq0.mp (by assumption)))))
theorem e11 {t : Nat} (hb : b = 1 ∨ b = 18 ∨ b = 35) (hR : Rel b nt np M r) (hV : Vs nt np r) (ht : t < nt) : mT X 11 [.ref b, .int (nI t)] (con M) (some (.int (sWear r (M b 7) np t))) (con M) := by
  refine mT.of (row := _) rfl (Nat.le_of_ble_eq_true rfl) ?_
  have hm : mMet 11 = some _ := rfl
  obtain ⟨hnb, hmb, -⟩ := id hR
  have h8 := hV.1
  have hp8 := hV.2.1
  refine x_iconst hm rfl (v := nI 0) (by decide) ?_
  refine x_istore_n hm rfl rfl ?_
  refine x_aload_n hm rfl rfl ?_
  refine x_getf hm rfl (gR (tO hb) rfl) ?_
  refine x_iconst hm rfl (v := nI 1) (by decide) ?_
  refine x_aald hm rfl (by first | exact lQ 3 (Or.inr (Or.inl rfl)) (tI hb) rfl (by omega) (by decide) | exact lQ 3 (Or.inr (Or.inl rfl)) (tF hb) rfl (by omega) (by decide) | exact lQ 3 (Or.inr (Or.inl rfl)) (tI hb) (tIk (by omega)) (by omega) (by decide) | exact lQ 3 (Or.inr (Or.inl rfl)) (tF hb) (tFk (by omega)) (by omega) (by decide)) ?_
  refine x_iload_n hm rfl rfl ?_
  refine x_iald hm rfl (by first | exact lI (tRow hb (by omega)) (by omega) (by decide) | exact lI (tRowI hb (by omega)) (by omega) (by decide) | exact lI (tRowF hb (by omega)) (by omega) (by decide) | exact lI (tSp hb) (by omega) (by decide) | exact lI rfl (by omega) (by decide)) ?_
  rw [hR.at_ ht]
  refine x_istore_n hm rfl rfl ?_
  refine x_iconst hm rfl (v := nI 0) (by decide) ?_
  refine x_istore hm rfl rfl ?_
  exact m11 hb hR hV ht _ 0 _ (Nat.lt_succ_self _) (Nat.zero_le _) rfl
theorem m35 (hb : b = 1 ∨ b = 18 ∨ b = 35) (hR : Rel b nt np M r) (hV : Vs nt np r) : ∀ (n k : Nat) (s : Int32), nt - k < n → k ≤ nt → s = sGone r k → mEv X (fun z D => z = some (.int (sGone r nt)) ∧ D = con M) 35 4 [some (.ref b), some (.int s), some (.int (nI k))] [] (con M) := by
  have hm : mMet 35 = some _ := rfl
  intro n
  induction n with
  | zero =>
    intro k s hkn hkb hs
    omega
  | succ n ih =>
    intro k s hkn hkb hs
    obtain ⟨hnb, hmb, -⟩ := id hR
    have h8 := hV.1
    have hp8 := hV.2.1
    refine x_iload_n hm rfl rfl ?_
    refine x_aload_n hm rfl rfl ?_
    refine x_getf hm rfl (gI (tO hb) rfl) ?_
    rw [hnb]
    refine x_icmp_ge hm rfl (t := 32) rfl (fun h1 => ?_) (fun h1 => ?_)
    · obtain rfl : k = nt := Nat.le_antisymm hkb ((jI_le (by omega) (by omega)).mp h1)
      refine x_iload_n hm rfl rfl ?_
      refine x_iret hm rfl rfl (by first | rfl | exact bI_nar | decide) ?_
      rw [hs]
      exact ⟨rfl, rfl⟩
    · have hk : k < nt := Nat.lt_of_not_le fun h => h1 (nI_le h (by omega))
      refine x_aload_n hm rfl rfl ?_
      refine x_iload_n hm rfl rfl ?_
      refine x_callV hm rfl (mCallT hb (by decide) rfl rfl rfl rfl rfl) (t32 hb (by omega)) ?_
      rw [hR.thick hk]
      refine x_if_eq hm rfl (t := 26) rfl (fun h2 => ?_) (fun h2 => ?_)
      · refine x_iinc hm rfl rfl (v := nI 1) (by decide) rfl ?_
        rw [jI_add]
        refine x_goto hm rfl (t := 4) rfl ?_
        first
          | exact ih _ _ (by omega) (by omega) (by rw [hs]; exact congrArg (fun z => sGone r k ||| z) (ifp (by first | assumption | exact bI_ne0 (by assumption))))
          | exact ih _ _ (by omega) (by omega) (by rw [hs]; exact (orz).trans (congrArg (fun z => sGone r k ||| z) (ifn (by first | assumption | exact bI_eq0.mp (by assumption)))))
      · refine x_iload_n hm rfl rfl ?_
        refine x_iconst hm rfl (v := nI 1) (by decide) ?_
        refine x_iload_n hm rfl rfl ?_
        refine x_ishl hm rfl ?_
        refine x_ior hm rfl ?_
        refine x_istore_n hm rfl rfl ?_
        refine x_iinc hm rfl rfl (v := nI 1) (by decide) rfl ?_
        rw [jI_add]
        refine x_goto hm rfl (t := 4) rfl ?_
        first
          | exact ih _ _ (by omega) (by omega) (by rw [hs]; exact congrArg (fun z => sGone r k ||| z) (ifp (by first | assumption | exact bI_ne0 (by assumption))))
          | exact ih _ _ (by omega) (by omega) (by rw [hs]; exact (orz).trans (congrArg (fun z => sGone r k ||| z) (ifn (by first | assumption | exact bI_eq0.mp (by assumption)))))
theorem e35 (hb : b = 1 ∨ b = 18 ∨ b = 35) (hR : Rel b nt np M r) (hV : Vs nt np r) : mT X 35 [.ref b] (con M) (some (.int (sGone r nt))) (con M) := by
  refine mT.of (row := _) rfl (Nat.le_of_ble_eq_true rfl) ?_
  have hm : mMet 35 = some _ := rfl
  obtain ⟨hnb, hmb, -⟩ := id hR
  have h8 := hV.1
  have hp8 := hV.2.1
  refine x_iconst hm rfl (v := nI 0) (by decide) ?_
  refine x_istore_n hm rfl rfl ?_
  refine x_iconst hm rfl (v := nI 0) (by decide) ?_
  refine x_istore_n hm rfl rfl ?_
  exact m35 hb hR hV _ 0 _ (Nat.lt_succ_self _) (Nat.zero_le _) rfl
theorem m38 (hb : b = 1 ∨ b = 18 ∨ b = 35) (hR : Rel b nt np M r) (hV : Vs nt np r) : ∀ (n k : Nat) (s : Int32), nt - k < n → k ≤ nt → s = sThick r k → mEv X (fun z D => z = some (.int (sThick r nt)) ∧ D = con M) 38 4 [some (.ref b), some (.int s), some (.int (nI k))] [] (con M) := by
  have hm : mMet 38 = some _ := rfl
  intro n
  induction n with
  | zero =>
    intro k s hkn hkb hs
    omega
  | succ n ih =>
    intro k s hkn hkb hs
    obtain ⟨hnb, hmb, -⟩ := id hR
    have h8 := hV.1
    have hp8 := hV.2.1
    refine x_iload_n hm rfl rfl ?_
    refine x_aload_n hm rfl rfl ?_
    refine x_getf hm rfl (gI (tO hb) rfl) ?_
    rw [hnb]
    refine x_icmp_ge hm rfl (t := 29) rfl (fun h1 => ?_) (fun h1 => ?_)
    · obtain rfl : k = nt := Nat.le_antisymm hkb ((jI_le (by omega) (by omega)).mp h1)
      refine x_iload_n hm rfl rfl ?_
      refine x_iret hm rfl rfl (by first | rfl | exact bI_nar | decide) ?_
      rw [hs]
      exact ⟨rfl, rfl⟩
    · have hk : k < nt := Nat.lt_of_not_le fun h => h1 (nI_le h (by omega))
      refine x_iload_n hm rfl rfl ?_
      refine x_aload_n hm rfl rfl ?_
      refine x_getf hm rfl (gR (tO hb) rfl) ?_
      refine x_iconst hm rfl (v := nI 2) (by decide) ?_
      refine x_aald hm rfl (by first | exact lQ 3 (Or.inr (Or.inl rfl)) (tI hb) rfl (by omega) (by decide) | exact lQ 3 (Or.inr (Or.inl rfl)) (tF hb) rfl (by omega) (by decide) | exact lQ 3 (Or.inr (Or.inl rfl)) (tI hb) (tIk (by omega)) (by omega) (by decide) | exact lQ 3 (Or.inr (Or.inl rfl)) (tF hb) (tFk (by omega)) (by omega) (by decide)) ?_
      refine x_iload_n hm rfl rfl ?_
      refine x_iald hm rfl (by first | exact lI (tRow hb (by omega)) (by omega) (by decide) | exact lI (tRowI hb (by omega)) (by omega) (by decide) | exact lI (tRowF hb (by omega)) (by omega) (by decide) | exact lI (tSp hb) (by omega) (by decide) | exact lI rfl (by omega) (by decide)) ?_
      rw [hR.thick hk]
      refine x_iadd hm rfl ?_
      refine x_istore_n hm rfl rfl ?_
      refine x_iinc hm rfl rfl (v := nI 1) (by decide) rfl ?_
      rw [jI_add]
      refine x_goto hm rfl (t := 4) rfl ?_
      exact ih _ _ (by omega) (by omega) (by rw [hs]; rfl)
theorem e38 (hb : b = 1 ∨ b = 18 ∨ b = 35) (hR : Rel b nt np M r) (hV : Vs nt np r) : mT X 38 [.ref b] (con M) (some (.int (sThick r nt))) (con M) := by
  refine mT.of (row := _) rfl (Nat.le_of_ble_eq_true rfl) ?_
  have hm : mMet 38 = some _ := rfl
  obtain ⟨hnb, hmb, -⟩ := id hR
  have h8 := hV.1
  have hp8 := hV.2.1
  refine x_iconst hm rfl (v := nI 0) (by decide) ?_
  refine x_istore_n hm rfl rfl ?_
  refine x_iconst hm rfl (v := nI 0) (by decide) ?_
  refine x_istore_n hm rfl rfl ?_
  exact m38 hb hR hV _ 0 _ (Nat.lt_succ_self _) (Nat.zero_le _) rfl
theorem m25 {a : Int32} (hb : b = 1 ∨ b = 18 ∨ b = 35) (hR : Rel b nt np M r) (hV : Vs nt np r) : ∀ (n k : Nat) (s : Int32), nt - k < n → k ≤ nt → s = sOwned r a k → mEv X (fun z D => z = some (.int (sOwned r a nt)) ∧ D = con M) 25 4 [some (.ref b), some (.int a), some (.int s), some (.int (nI k))] [] (con M) := by
  have hm : mMet 25 = some _ := rfl
  intro n
  induction n with
  | zero =>
    intro k s hkn hkb hs
    omega
  | succ n ih =>
    intro k s hkn hkb hs
    obtain ⟨hnb, hmb, -⟩ := id hR
    have h8 := hV.1
    have hp8 := hV.2.1
    refine x_iload_n hm rfl rfl ?_
    refine x_aload_n hm rfl rfl ?_
    refine x_getf hm rfl (gI (tO hb) rfl) ?_
    rw [hnb]
    refine x_icmp_ge hm rfl (t := 36) rfl (fun h1 => ?_) (fun h1 => ?_)
    · obtain rfl : k = nt := Nat.le_antisymm hkb ((jI_le (by omega) (by omega)).mp h1)
      refine x_iload_n hm rfl rfl ?_
      refine x_iret hm rfl rfl (by first | rfl | exact bI_nar | decide) ?_
      rw [hs]
      exact ⟨rfl, rfl⟩
    · have hk : k < nt := Nat.lt_of_not_le fun h => h1 (nI_le h (by omega))
      refine x_aload_n hm rfl rfl ?_
      refine x_getf hm rfl (gR (tO hb) rfl) ?_
      refine x_iconst hm rfl (v := nI 4) (by decide) ?_
      refine x_aald hm rfl (by first | exact lQ 3 (Or.inr (Or.inl rfl)) (tI hb) rfl (by omega) (by decide) | exact lQ 3 (Or.inr (Or.inl rfl)) (tF hb) rfl (by omega) (by decide) | exact lQ 3 (Or.inr (Or.inl rfl)) (tI hb) (tIk (by omega)) (by omega) (by decide) | exact lQ 3 (Or.inr (Or.inl rfl)) (tF hb) (tFk (by omega)) (by omega) (by decide)) ?_
      refine x_iload_n hm rfl rfl ?_
      refine x_iald hm rfl (by first | exact lI (tRow hb (by omega)) (by omega) (by decide) | exact lI (tRowI hb (by omega)) (by omega) (by decide) | exact lI (tRowF hb (by omega)) (by omega) (by decide) | exact lI (tSp hb) (by omega) (by decide) | exact lI rfl (by omega) (by decide)) ?_
      rw [hR.own hk]
      refine x_iload_n hm rfl rfl ?_
      refine x_icmp_ne hm rfl (t := 30) rfl (fun h2 => ?_) (fun h2 => ?_)
      · refine x_iinc hm rfl rfl (v := nI 1) (by decide) rfl ?_
        rw [jI_add]
        refine x_goto hm rfl (t := 4) rfl ?_
        first
          | exact ih _ _ (by omega) (by omega) (by rw [hs]; exact congrArg (fun z => sOwned r a k ||| z) (ifp (by first | assumption | exact bI_ne0 (by assumption))))
          | exact ih _ _ (by omega) (by omega) (by rw [hs]; exact (orz).trans (congrArg (fun z => sOwned r a k ||| z) (ifn (by first | assumption | exact bI_eq0.mp (by assumption)))))
      · refine x_iload_n hm rfl rfl ?_
        refine x_iconst hm rfl (v := nI 1) (by decide) ?_
        refine x_iload_n hm rfl rfl ?_
        refine x_ishl hm rfl ?_
        refine x_ior hm rfl ?_
        refine x_istore_n hm rfl rfl ?_
        refine x_iinc hm rfl rfl (v := nI 1) (by decide) rfl ?_
        rw [jI_add]
        refine x_goto hm rfl (t := 4) rfl ?_
        first
          | exact ih _ _ (by omega) (by omega) (by rw [hs]; exact congrArg (fun z => sOwned r a k ||| z) (ifp (by first | assumption | exact bI_ne0 (by assumption))))
          | exact ih _ _ (by omega) (by omega) (by rw [hs]; exact (orz).trans (congrArg (fun z => sOwned r a k ||| z) (ifn (by first | assumption | exact bI_eq0.mp (by assumption)))))
theorem e25 {a : Int32} (hb : b = 1 ∨ b = 18 ∨ b = 35) (hR : Rel b nt np M r) (hV : Vs nt np r) : mT X 25 [.ref b, .int a] (con M) (some (.int (sOwned r a nt))) (con M) := by
  refine mT.of (row := _) rfl (Nat.le_of_ble_eq_true rfl) ?_
  have hm : mMet 25 = some _ := rfl
  obtain ⟨hnb, hmb, -⟩ := id hR
  have h8 := hV.1
  have hp8 := hV.2.1
  refine x_iconst hm rfl (v := nI 0) (by decide) ?_
  refine x_istore_n hm rfl rfl ?_
  refine x_iconst hm rfl (v := nI 0) (by decide) ?_
  refine x_istore_n hm rfl rfl ?_
  exact m25 hb hR hV _ 0 _ (Nat.lt_succ_self _) (Nat.zero_le _) rfl
end EC
