/-! ===== the counts of both sides stay alike ===== -/
noncomputable def okM : List Nat := (List.range 113).map fun k => k + 132
theorem ckM : ckA okM 3 5 = true := by decide +kernel
section TJ
variable {X : mSc} {M : mM}
theorem row_of {N : mM} {k n : Nat} {f : Nat → Int32} (hs : mSp[k]? = some (0, n, [])) (h : (con N)[k]? = some (Sum.inl (0, n, .inl f) : va_E)) : N k = f := by
  rw [con_get hs] at h
  have e : (Sum.inl (0, n, .inl (N k)) : va_E) = Sum.inl (0, n, .inl f) := Option.some.inj h
  exact congrArg (fun c : va_E => match c with
    | .inl (_, _, .inl g) => g
    | _ => fun _ => 0) e
theorem nrL_env {T k : Nat} {as : List Value} (h : nrSb T as = true) : nrL T (mEnv k as) := by
  intro w hw
  unfold mEnv at hw
  rcases List.mem_append.mp hw with h5 | h5
  · obtain ⟨u, hu, e5⟩ := List.mem_map.mp h5
    cases e5
    exact nrS.of h w hu
  · cases (List.mem_replicate.mp h5).2
theorem frM {m : Nat} {as : List Value} {D D1 : mHp} {o : Option Value} (hm : okf okM m = true) (hb : nrSb 55 as = true) (hD : nrD 55 3 5 D) (h : mT X m as D o D1) : D1[55]? = D[55]? := by
  obtain ⟨row, n, h1, h2, h3⟩ := h
  exact (fr_run (T := 55) (ca := 3) (cb := 5) (ok := okf okM) (ckA_spec ckM) n m (fun _ => true) (fun pc e _ hf => ckA_spec ckM m hm pc e hf) 0 (mEnv row.2.2.2.1 as) [] D rfl (nrL_env hb) nrS.nil hD (o, D1) h3).1
def JF (M : mM) : Prop := (∀ i, i < 7 → M 55 i = M 70 (i + 1)) ∧ M 70 0 = sm7 (M 55)
theorem radd {x z : Int32} : x + nI 1 + z = x + z + nI 1 := by rw [Int32.add_assoc, Int32.add_comm (nI 1) z, ← Int32.add_assoc]
theorem sm7_k {f : Nat → Int32} {k : Nat} (hk : k ≤ 6) : sm7 (fun j => if j = k then f k + nI 1 else f j) = sm7 f + nI 1 := by
  rcases (by omega : k = 0 ∨ k = 1 ∨ k = 2 ∨ k = 3 ∨ k = 4 ∨ k = 5 ∨ k = 6) with rfl | rfl | rfl | rfl | rfl | rfl | rfl
  · show nI 0 + (if 0 = 0 then f 0 + nI 1 else f 0) + (if 1 = 0 then f 0 + nI 1 else f 1) + (if 2 = 0 then f 0 + nI 1 else f 2) + (if 3 = 0 then f 0 + nI 1 else f 3) + (if 4 = 0 then f 0 + nI 1 else f 4) + (if 5 = 0 then f 0 + nI 1 else f 5) + (if 6 = 0 then f 0 + nI 1 else f 6) = nI 0 + f 0 + f 1 + f 2 + f 3 + f 4 + f 5 + f 6 + nI 1
    rw [if_pos (rfl : 0 = 0), if_neg (by decide : ¬ 1 = 0), if_neg (by decide : ¬ 2 = 0), if_neg (by decide : ¬ 3 = 0), if_neg (by decide : ¬ 4 = 0), if_neg (by decide : ¬ 5 = 0), if_neg (by decide : ¬ 6 = 0)]
    simp only [← Int32.add_assoc, radd]
  · show nI 0 + (if 0 = 1 then f 1 + nI 1 else f 0) + (if 1 = 1 then f 1 + nI 1 else f 1) + (if 2 = 1 then f 1 + nI 1 else f 2) + (if 3 = 1 then f 1 + nI 1 else f 3) + (if 4 = 1 then f 1 + nI 1 else f 4) + (if 5 = 1 then f 1 + nI 1 else f 5) + (if 6 = 1 then f 1 + nI 1 else f 6) = nI 0 + f 0 + f 1 + f 2 + f 3 + f 4 + f 5 + f 6 + nI 1
    rw [if_neg (by decide : ¬ 0 = 1), if_pos (rfl : 1 = 1), if_neg (by decide : ¬ 2 = 1), if_neg (by decide : ¬ 3 = 1), if_neg (by decide : ¬ 4 = 1), if_neg (by decide : ¬ 5 = 1), if_neg (by decide : ¬ 6 = 1)]
    simp only [← Int32.add_assoc, radd]
  · show nI 0 + (if 0 = 2 then f 2 + nI 1 else f 0) + (if 1 = 2 then f 2 + nI 1 else f 1) + (if 2 = 2 then f 2 + nI 1 else f 2) + (if 3 = 2 then f 2 + nI 1 else f 3) + (if 4 = 2 then f 2 + nI 1 else f 4) + (if 5 = 2 then f 2 + nI 1 else f 5) + (if 6 = 2 then f 2 + nI 1 else f 6) = nI 0 + f 0 + f 1 + f 2 + f 3 + f 4 + f 5 + f 6 + nI 1
    rw [if_neg (by decide : ¬ 0 = 2), if_neg (by decide : ¬ 1 = 2), if_pos (rfl : 2 = 2), if_neg (by decide : ¬ 3 = 2), if_neg (by decide : ¬ 4 = 2), if_neg (by decide : ¬ 5 = 2), if_neg (by decide : ¬ 6 = 2)]
    simp only [← Int32.add_assoc, radd]
  · show nI 0 + (if 0 = 3 then f 3 + nI 1 else f 0) + (if 1 = 3 then f 3 + nI 1 else f 1) + (if 2 = 3 then f 3 + nI 1 else f 2) + (if 3 = 3 then f 3 + nI 1 else f 3) + (if 4 = 3 then f 3 + nI 1 else f 4) + (if 5 = 3 then f 3 + nI 1 else f 5) + (if 6 = 3 then f 3 + nI 1 else f 6) = nI 0 + f 0 + f 1 + f 2 + f 3 + f 4 + f 5 + f 6 + nI 1
    rw [if_neg (by decide : ¬ 0 = 3), if_neg (by decide : ¬ 1 = 3), if_neg (by decide : ¬ 2 = 3), if_pos (rfl : 3 = 3), if_neg (by decide : ¬ 4 = 3), if_neg (by decide : ¬ 5 = 3), if_neg (by decide : ¬ 6 = 3)]
    simp only [← Int32.add_assoc, radd]
  · show nI 0 + (if 0 = 4 then f 4 + nI 1 else f 0) + (if 1 = 4 then f 4 + nI 1 else f 1) + (if 2 = 4 then f 4 + nI 1 else f 2) + (if 3 = 4 then f 4 + nI 1 else f 3) + (if 4 = 4 then f 4 + nI 1 else f 4) + (if 5 = 4 then f 4 + nI 1 else f 5) + (if 6 = 4 then f 4 + nI 1 else f 6) = nI 0 + f 0 + f 1 + f 2 + f 3 + f 4 + f 5 + f 6 + nI 1
    rw [if_neg (by decide : ¬ 0 = 4), if_neg (by decide : ¬ 1 = 4), if_neg (by decide : ¬ 2 = 4), if_neg (by decide : ¬ 3 = 4), if_pos (rfl : 4 = 4), if_neg (by decide : ¬ 5 = 4), if_neg (by decide : ¬ 6 = 4)]
    simp only [← Int32.add_assoc, radd]
  · show nI 0 + (if 0 = 5 then f 5 + nI 1 else f 0) + (if 1 = 5 then f 5 + nI 1 else f 1) + (if 2 = 5 then f 5 + nI 1 else f 2) + (if 3 = 5 then f 5 + nI 1 else f 3) + (if 4 = 5 then f 5 + nI 1 else f 4) + (if 5 = 5 then f 5 + nI 1 else f 5) + (if 6 = 5 then f 5 + nI 1 else f 6) = nI 0 + f 0 + f 1 + f 2 + f 3 + f 4 + f 5 + f 6 + nI 1
    rw [if_neg (by decide : ¬ 0 = 5), if_neg (by decide : ¬ 1 = 5), if_neg (by decide : ¬ 2 = 5), if_neg (by decide : ¬ 3 = 5), if_neg (by decide : ¬ 4 = 5), if_pos (rfl : 5 = 5), if_neg (by decide : ¬ 6 = 5)]
    simp only [← Int32.add_assoc, radd]
  · show nI 0 + (if 0 = 6 then f 6 + nI 1 else f 0) + (if 1 = 6 then f 6 + nI 1 else f 1) + (if 2 = 6 then f 6 + nI 1 else f 2) + (if 3 = 6 then f 6 + nI 1 else f 3) + (if 4 = 6 then f 6 + nI 1 else f 4) + (if 5 = 6 then f 6 + nI 1 else f 5) + (if 6 = 6 then f 6 + nI 1 else f 6) = nI 0 + f 0 + f 1 + f 2 + f 3 + f 4 + f 5 + f 6 + nI 1
    rw [if_neg (by decide : ¬ 0 = 6), if_neg (by decide : ¬ 1 = 6), if_neg (by decide : ¬ 2 = 6), if_neg (by decide : ¬ 3 = 6), if_neg (by decide : ¬ 4 = 6), if_neg (by decide : ¬ 5 = 6), if_pos (rfl : 6 = 6)]
    simp only [← Int32.add_assoc, radd]
theorem JF.step {N : mM} {q : Int32 × Bool} (h : JF M) (h1 : N 55 = tlC (M 55) q) (h2 : N 70 = tlR (M 70) q) (hq : q.2 = true → FD q.1) : JF N := by
  cases hb : q.2 with
  | false =>
    rw [tlC_n hb] at h1
    rw [tlR_n hb] at h2
    exact ⟨fun i hi => by rw [h1, h2]; exact h.1 i hi, by rw [h1, h2]; exact h.2⟩
  | true =>
    obtain ⟨k, hk, he⟩ := FD_k0 (hq hb)
    have hn : ((-1000001 : Int32) - q.1).toNatClampNeg = k := by rw [he, jI_nat (by omega)]
    have hn1 : ((-1000001 : Int32) - q.1 + nI 1).toNatClampNeg = k + 1 := by rw [he, jI_add, jI_nat (by omega)]
    have g1 : N 55 = fun j => if j = k then M 55 k + nI 1 else M 55 j := by
      rw [h1]
      unfold tlC
      rw [if_pos hb]
      funext j
      unfold fndC mput
      rw [hn]
      by_cases e : j = k
      · rw [if_pos ⟨rfl, e⟩, if_pos e]
      · rw [if_neg (fun z => e z.2), if_neg e]
    have g2 : ∀ j, N 70 j = if j = 0 then M 70 0 + nI 1 else if j = k + 1 then M 70 (k + 1) + nI 1 else M 70 j := by
      intro j
      rw [h2]
      unfold tlR
      rw [if_pos hb]
      unfold fndR
      rw [hn1]
      by_cases e0 : j = 0
      · subst e0
        rw [mp0, if_pos rfl, mpf (by omega)]
      · rw [mpf e0, if_neg e0]
        by_cases e1 : j = k + 1
        · subst e1
          rw [mp0, if_pos rfl]
        · rw [mpf e1, if_neg e1]
    refine ⟨fun i hi => ?_, ?_⟩
    · rw [g1, g2 (i + 1), if_neg (by omega)]
      dsimp only
      by_cases e : i = k
      · subst e
        rw [if_pos rfl, if_pos rfl, h.1 i hi]
      · rw [if_neg e, if_neg (by omega)]
        exact h.1 i hi
    · rw [g2 0, if_pos rfl, h.2, g1]
      exact (sm7_k hk).symm
theorem JF.both {cmd rmd : Nat} {as bs : List Value} {o1 o2 : Option Value} {M1 M2 : mM} {q : Int32 × Bool} (hJ : J M) (hF : JF M) (h1 : mT X cmd as (con M) o1 (con M1)) (h2 : mT X rmd bs (con M1) o2 (con M2)) (ht : ∃ o N, mT X cmd as (con M) o (con N) ∧ Ck M N) (hc : ∀ o D, mT X cmd as (con M) o D → qC M q o D) (hm : okf okM rmd = true) (hb : nrSb 55 bs = true) (hr : ∀ N, Inv N → (∀ a, 66 ≤ a → N a = M a) → ∀ o D, mT X rmd bs (con N) o D → qR N q o D) : JF M2 := by
  obtain ⟨o, N, k1, k2⟩ := ht
  have e := (h1.det k1).2
  rw [e] at h2
  obtain ⟨c1, c2⟩ := hc _ _ k1
  have c3 : N 55 = tlC (M 55) q := row_of (n := 7) rfl c1
  have r1 : M2 70 = tlR (N 70) q := row_of (n := 8) rfl (hr N (k2.inv hJ.1) k2.2 _ _ h2)
  rw [k2.2 70 (by decide)] at r1
  have f1 : (con M2)[55]? = (con N)[55]? := frM hm hb (con_nrD cnC) h2
  have f2 : M2 55 = N 55 := row_of (n := 7) rfl (f1.trans (con_get (M := N) (k := 55) (q := (0, 7, [])) rfl))
  exact hF.step (f2.trans c3) r1 c2
theorem ck_k {m : Nat} {as : List Value} (h : ∃ v M1, mT X m as (con M) (some (.int v)) (con M1) ∧ Ck M M1) : ∃ o N, mT X m as (con M) o (con N) ∧ Ck M N := by
  obtain ⟨v, M1, h1, h2⟩ := h
  exact ⟨_, M1, h1, h2⟩
theorem ck_q {m : Nat} {as : List Value} (h : ∃ v M1, mT X m as (con M) (some (.int v)) (con M1) ∧ Cq M M1) : ∃ o N, mT X m as (con M) o (con N) ∧ Ck M N := by
  obtain ⟨v, M1, h1, h2⟩ := h
  exact ⟨_, M1, h1, h2.1, fun a ha => h2.2 a (Or.inl ha)⟩
theorem ck_l {m : Nat} {as : List Value} (h : ∃ v M1, mT X m as (con M) (some (.long v)) (con M1) ∧ Cq M M1) : ∃ o N, mT X m as (con M) o (con N) ∧ Ck M N := by
  obtain ⟨v, M1, h1, h2⟩ := h
  exact ⟨_, M1, h1, h2.1, fun a ha => h2.2 a (Or.inl ha)⟩
theorem qC_of {m : Nat} {as : List Value} {q : Int32 × Bool} (h : ∃ v M1, mT X m as (con M) (some (.int v)) (con M1) ∧ Lq q M M1) : ∀ o D, mT X m as (con M) o D → qC M q o D := by
  obtain ⟨v, N, h1, h2, h3⟩ := h
  intro o D g
  rw [← (h1.det g).2]
  refine ⟨(con_get (M := N) (k := 55) (q := (0, 7, [])) rfl).trans ?_, h3⟩
  show some (Sum.inl (0, 7, .inl (N 55)) : va_E) = _
  rw [h2]
theorem qR_of {m : Nat} {as : List Value} {q : Int32 × Bool} (h : ∃ v M1, mT X m as (con M) (some (.int v)) (con M1) ∧ Fq q M M1) : ∀ o D, mT X m as (con M) o D → qR M q o D := by
  obtain ⟨v, N, h1, h2⟩ := h
  intro o D g
  rw [← (h1.det g).2]
  refine (con_get (M := N) (k := 70) (q := (0, 8, [])) rfl).trans ?_
  show some (Sum.inl (0, 8, .inl (N 70)) : va_E) = _
  rw [show N 70 = tlR (M 70) q from h2]
theorem qR_kq {m : Nat} {as : List Value} {q : Int32 × Bool} (h : ∃ v M1, mT X m as (con M) (some (.int v)) (con M1) ∧ v = q.1 ∧ Kq M M1 ∧ Fq q M M1) : ∀ o D, mT X m as (con M) o D → qR M q o D := by
  obtain ⟨v, N, h1, -, -, h2⟩ := h
  exact qR_of ⟨v, N, h1, h2⟩
theorem J.cl (hJ : J M) : ∃ nt np, Rel 1 nt np M (M 67) ∧ Gd nt np (M 67) ∧ M 1 7 = -1 ∧ Rs (M 76) (M 77) (M 78) M ∧ (∀ s, s < 4 → ∃ k, k ≤ 40 ∧ M 77 s = nI k) ∧ M 52 1 = M 66 9 ∧ M 0 6 = M 66 3 := by
  obtain ⟨nt, np, hR, h1, h2, hV, hr0, hc7⟩ := hJ.2.2.1
  refine ⟨nt, np, hR, ⟨h1, h2, hV, hr0⟩, hc7, hJ.rs.1, fun u _ => hJ.1.1.size u, hJ.2.2.2.2.1.1, ?_⟩
  rcases hJ.2.2.2.1 with ⟨a, b⟩ | ⟨a, b, -⟩ <;> rw [a, b]
theorem J.rf {N : mM} (hJ : J M) (k : ∀ a, 66 ≤ a → N a = M a) : N 67 = M 67 ∧ N 66 6 = -1 ∧ N 66 9 = M 66 9 ∧ N 66 3 = M 66 3 := ⟨k 67 (by decide), by rw [k 66 (by decide)]; exact hJ.2.2.2.2.2.2, by rw [k 66 (by decide)], by rw [k 66 (by decide)]⟩
def JQ (M : mM) : Prop := J M ∧ JF M
def JJQ (X : mSc) (cmd rmd : Nat) (as bs : List Value) (M : mM) (P : Int32 → Int32 → Prop) : Prop := ∃ v M1 w M2, mT X cmd as (con M) (some (.int v)) (con M1) ∧ mT X rmd bs (con M1) (some (.int w)) (con M2) ∧ JQ M2 ∧ P v w
def JLQ (X : mSc) (cmd rmd : Nat) (as bs : List Value) (M : mM) (P : Int64 → Int64 → Prop) : Prop := ∃ v M1 w M2, mT X cmd as (con M) (some (.long v)) (con M1) ∧ mT X rmd bs (con M1) (some (.long w)) (con M2) ∧ JQ M2 ∧ P v w
theorem s_thing {b1 b2 : Int32} (hJ : JQ M) : JJQ X 5 132 [.ref 0, .int b1, .int b2] [.ref 66, .int b1, .int b2] M (fun _ _ => True) := by
  obtain ⟨hJ, hF⟩ := hJ
  obtain ⟨nt, np, hR, hG, hc7, hS, hz, hct, hk6⟩ := hJ.cl
  obtain ⟨v, M1, w, M2, h1, h2, h3, -⟩ := j_thing (X := X) (a1 := b1) (a2 := b2) hJ
  refine ⟨v, M1, w, M2, h1, h2, ⟨h3, JF.both hJ hF h1 h2 (ck_k (t5 hJ.1.1)) (fC5 hR hG hc7 hS hz hct hk6) (by decide +kernel) rfl (fun N i k => ?_)⟩, trivial⟩
  obtain ⟨k1, k2, k3, k4⟩ := hJ.rf k
  exact fR132 i k1 hG k2 (fun s _ => i.1.size s) k3 k4
theorem s_forge {b1 b2 b3 : Int32} (hJ : JQ M) : JJQ X 17 149 [.ref 0, .int b1, .int b2, .int b3] [.ref 66, .int b1, .int b2, .int b3] M (fun _ _ => True) := by
  obtain ⟨hJ, hF⟩ := hJ
  obtain ⟨nt, np, hR, hG, hc7, hS, hz, hct, hk6⟩ := hJ.cl
  obtain ⟨v, M1, w, M2, h1, h2, h3, -⟩ := j_forge (X := X) (a1 := b1) (a2 := b2) (a3 := b3) hJ
  refine ⟨v, M1, w, M2, h1, h2, ⟨h3, JF.both hJ hF h1 h2 (ck_k (t17 hJ.1.1)) (fC17 hR hG hc7 hS hz hct hk6) (by decide +kernel) rfl (fun N i k => ?_)⟩, trivial⟩
  obtain ⟨k1, k2, k3, k4⟩ := hJ.rf k
  exact fR149 i k1 hG k2 (fun s _ => i.1.size s) k3 k4
theorem s_person {b1 b2 : Int32} (hJ : JQ M) : JJQ X 22 156 [.ref 0, .int b1, .int b2] [.ref 66, .int b1, .int b2] M (fun _ _ => True) := by
  obtain ⟨hJ, hF⟩ := hJ
  obtain ⟨nt, np, hR, hG, hc7, hS, hz, hct, hk6⟩ := hJ.cl
  obtain ⟨v, M1, w, M2, h1, h2, h3, -⟩ := j_person (X := X) (a1 := b1) (a2 := b2) hJ
  refine ⟨v, M1, w, M2, h1, h2, ⟨h3, JF.both hJ hF h1 h2 (ck_k (t22 hJ.1.1)) (fC22 hR hG hc7 hS hz hct hk6) (by decide +kernel) rfl (fun N i k => ?_)⟩, trivial⟩
  obtain ⟨k1, k2, k3, k4⟩ := hJ.rf k
  exact fR156 i k1 hG k2 (fun s _ => i.1.size s) k3 k4
theorem s_change {b1 b2 b3 : Int32} (hJ : JQ M) : JJQ X 26 161 [.ref 0, .int b1, .int b2, .int b3] [.ref 66, .int b1, .int b2, .int b3] M (fun _ _ => True) := by
  obtain ⟨hJ, hF⟩ := hJ
  obtain ⟨nt, np, hR, hG, hc7, hS, hz, hct, hk6⟩ := hJ.cl
  obtain ⟨v, M1, w, M2, h1, h2, h3, -⟩ := j_change (X := X) (a1 := b1) (a2 := b2) (a3 := b3) hJ
  refine ⟨v, M1, w, M2, h1, h2, ⟨h3, JF.both hJ hF h1 h2 (ck_k (t26 hJ.1.1)) (fC26 hR hG hc7 hS hz hct hk6) (by decide +kernel) rfl (fun N i k => ?_)⟩, trivial⟩
  obtain ⟨k1, k2, k3, k4⟩ := hJ.rf k
  exact fR161 i k1 hG k2 (fun s _ => i.1.size s) k3 k4
theorem s_go {b1 : Int32} (hJ : JQ M) : JJQ X 29 163 [.ref 0, .int b1] [.ref 66, .int b1] M (fun _ _ => True) := by
  obtain ⟨hJ, hF⟩ := hJ
  obtain ⟨nt, np, hR, hG, hc7, hS, hz, hct, hk6⟩ := hJ.cl
  obtain ⟨v, M1, w, M2, h1, h2, h3, -⟩ := j_go (X := X) (a1 := b1) hJ
  refine ⟨v, M1, w, M2, h1, h2, ⟨h3, JF.both hJ hF h1 h2 (ck_k (t29 hJ.1.1)) (fC29 hR hG hc7 hS hz hct hk6) (by decide +kernel) rfl (fun N i k => ?_)⟩, trivial⟩
  obtain ⟨k1, k2, k3, k4⟩ := hJ.rf k
  exact fR163 i k1 hG k2 (fun s _ => i.1.size s) k3 k4
theorem s_strolls {b1 : Int32} (hJ : JQ M) : JJQ X 82 214 [.ref 0, .int b1] [.ref 66, .int b1] M (fun _ _ => True) := by
  obtain ⟨hJ, hF⟩ := hJ
  obtain ⟨nt, np, hR, hG, hc7, hS, hz, hct, hk6⟩ := hJ.cl
  obtain ⟨v, M1, w, M2, h1, h2, h3, -⟩ := j_strolls (X := X) (a1 := b1) hJ
  refine ⟨v, M1, w, M2, h1, h2, ⟨h3, JF.both hJ hF h1 h2 (ck_k (t82 hJ.1.1)) (fC82 hR hG hc7 hS hz hct hk6) (by decide +kernel) rfl (fun N i k => ?_)⟩, trivial⟩
  obtain ⟨k1, k2, k3, k4⟩ := hJ.rf k
  exact fR214 i k1 hG k2 (fun s _ => i.1.size s) k3 k4
theorem s_seed {b1 : Int32} (hJ : JQ M) : JJQ X 86 217 [.ref 0, .int b1] [.ref 66, .int b1] M (fun _ _ => True) := by
  obtain ⟨hJ, hF⟩ := hJ
  obtain ⟨nt, np, hR, hG, hc7, hS, hz, hct, hk6⟩ := hJ.cl
  obtain ⟨v, M1, w, M2, h1, h2, h3, -⟩ := j_seed (X := X) (a1 := b1) hJ
  refine ⟨v, M1, w, M2, h1, h2, ⟨h3, JF.both hJ hF h1 h2 (ck_k (t86 hJ.1.1)) (fC86 hR hG hc7 hS hz hct hk6) (by decide +kernel) rfl (fun N i k => ?_)⟩, trivial⟩
  obtain ⟨k1, k2, k3, k4⟩ := hJ.rf k
  exact fR217 i k1 hG k2 (fun s _ => i.1.size s) k3 k4
theorem s_feed {b1 b2 : Int32} (hJ : JQ M) : JJQ X 87 218 [.ref 0, .int b1, .int b2] [.ref 66, .int b1, .int b2] M (fun _ _ => True) := by
  obtain ⟨hJ, hF⟩ := hJ
  obtain ⟨nt, np, hR, hG, hc7, hS, hz, hct, hk6⟩ := hJ.cl
  obtain ⟨v, M1, w, M2, h1, h2, h3, -⟩ := j_feed (X := X) (a1 := b1) (a2 := b2) hJ
  refine ⟨v, M1, w, M2, h1, h2, ⟨h3, JF.both hJ hF h1 h2 (ck_k (t87 hJ.1.1)) (fC87 hR hG hc7 hS hz hct hk6) (by decide +kernel) rfl (fun N i k => ?_)⟩, trivial⟩
  obtain ⟨k1, k2, k3, k4⟩ := hJ.rf k
  exact fR218 i k1 hG k2 (fun s _ => i.1.size s) k3 k4
theorem s_wipe (hJ : JQ M) : JJQ X 89 219 [.ref 0] [.ref 66] M (fun _ _ => True) := by
  obtain ⟨hJ, hF⟩ := hJ
  obtain ⟨nt, np, hR, hG, hc7, hS, hz, hct, hk6⟩ := hJ.cl
  obtain ⟨v, M1, w, M2, h1, h2, h3, -⟩ := j_wipe (X := X) hJ
  refine ⟨v, M1, w, M2, h1, h2, ⟨h3, JF.both hJ hF h1 h2 (ck_k (t89 hJ.1.1)) (fC89 hR hG hc7 hS hz hct hk6) (by decide +kernel) rfl (fun N i k => ?_)⟩, trivial⟩
  obtain ⟨k1, k2, k3, k4⟩ := hJ.rf k
  exact fR219 i k1 hG k2 (fun s _ => i.1.size s) k3 k4
theorem s_text (hJ : JQ M) : JJQ X 90 220 [.ref 0] [.ref 66] M (fun _ _ => True) := by
  obtain ⟨hJ, hF⟩ := hJ
  obtain ⟨nt, np, hR, hG, hc7, hS, hz, hct, hk6⟩ := hJ.cl
  obtain ⟨v, M1, w, M2, h1, h2, h3, -⟩ := j_text (X := X) hJ
  refine ⟨v, M1, w, M2, h1, h2, ⟨h3, JF.both hJ hF h1 h2 (ck_k (t90 hJ.1.1)) (fC90 hR hG hc7 hS hz hct hk6) (by decide +kernel) rfl (fun N i k => ?_)⟩, trivial⟩
  obtain ⟨k1, k2, k3, k4⟩ := hJ.rf k
  exact fR220 i k1 hG k2 (fun s _ => i.1.size s) k3 k4
theorem s_hold {b1 b2 : Int32} (hJ : JQ M) : JJQ X 114 231 [.ref 0, .int b1, .int b2] [.ref 66, .int b1, .int b2] M (fun _ _ => True) := by
  obtain ⟨hJ, hF⟩ := hJ
  obtain ⟨nt, np, hR, hG, hc7, hS, hz, hct, hk6⟩ := hJ.cl
  obtain ⟨v, M1, w, M2, h1, h2, h3, -⟩ := j_hold (X := X) (a1 := b1) (a2 := b2) hJ
  refine ⟨v, M1, w, M2, h1, h2, ⟨h3, JF.both hJ hF h1 h2 (ck_k (t114 hJ.1.1)) (fC114 hR hG hc7 hS hz hct hk6) (by decide +kernel) rfl (fun N i k => ?_)⟩, trivial⟩
  obtain ⟨k1, k2, k3, k4⟩ := hJ.rf k
  exact fR231 i k1 hG k2 (fun s _ => i.1.size s) k3 k4
theorem s_undo (hJ : JQ M) : JJQ X 126 241 [.ref 0] [.ref 66] M (fun _ _ => True) := by
  obtain ⟨hJ, hF⟩ := hJ
  obtain ⟨nt, np, hR, hG, hc7, hS, hz, hct, hk6⟩ := hJ.cl
  obtain ⟨v, M1, w, M2, h1, h2, h3, -⟩ := j_undo (X := X) hJ
  refine ⟨v, M1, w, M2, h1, h2, ⟨h3, JF.both hJ hF h1 h2 (ck_k (t126 hJ.1.1)) (fC126 hR hG hc7 hS hz hct hk6) (by decide +kernel) rfl (fun N i k => ?_)⟩, trivial⟩
  obtain ⟨k1, k2, k3, k4⟩ := hJ.rf k
  exact fR241 i k1 hG k2 (fun s _ => i.1.size s) k3 k4
theorem s_tear (hJ : JQ M) : JJQ X 127 242 [.ref 0] [.ref 66] M (fun _ _ => True) := by
  obtain ⟨hJ, hF⟩ := hJ
  obtain ⟨nt, np, hR, hG, hc7, hS, hz, hct, hk6⟩ := hJ.cl
  obtain ⟨v, M1, w, M2, h1, h2, h3, -⟩ := j_tear (X := X) hJ
  refine ⟨v, M1, w, M2, h1, h2, ⟨h3, JF.both hJ hF h1 h2 (ck_k (t127 hJ.1.1)) (fC127 hR hG hc7 hS hz hct hk6) (by decide +kernel) rfl (fun N i k => ?_)⟩, trivial⟩
  obtain ⟨k1, k2, k3, k4⟩ := hJ.rf k
  exact fR242 i k1 hG k2 (fun s _ => i.1.size s) k3 k4
theorem s_thingOf {b1 b2 : Int32} (hJ : JQ M) : JJQ X 9 138 [.ref 0, .int b1, .int b2] [.ref 66, .int b1, .int b2] M (fun _ _ => True) := by
  obtain ⟨hJ, hF⟩ := hJ
  obtain ⟨nt, np, hR, hG, hc7, hS, hz, hct, hk6⟩ := hJ.cl
  obtain ⟨v, M1, w, M2, h1, h2, h3, -⟩ := a_thingOf (X := X) (a1 := b1) (a2 := b2) hJ
  refine ⟨v, M1, w, M2, h1, h2, ⟨h3, JF.both hJ hF h1 h2 (ck_q (t9 hJ.1.1)) (fC9 hR hG hc7 hS hz hct hk6) (by decide +kernel) rfl (fun N i k => ?_)⟩, trivial⟩
  obtain ⟨k1, k2, k3, k4⟩ := hJ.rf k
  exact fR138 i k1 hG k2 (fun s _ => i.1.size s) k3 k4
theorem s_of {b1 b2 : Int32} (hJ : JQ M) : JJQ X 24 159 [.ref 0, .int b1, .int b2] [.ref 66, .int b1, .int b2] M (fun _ _ => True) := by
  obtain ⟨hJ, hF⟩ := hJ
  obtain ⟨nt, np, hR, hG, hc7, hS, hz, hct, hk6⟩ := hJ.cl
  obtain ⟨v, M1, w, M2, h1, h2, h3, -⟩ := a_of (X := X) (a1 := b1) (a2 := b2) hJ
  refine ⟨v, M1, w, M2, h1, h2, ⟨h3, JF.both hJ hF h1 h2 (ck_q (t24 hJ.1.1)) (fC24 hR hG hc7 hS hz hct hk6) (by decide +kernel) rfl (fun N i k => ?_)⟩, trivial⟩
  obtain ⟨k1, k2, k3, k4⟩ := hJ.rf k
  exact fR159 i k1 hG k2 (fun s _ => i.1.size s) k3 k4
theorem s_envy {b1 b2 : Int32} (hJ : JQ M) : JJQ X 28 162 [.ref 0, .int b1, .int b2] [.ref 66, .int b1, .int b2] M (fun _ _ => True) := by
  obtain ⟨hJ, hF⟩ := hJ
  obtain ⟨nt, np, hR, hG, hc7, hS, hz, hct, hk6⟩ := hJ.cl
  obtain ⟨v, M1, w, M2, h1, h2, h3, -⟩ := a_envy (X := X) (a1 := b1) (a2 := b2) hJ
  refine ⟨v, M1, w, M2, h1, h2, ⟨h3, JF.both hJ hF h1 h2 (ck_q (t28 hJ.1.1)) (fC28 hR hG hc7 hS hz hct hk6) (by decide +kernel) rfl (fun N i k => ?_)⟩, trivial⟩
  obtain ⟨k1, k2, k3, k4⟩ := hJ.rf k
  exact fR162 i k1 hG k2 (fun s _ => i.1.size s) k3 k4
theorem s_now {b1 : Int32} (hJ : JQ M) : JJQ X 37 169 [.ref 0, .int b1] [.ref 66, .int b1] M (fun _ _ => True) := by
  obtain ⟨hJ, hF⟩ := hJ
  obtain ⟨nt, np, hR, hG, hc7, hS, hz, hct, hk6⟩ := hJ.cl
  obtain ⟨v, M1, w, M2, h1, h2, h3, -⟩ := a_now (X := X) (a1 := b1) hJ
  refine ⟨v, M1, w, M2, h1, h2, ⟨h3, JF.both hJ hF h1 h2 (ck_q (t37 hJ.1.1)) (fC37 hR hG hc7 hS hz hct hk6) (by decide +kernel) rfl (fun N i k => ?_)⟩, trivial⟩
  obtain ⟨k1, k2, k3, k4⟩ := hJ.rf k
  exact fR169 i k1 hG k2 (fun s _ => i.1.size s) k3 k4
theorem s_fallsWith {b1 : Int32} (hJ : JQ M) : JJQ X 60 193 [.ref 0, .int b1] [.ref 66, .int b1] M (fun _ _ => True) := by
  obtain ⟨hJ, hF⟩ := hJ
  obtain ⟨nt, np, hR, hG, hc7, hS, hz, hct, hk6⟩ := hJ.cl
  obtain ⟨v, M1, w, M2, h1, h2, h3, -⟩ := a_fallsWith (X := X) (a1 := b1) hJ
  refine ⟨v, M1, w, M2, h1, h2, ⟨h3, JF.both hJ hF h1 h2 (ck_q (t60 hJ.1.1)) (fC60 hR hG hc7 hS hz hct hk6) (by decide +kernel) rfl (fun N i k => ?_)⟩, trivial⟩
  obtain ⟨k1, k2, k3, k4⟩ := hJ.rf k
  exact fR193 i k1 hG k2 (fun s _ => i.1.size s) k3 k4
theorem s_depth {b1 : Int32} (hJ : JQ M) : JJQ X 61 195 [.ref 0, .int b1] [.ref 66, .int b1] M (fun _ _ => True) := by
  obtain ⟨hJ, hF⟩ := hJ
  obtain ⟨nt, np, hR, hG, hc7, hS, hz, hct, hk6⟩ := hJ.cl
  obtain ⟨v, M1, w, M2, h1, h2, h3, -⟩ := a_depth (X := X) (a1 := b1) hJ
  refine ⟨v, M1, w, M2, h1, h2, ⟨h3, JF.both hJ hF h1 h2 (ck_q (t61 hJ.1.1)) (fC61 hR hG hc7 hS hz hct hk6) (by decide +kernel) rfl (fun N i k => ?_)⟩, trivial⟩
  obtain ⟨k1, k2, k3, k4⟩ := hJ.rf k
  exact fR195 i k1 hG k2 (fun s _ => i.1.size s) k3 k4
theorem s_fells (hJ : JQ M) : JJQ X 64 197 [.ref 0] [.ref 66] M (fun _ _ => True) := by
  obtain ⟨hJ, hF⟩ := hJ
  obtain ⟨nt, np, hR, hG, hc7, hS, hz, hct, hk6⟩ := hJ.cl
  obtain ⟨v, M1, w, M2, h1, h2, h3, -⟩ := a_fells (X := X) hJ
  refine ⟨v, M1, w, M2, h1, h2, ⟨h3, JF.both hJ hF h1 h2 (ck_q (t64 hJ.1.1)) (fC64 hR hG hc7 hS hz hct hk6) (by decide +kernel) rfl (fun N i k => ?_)⟩, trivial⟩
  obtain ⟨k1, k2, k3, k4⟩ := hJ.rf k
  exact fR197 i k1 hG k2 (fun s _ => i.1.size s) k3 k4
theorem s_worth {b1 b2 : Int32} (hJ : JQ M) : JJQ X 65 198 [.ref 0, .int b1, .int b2] [.ref 66, .int b1, .int b2] M (fun _ _ => True) := by
  obtain ⟨hJ, hF⟩ := hJ
  obtain ⟨nt, np, hR, hG, hc7, hS, hz, hct, hk6⟩ := hJ.cl
  obtain ⟨v, M1, w, M2, h1, h2, h3, -⟩ := a_worth (X := X) (a1 := b1) (a2 := b2) hJ
  refine ⟨v, M1, w, M2, h1, h2, ⟨h3, JF.both hJ hF h1 h2 (ck_q (t65 hJ.1.1)) (fC65 hR hG hc7 hS hz hct hk6) (by decide +kernel) rfl (fun N i k => ?_)⟩, trivial⟩
  obtain ⟨k1, k2, k3, k4⟩ := hJ.rf k
  exact fR198 i k1 hG k2 (fun s _ => i.1.size s) k3 k4
theorem s_deals {b1 b2 b3 : Int32} (hJ : JQ M) : JJQ X 72 204 [.ref 0, .int b1, .int b2, .int b3] [.ref 66, .int b1, .int b2, .int b3] M (fun _ _ => True) := by
  obtain ⟨hJ, hF⟩ := hJ
  obtain ⟨nt, np, hR, hG, hc7, hS, hz, hct, hk6⟩ := hJ.cl
  obtain ⟨v, M1, w, M2, h1, h2, h3, -⟩ := a_deals (X := X) (a1 := b1) (a2 := b2) (a3 := b3) hJ
  refine ⟨v, M1, w, M2, h1, h2, ⟨h3, JF.both hJ hF h1 h2 (ck_q (t72 hJ.1.1)) (fC72 hR hG hc7 hS hz hct hk6) (by decide +kernel) rfl (fun N i k => ?_)⟩, trivial⟩
  obtain ⟨k1, k2, k3, k4⟩ := hJ.rf k
  exact fR204 i k1 hG k2 (fun s _ => i.1.size s) k3 k4
theorem s_lesser {b1 b2 b3 : Int32} (hJ : JQ M) : JJQ X 73 206 [.ref 0, .int b1, .int b2, .int b3] [.ref 66, .int b1, .int b2, .int b3] M (fun _ _ => True) := by
  obtain ⟨hJ, hF⟩ := hJ
  obtain ⟨nt, np, hR, hG, hc7, hS, hz, hct, hk6⟩ := hJ.cl
  obtain ⟨v, M1, w, M2, h1, h2, h3, -⟩ := a_lesser (X := X) (a1 := b1) (a2 := b2) (a3 := b3) hJ
  refine ⟨v, M1, w, M2, h1, h2, ⟨h3, JF.both hJ hF h1 h2 (ck_q (t73 hJ.1.1)) (fC73 hR hG hc7 hS hz hct hk6) (by decide +kernel) rfl (fun N i k => ?_)⟩, trivial⟩
  obtain ⟨k1, k2, k3, k4⟩ := hJ.rf k
  exact fR206 i k1 hG k2 (fun s _ => i.1.size s) k3 k4
theorem s_envious (hJ : JQ M) : JJQ X 74 207 [.ref 0] [.ref 66] M (fun _ _ => True) := by
  obtain ⟨hJ, hF⟩ := hJ
  obtain ⟨nt, np, hR, hG, hc7, hS, hz, hct, hk6⟩ := hJ.cl
  obtain ⟨v, M1, w, M2, h1, h2, h3, -⟩ := a_envious (X := X) hJ
  refine ⟨v, M1, w, M2, h1, h2, ⟨h3, JF.both hJ hF h1 h2 (ck_q (t74 hJ.1.1)) (fC74 hR hG hc7 hS hz hct hk6) (by decide +kernel) rfl (fun N i k => ?_)⟩, trivial⟩
  obtain ⟨k1, k2, k3, k4⟩ := hJ.rf k
  exact fR207 i k1 hG k2 (fun s _ => i.1.size s) k3 k4
theorem s_as {b1 b2 : Int32} (hJ : JQ M) : JJQ X 115 233 [.ref 0, .int b1, .int b2] [.ref 66, .int b1, .int b2] M (fun _ _ => True) := by
  obtain ⟨hJ, hF⟩ := hJ
  obtain ⟨nt, np, hR, hG, hc7, hS, hz, hct, hk6⟩ := hJ.cl
  obtain ⟨v, M1, w, M2, h1, h2, h3, -⟩ := a_as (X := X) (a1 := b1) (a2 := b2) hJ
  refine ⟨v, M1, w, M2, h1, h2, ⟨h3, JF.both hJ hF h1 h2 (ck_q (t115 hJ.1.1)) (fC115 hR hG hc7 hS hz hct hk6) (by decide +kernel) rfl (fun N i k => ?_)⟩, trivial⟩
  obtain ⟨k1, k2, k3, k4⟩ := hJ.rf k
  exact fR233 i k1 hG k2 (fun s _ => i.1.size s) k3 k4
theorem s_count {b1 : Int32} (hJ : JQ M) : JJQ X 128 243 [.ref 0, .int b1] [.ref 66, .int b1] M (fun _ _ => True) := by
  obtain ⟨hJ, hF⟩ := hJ
  obtain ⟨nt, np, hR, hG, hc7, hS, hz, hct, hk6⟩ := hJ.cl
  obtain ⟨v, M1, w, M2, h1, h2, h3, -⟩ := a_count (X := X) (a1 := b1) hJ
  refine ⟨v, M1, w, M2, h1, h2, ⟨h3, JF.both hJ hF h1 h2 (ck_q (t128 hJ.1.1)) (fC128 hR hG hc7 hS hz hct hk6) (by decide +kernel) rfl (fun N i k => ?_)⟩, trivial⟩
  obtain ⟨k1, k2, k3, k4⟩ := hJ.rf k
  exact fR243 i k1 hG k2 (fun s _ => i.1.size s) k3 k4
theorem s_sheet {b1 b2 b3 : Int32} (hJ : JQ M) : JJQ X 116 234 [.ref 0, .int b1, .int b2, .int b3] [.ref 66, .int b1, .int b2, .int b3] M (fun _ _ => True) := by
  obtain ⟨hJ, hF⟩ := hJ
  obtain ⟨nt, np, hR, hG, hc7, hS, hz, hct, hk6⟩ := hJ.cl
  obtain ⟨v, M1, w, M2, h1, h2, h3, -⟩ := j_sheet (X := X) (a1 := b1) (a2 := b2) (a3 := b3) hJ
  refine ⟨v, M1, w, M2, h1, h2, ⟨h3, JF.both hJ hF h1 h2 (ck_k (t116 hJ.1.1)) (fC116 hR hG hc7 hS hz hct hk6) (by decide +kernel) rfl (fun N i k => ?_)⟩, trivial⟩
  obtain ⟨k1, k2, k3, k4⟩ := hJ.rf k
  exact fR234 i k1 hG k2 (fun s _ => i.1.size s) k3 k4
theorem s_write {b1 b2 b3 : Int32} (hJ : JQ M) : JJQ X 118 235 [.ref 0, .int b1, .int b2, .int b3] [.ref 66, .int b1, .int b2, .int b3] M (fun _ _ => True) := by
  obtain ⟨hJ, hF⟩ := hJ
  obtain ⟨nt, np, hR, hG, hc7, hS, hz, hct, hk6⟩ := hJ.cl
  obtain ⟨v, M1, w, M2, h1, h2, h3, -⟩ := j_write (X := X) (a1 := b1) (a2 := b2) (a3 := b3) hJ
  refine ⟨v, M1, w, M2, h1, h2, ⟨h3, JF.both hJ hF h1 h2 (ck_k (t118 hJ.1.1)) (fC118 hR hG hc7 hS hz hct hk6) (by decide +kernel) rfl (fun N i k => ?_)⟩, trivial⟩
  obtain ⟨k1, k2, k3, k4⟩ := hJ.rf k
  rw [← k 76 (by decide), ← k 77 (by decide)]
  exact fR235 i k1 hG k2 (fun s _ => i.1.size s) k3 k4
theorem s_copy {b1 b2 b3 b4 b5 : Int32} (hJ : JQ M) : JJQ X 120 237 [.ref 0, .int b1, .int b2, .int b3, .int b4, .int b5] [.ref 66, .int b1, .int b2, .int b3, .int b4, .int b5] M (fun _ _ => True) := by
  obtain ⟨hJ, hF⟩ := hJ
  obtain ⟨nt, np, hR, hG, hc7, hS, hz, hct, hk6⟩ := hJ.cl
  obtain ⟨v, M1, w, M2, h1, h2, h3, -⟩ := j_copy (X := X) (a1 := b1) (a2 := b2) (a3 := b3) (a4 := b4) (a5 := b5) hJ
  refine ⟨v, M1, w, M2, h1, h2, ⟨h3, JF.both hJ hF h1 h2 (ck_k (t120 hJ.1.1)) (fC120 hR hG hc7 hS hz hct hk6) (by decide +kernel) rfl (fun N i k => ?_)⟩, trivial⟩
  obtain ⟨k1, k2, k3, k4⟩ := hJ.rf k
  rw [← k 76 (by decide), ← k 77 (by decide)]
  exact fR237 i k1 hG k2 (fun s _ => i.1.size s) k3 k4
theorem s_load {b1 : Int32} (hJ : JQ M) : JJQ X 122 238 [.ref 0, .int b1] [.ref 66, .int b1] M (fun _ _ => True) := by
  obtain ⟨hJ, hF⟩ := hJ
  obtain ⟨nt, np, hR, hG, hc7, hS, hz, hct, hk6⟩ := hJ.cl
  obtain ⟨v, M1, w, M2, h1, h2, h3, -⟩ := j_load (X := X) (a1 := b1) hJ
  refine ⟨v, M1, w, M2, h1, h2, ⟨h3, JF.both hJ hF h1 h2 (ck_k (t122 hJ.1.1)) (fC122 hR hG hc7 hS hz hct hk6) (by decide +kernel) rfl (fun N i k => ?_)⟩, trivial⟩
  obtain ⟨k1, k2, k3, k4⟩ := hJ.rf k
  rw [← k 76 (by decide)]
  exact fR238 i k1 hG k2 (fun s _ => i.1.size s) k3 k4
theorem s_judge {b1 : Int32} (hJ : JQ M) : JJQ X 123 239 [.ref 0, .int b1] [.ref 66, .int b1] M (fun _ _ => True) := by
  obtain ⟨hJ, hF⟩ := hJ
  obtain ⟨nt, np, hR, hG, hc7, hS, hz, hct, hk6⟩ := hJ.cl
  obtain ⟨v, M1, w, M2, h1, h2, h3, -⟩ := a_judge (X := X) (a1 := b1) hJ
  refine ⟨v, M1, w, M2, h1, h2, ⟨h3, JF.both hJ hF h1 h2 (ck_q (t123 hJ.1.1)) (fC123 hR hG hc7 hS hz hct hk6) (by decide +kernel) rfl (fun N i k => ?_)⟩, trivial⟩
  obtain ⟨k1, k2, k3, k4⟩ := hJ.rf k
  rw [← k 76 (by decide)]
  exact fR239 i k1 hG k2 (fun s _ => i.1.size s) k3 k4
theorem s_image (hJ : JQ M) : JJQ X 125 240 [.ref 0] [.ref 66] M (fun _ _ => True) := by
  obtain ⟨hJ, hF⟩ := hJ
  obtain ⟨nt, np, hR, hG, hc7, hS, hz, hct, hk6⟩ := hJ.cl
  obtain ⟨v, M1, w, M2, h1, h2, h3, -⟩ := j_image (X := X) hJ
  refine ⟨v, M1, w, M2, h1, h2, ⟨h3, JF.both hJ hF h1 h2 (by
    obtain ⟨v, M1, g1, -, g2⟩ := t125 (X := X) hJ.1.1
    exact ⟨_, M1, g1, g2⟩) (fC125 hR hG hc7 hS hz hct hk6) (by decide +kernel) rfl (fun N i k => ?_)⟩, trivial⟩
  obtain ⟨k1, k2, k3, k4⟩ := hJ.rf k
  exact fR240 i k1 hG k2 (fun s _ => i.1.size s) k3 k4
theorem s_ahead {b1 b2 : Int32} (hJ : JQ M) : JJQ X 41 172 [.ref 0, .int b1, .int b2] [.ref 66, .int b1, .int b2] M (fun _ _ => True) := by
  obtain ⟨hJ, hF⟩ := hJ
  obtain ⟨nt, np, hR, hG, hc7, hS, hz, hct, hk6⟩ := hJ.cl
  obtain ⟨v, M1, w, M2, h1, h2, h3, -⟩ := a_ahead (X := X) (a1 := b1) (a2 := b2) hJ
  refine ⟨v, M1, w, M2, h1, h2, ⟨h3, JF.both hJ hF h1 h2 (ck_q (t41 hJ.1.1)) (fC41 hR hG hc7 hS hz hct hk6) (by decide +kernel) rfl (fun N i k => ?_)⟩, trivial⟩
  obtain ⟨k1, k2, k3, k4⟩ := hJ.rf k
  rw [← k 67 (by decide)]
  exact qR_kq (e172 i.1 ((congrFun k1 1).trans hG.1) hG.2.2.1.1 ((congrFun k1 2).trans hG.2.1) hG.2.2.1.2.1 k2)
theorem s_gone {b1 : Int32} (hJ : JQ M) : JJQ X 45 178 [.ref 0, .int b1] [.ref 66, .int b1] M (fun _ _ => True) := by
  obtain ⟨hJ, hF⟩ := hJ
  obtain ⟨nt, np, hR, hG, hc7, hS, hz, hct, hk6⟩ := hJ.cl
  obtain ⟨v, M1, w, M2, h1, h2, h3, -⟩ := a_gone (X := X) (a1 := b1) hJ
  refine ⟨v, M1, w, M2, h1, h2, ⟨h3, JF.both hJ hF h1 h2 (ck_q (t45 hJ.1.1)) (fC45 hR hG hc7 hS hz hct hk6) (by decide +kernel) rfl (fun N i k => ?_)⟩, trivial⟩
  obtain ⟨k1, k2, k3, k4⟩ := hJ.rf k
  rw [← k 67 (by decide)]
  exact qR_kq (e178 i.1 ((congrFun k1 1).trans hG.1) hG.2.2.1.1 ((congrFun k1 2).trans hG.2.1) hG.2.2.1.2.1 k2)
theorem s_worn {b1 : Int32} (hJ : JQ M) : JJQ X 46 179 [.ref 0, .int b1] [.ref 66, .int b1] M (fun _ _ => True) := by
  obtain ⟨hJ, hF⟩ := hJ
  obtain ⟨nt, np, hR, hG, hc7, hS, hz, hct, hk6⟩ := hJ.cl
  obtain ⟨v, M1, w, M2, h1, h2, h3, -⟩ := a_worn (X := X) (a1 := b1) hJ
  refine ⟨v, M1, w, M2, h1, h2, ⟨h3, JF.both hJ hF h1 h2 (ck_q (t46 hJ.1.1)) (fC46 hR hG hc7 hS hz hct hk6) (by decide +kernel) rfl (fun N i k => ?_)⟩, trivial⟩
  obtain ⟨k1, k2, k3, k4⟩ := hJ.rf k
  rw [← k 67 (by decide)]
  exact qR_kq (e179 i.1 ((congrFun k1 1).trans hG.1) hG.2.2.1.1 ((congrFun k1 2).trans hG.2.1) hG.2.2.1.2.1 k2)
theorem s_kindFor {b1 b2 : Int32} (hJ : JQ M) : JJQ X 48 182 [.ref 0, .int b1, .int b2] [.ref 66, .int b1, .int b2] M (fun _ _ => True) := by
  obtain ⟨hJ, hF⟩ := hJ
  obtain ⟨nt, np, hR, hG, hc7, hS, hz, hct, hk6⟩ := hJ.cl
  obtain ⟨v, M1, w, M2, h1, h2, h3, -⟩ := a_kindFor (X := X) (a1 := b1) (a2 := b2) hJ
  refine ⟨v, M1, w, M2, h1, h2, ⟨h3, JF.both hJ hF h1 h2 (ck_q (t48 hJ.1.1)) (fC48 hR hG hc7 hS hz hct hk6) (by decide +kernel) rfl (fun N i k => ?_)⟩, trivial⟩
  obtain ⟨k1, k2, k3, k4⟩ := hJ.rf k
  rw [← k 67 (by decide)]
  exact qR_kq (e182 i.1 ((congrFun k1 1).trans hG.1) hG.2.2.1.1 ((congrFun k1 2).trans hG.2.1) hG.2.2.1.2.1 k2)
theorem s_walkFor {b1 b2 : Int32} (hJ : JQ M) : JJQ X 50 184 [.ref 0, .int b1, .int b2] [.ref 66, .int b1, .int b2] M (fun _ _ => True) := by
  obtain ⟨hJ, hF⟩ := hJ
  obtain ⟨nt, np, hR, hG, hc7, hS, hz, hct, hk6⟩ := hJ.cl
  obtain ⟨v, M1, w, M2, h1, h2, h3, -⟩ := a_walkFor (X := X) (a1 := b1) (a2 := b2) hJ
  refine ⟨v, M1, w, M2, h1, h2, ⟨h3, JF.both hJ hF h1 h2 (ck_q (t50 hJ.1.1)) (fC50 hR hG hc7 hS hz hct hk6) (by decide +kernel) rfl (fun N i k => ?_)⟩, trivial⟩
  obtain ⟨k1, k2, k3, k4⟩ := hJ.rf k
  rw [← k 67 (by decide)]
  exact qR_kq (e184 i.1 ((congrFun k1 1).trans hG.1) hG.2.2.1.1 ((congrFun k1 2).trans hG.2.1) hG.2.2.1.2.1 k2)
theorem s_placeFor {b1 b2 : Int32} (hJ : JQ M) : JJQ X 51 185 [.ref 0, .int b1, .int b2] [.ref 66, .int b1, .int b2] M (fun _ _ => True) := by
  obtain ⟨hJ, hF⟩ := hJ
  obtain ⟨nt, np, hR, hG, hc7, hS, hz, hct, hk6⟩ := hJ.cl
  obtain ⟨v, M1, w, M2, h1, h2, h3, -⟩ := a_placeFor (X := X) (a1 := b1) (a2 := b2) hJ
  refine ⟨v, M1, w, M2, h1, h2, ⟨h3, JF.both hJ hF h1 h2 (ck_q (t51 hJ.1.1)) (fC51 hR hG hc7 hS hz hct hk6) (by decide +kernel) rfl (fun N i k => ?_)⟩, trivial⟩
  obtain ⟨k1, k2, k3, k4⟩ := hJ.rf k
  rw [← k 67 (by decide)]
  exact qR_kq (e185 i.1 ((congrFun k1 1).trans hG.1) hG.2.2.1.1 ((congrFun k1 2).trans hG.2.1) hG.2.2.1.2.1 k2)
theorem s_ownerFor {b1 b2 : Int32} (hJ : JQ M) : JJQ X 53 187 [.ref 0, .int b1, .int b2] [.ref 66, .int b1, .int b2] M (fun _ _ => True) := by
  obtain ⟨hJ, hF⟩ := hJ
  obtain ⟨nt, np, hR, hG, hc7, hS, hz, hct, hk6⟩ := hJ.cl
  obtain ⟨v, M1, w, M2, h1, h2, h3, -⟩ := a_ownerFor (X := X) (a1 := b1) (a2 := b2) hJ
  refine ⟨v, M1, w, M2, h1, h2, ⟨h3, JF.both hJ hF h1 h2 (ck_q (t53 hJ.1.1)) (fC53 hR hG hc7 hS hz hct hk6) (by decide +kernel) rfl (fun N i k => ?_)⟩, trivial⟩
  obtain ⟨k1, k2, k3, k4⟩ := hJ.rf k
  rw [← k 67 (by decide)]
  exact qR_kq (e187 i.1 ((congrFun k1 1).trans hG.1) hG.2.2.1.1 ((congrFun k1 2).trans hG.2.1) hG.2.2.1.2.1 k2)
theorem s_worst {b1 : Int32} (hJ : JQ M) : JJQ X 54 188 [.ref 0, .int b1] [.ref 66, .int b1] M (fun _ _ => True) := by
  obtain ⟨hJ, hF⟩ := hJ
  obtain ⟨nt, np, hR, hG, hc7, hS, hz, hct, hk6⟩ := hJ.cl
  obtain ⟨v, M1, w, M2, h1, h2, h3, -⟩ := a_worst (X := X) (a1 := b1) hJ
  refine ⟨v, M1, w, M2, h1, h2, ⟨h3, JF.both hJ hF h1 h2 (ck_q (t54 hJ.1.1)) (fC54 hR hG hc7 hS hz hct hk6) (by decide +kernel) rfl (fun N i k => ?_)⟩, trivial⟩
  obtain ⟨k1, k2, k3, k4⟩ := hJ.rf k
  rw [← k 67 (by decide)]
  exact qR_kq (e188 i.1 ((congrFun k1 1).trans hG.1) hG.2.2.1.1 ((congrFun k1 2).trans hG.2.1) hG.2.2.1.2.1 k2)
theorem s_paint {b1 b2 : Int32} (hJ : JQ M) : JJQ X 55 189 [.ref 0, .int b1, .int b2] [.ref 66, .int b1, .int b2] M (fun _ _ => True) := by
  obtain ⟨hJ, hF⟩ := hJ
  obtain ⟨nt, np, hR, hG, hc7, hS, hz, hct, hk6⟩ := hJ.cl
  obtain ⟨v, M1, w, M2, h1, h2, h3, -⟩ := a_paint (X := X) (a1 := b1) (a2 := b2) hJ
  refine ⟨v, M1, w, M2, h1, h2, ⟨h3, JF.both hJ hF h1 h2 (ck_q (t55 hJ.1.1)) (fC55 hR hG hc7 hS hz hct hk6) (by decide +kernel) rfl (fun N i k => ?_)⟩, trivial⟩
  obtain ⟨k1, k2, k3, k4⟩ := hJ.rf k
  rw [← k 67 (by decide)]
  exact qR_kq (e189 i.1 ((congrFun k1 1).trans hG.1) hG.2.2.1.1 ((congrFun k1 2).trans hG.2.1) hG.2.2.1.2.1 k2)
theorem s_lasts {b1 : Int32} (hJ : JQ M) : JJQ X 44 176 [.ref 0, .int b1] [.ref 66, .int b1] M (fun _ _ => True) := by
  obtain ⟨hJ, hF⟩ := hJ
  obtain ⟨nt, np, hR, hG, hc7, hS, hz, hct, hk6⟩ := hJ.cl
  obtain ⟨v, M1, w, M2, h1, h2, h3, -⟩ := a_lasts (X := X) (a1 := b1) hJ
  refine ⟨v, M1, w, M2, h1, h2, ⟨h3, JF.both hJ hF h1 h2 (ck_q (t44 hJ.1.1)) (qC_of (lv44 hR hG hc7)) (by decide +kernel) rfl (fun N i k => ?_)⟩, trivial⟩
  obtain ⟨k1, k2, k3, k4⟩ := hJ.rf k
  rw [← k 67 (by decide)]
  exact qR_kq (e176 i.1 ((congrFun k1 1).trans hG.1) hG.2.2.1.1 ((congrFun k1 2).trans hG.2.1) hG.2.2.1.2.1 k2)
theorem s_sees {b1 b2 : Int32} (hJ : JQ M) : JJQ X 47 181 [.ref 0, .int b1, .int b2] [.ref 66, .int b1, .int b2] M (fun _ _ => True) := by
  obtain ⟨hJ, hF⟩ := hJ
  obtain ⟨nt, np, hR, hG, hc7, hS, hz, hct, hk6⟩ := hJ.cl
  obtain ⟨v, M1, w, M2, h1, h2, h3, -⟩ := a_sees (X := X) (a1 := b1) (a2 := b2) hJ
  refine ⟨v, M1, w, M2, h1, h2, ⟨h3, JF.both hJ hF h1 h2 (ck_q (t47 hJ.1.1)) (qC_of (lv47 hR hG hc7)) (by decide +kernel) rfl (fun N i k => ?_)⟩, trivial⟩
  obtain ⟨k1, k2, k3, k4⟩ := hJ.rf k
  rw [← k 67 (by decide)]
  exact qR_kq (e181 i.1 ((congrFun k1 1).trans hG.1) hG.2.2.1.1 ((congrFun k1 2).trans hG.2.1) hG.2.2.1.2.1 k2)
theorem s_needs {b1 b2 : Int32} (hJ : JQ M) : JJQ X 59 192 [.ref 0, .int b1, .int b2] [.ref 66, .int b1, .int b2] M (fun _ _ => True) := by
  obtain ⟨hJ, hF⟩ := hJ
  obtain ⟨nt, np, hR, hG, hc7, hS, hz, hct, hk6⟩ := hJ.cl
  obtain ⟨v, M1, w, M2, h1, h2, h3, -⟩ := a_needs (X := X) (a1 := b1) (a2 := b2) hJ
  refine ⟨v, M1, w, M2, h1, h2, ⟨h3, JF.both hJ hF h1 h2 (ck_q (t59 hJ.1.1)) (qC_of (lv59 hR hG hc7)) (by decide +kernel) rfl (fun N i k => ?_)⟩, trivial⟩
  obtain ⟨k1, k2, k3, k4⟩ := hJ.rf k
  rw [← k 67 (by decide)]
  exact qR_kq (e192 i.1 ((congrFun k1 1).trans hG.1) hG.2.2.1.1 ((congrFun k1 2).trans hG.2.1) hG.2.2.1.2.1 k2)
theorem s_fits {b1 b2 b3 : Int32} (hJ : JQ M) : JJQ X 75 208 [.ref 0, .int b1, .int b2, .int b3] [.ref 66, .int b1, .int b2, .int b3] M (fun _ _ => True) := by
  obtain ⟨hJ, hF⟩ := hJ
  obtain ⟨nt, np, hR, hG, hc7, hS, hz, hct, hk6⟩ := hJ.cl
  obtain ⟨v, M1, w, M2, h1, h2, h3, -⟩ := a_fits (X := X) (a1 := b1) (a2 := b2) (a3 := b3) hJ
  refine ⟨v, M1, w, M2, h1, h2, ⟨h3, JF.both hJ hF h1 h2 (ck_q (t75 hJ.1.1)) (fC75 hR hG hc7 hS hz hct hk6) (by decide +kernel) rfl (fun N i k => ?_)⟩, trivial⟩
  obtain ⟨k1, k2, k3, k4⟩ := hJ.rf k
  rw [← k 67 (by decide), ← k 76 (by decide), ← k 77 (by decide), ← k 78 (by decide), lk_eq]
  exact qR_kq (e208 i.1 ((congrFun k1 1).trans hG.1) hG.2.2.1.1 ((congrFun k1 2).trans hG.2.1) hG.2.2.1.2.1 (by rw [k1]; exact hG.2.2.1) k2)
theorem s_likes {b1 b2 b3 : Int32} (hJ : JQ M) : JJQ X 81 213 [.ref 0, .int b1, .int b2, .int b3] [.ref 66, .int b1, .int b2, .int b3] M (fun _ _ => True) := by
  obtain ⟨hJ, hF⟩ := hJ
  obtain ⟨nt, np, hR, hG, hc7, hS, hz, hct, hk6⟩ := hJ.cl
  obtain ⟨v, M1, w, M2, h1, h2, h3, -⟩ := a_likes (X := X) (a1 := b1) (a2 := b2) (a3 := b3) hJ
  refine ⟨v, M1, w, M2, h1, h2, ⟨h3, JF.both hJ hF h1 h2 (ck_q (t81 hJ.1.1)) (qC_of (lv81 hR hG hc7 hS hz)) (by decide +kernel) rfl (fun N i k => ?_)⟩, trivial⟩
  obtain ⟨k1, k2, k3, k4⟩ := hJ.rf k
  rw [← k 67 (by decide), ← k 76 (by decide), ← k 77 (by decide), ← k 78 (by decide), lk_eq]
  exact qR_kq (e213 i.1 ((congrFun k1 1).trans hG.1) hG.2.2.1.1 ((congrFun k1 2).trans hG.2.1) hG.2.2.1.2.1 (by rw [k1]; exact hG.2.2.1) k2)
theorem s_deal {b1 b2 b3 : Int32} (hJ : JQ M) : JJQ X 68 201 [.ref 0, .int b1, .int b2, .int b3] [.ref 66, .int b1, .int b2, .int b3] M (fun _ _ => True) := by
  obtain ⟨hJ, hF⟩ := hJ
  obtain ⟨nt, np, hR, hG, hc7, hS, hz, hct, hk6⟩ := hJ.cl
  obtain ⟨v, M1, w, M2, h1, h2, h3, -⟩ := a_deal (X := X) (a1 := b1) (a2 := b2) (a3 := b3) hJ
  refine ⟨v, M1, w, M2, h1, h2, ⟨h3, JF.both hJ hF h1 h2 (ck_q (t68 hJ.1.1)) (qC_of (lv68 hR hG hc7)) (by decide +kernel) rfl (fun N i k => ?_)⟩, trivial⟩
  obtain ⟨k1, k2, k3, k4⟩ := hJ.rf k
  exact qR_of (lr201 i k1 hG k2)
theorem s_keystone (hJ : JQ M) : JJQ X 63 196 [.ref 0] [.ref 66] M (fun _ _ => True) := by
  obtain ⟨hJ, hF⟩ := hJ
  obtain ⟨nt, np, hR, hG, hc7, hS, hz, hct, hk6⟩ := hJ.cl
  obtain ⟨v, M1, w, M2, h1, h2, h3, -⟩ := a_keystone (X := X) hJ
  refine ⟨v, M1, w, M2, h1, h2, ⟨h3, JF.both hJ hF h1 h2 (ck_q (t63 hJ.1.1)) (fC63 hR hG hc7 hS hz hct hk6) (by decide +kernel) rfl (fun N i k => ?_)⟩, trivial⟩
  obtain ⟨k1, k2, k3, k4⟩ := hJ.rf k
  exact qR_of (lr196 i k1 hG k2)
theorem s_odds {b1 b2 : Int32} (hJ : JQ M) : JLQ X 84 216 [.ref 0, .int b1, .int b2] [.ref 66, .int b1, .int b2] M (fun _ _ => True) := by
  obtain ⟨hJ, hF⟩ := hJ
  obtain ⟨nt, np, hR, hG, hc7, hS, hz, hct, hk6⟩ := hJ.cl
  obtain ⟨v, M1, w, M2, h1, h2, h3, -⟩ := a_odds (X := X) (a1 := b1) (a2 := b2) hJ
  refine ⟨v, M1, w, M2, h1, h2, ⟨h3, JF.both hJ hF h1 h2 (ck_l (t84 hJ.1.1)) (fC84 hR hG hc7 hS hz hct hk6) (by decide +kernel) rfl (fun N i k => ?_)⟩, trivial⟩
  obtain ⟨k1, k2, k3, k4⟩ := hJ.rf k
  exact fR216 i k1 hG k2 (fun s _ => i.1.size s) k3 k4
theorem JF.st {a1 : Int32} (h : JF M) : fStC (M 55) a1 = fStR (M 70) a1 := by
  unfold fStC fStR
  by_cases hb : bI ((-1 : Int32) ≤ a1 ∧ a1 ≤ nI 6) = 0
  · rw [if_pos hb, if_pos hb]
  · rw [if_neg hb, if_neg hb]
    by_cases hn : a1 < 0
    · rw [if_pos hn, stq_m (bI_ne0 hb) hn]
      exact h.2.symm
    · obtain ⟨k, hk, rfl⟩ := stq_k (bI_ne0 hb) hn
      rw [if_neg hn, jI_add, jI_nat (by omega), jI_nat (by omega)]
      exact h.1 k (by omega)
theorem s_status {b1 : Int32} (hJ : JQ M) : JJQ X 130 244 [.ref 0, .int b1] [.ref 66, .int b1] M Eq := by
  obtain ⟨hJ, hF⟩ := hJ
  obtain ⟨v, M1, w, M2, h1, h2, h3, -⟩ := a_status (X := X) (a1 := b1) hJ
  obtain ⟨o, N, k1, k2⟩ := ck_q (t130 (X := X) (a1 := b1) hJ.1.1)
  obtain ⟨v2, N2, g1, g2, g3⟩ := lv130 (X := X) (M := M) (a1 := b1)
  obtain ⟨w2, N3, r1, r2, r3⟩ := lr244 (X := X) (M := N) (a1 := b1)
  have e1 := (h1.det g1).1
  have e2 := (h1.det k1).2
  have h4 := h2
  rw [e2] at h4
  have e3 := (h4.det r1).1
  refine ⟨v, M1, w, M2, h1, h2, ⟨h3, JF.both hJ hF h1 h2 ⟨o, N, k1, k2⟩ (qC_of ⟨v2, N2, g1, g3⟩) (by decide +kernel) rfl (fun N9 _ _ => ?_)⟩, ?_⟩
  · obtain ⟨w9, M9, s1, -, s3⟩ := lr244 (X := X) (M := N9) (a1 := b1)
    exact qR_of ⟨w9, M9, s1, s3⟩
  · have f1 : v = v2 := by injection (Option.some.inj e1)
    have f2 : w = w2 := by injection (Option.some.inj e3)
    rw [f1, f2, g2, r2, k2.2 70 (by decide)]
    exact hF.st
theorem jq_start : JQ (cnm M0) := by
  refine ⟨j_start, fun i hi => (M0_0 (a := 55) (b := i) rfl).trans (M0_0 (a := 70) (b := i + 1) rfl).symm, ?_⟩
  have e : cnm M0 55 = fun _ => 0 := funext fun i => M0_0 (a := 55) (b := i) rfl
  rw [e, M0_0 (a := 70) (b := 0) rfl]
  decide
end TJ
