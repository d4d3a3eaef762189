/-! ===== what only asks: both sides together; the start ===== -/
section AK
variable {X : mSc} {M : mM}
theorem rq_of {m : Nat} {as : List Value} (h : ∃ v M', mT X m as (con M) (some (.int v)) (con M') ∧ Iq M M') : ∃ v M', mT X m as (con M) (some (.int v)) (con M') ∧ Rq M M' := by
  obtain ⟨v, M1, h1, h2⟩ := h
  exact ⟨v, M1, h1, h2.rq⟩
theorem Kq.rq {M' : mM} (hI : Inv M) (h : Kq M M') : Rq M M' := ⟨⟨h.1 hI.1, by rw [h.2.1 67 (by decide) (by decide) (by decide) (by decide) (by decide)]; exact hI.2.1, by rw [h.2.1 68 (by decide) (by decide) (by decide) (by decide) (by decide)]; exact hI.2.2⟩, h.2⟩
theorem J.kq {m : Nat} {as : List Value} {F : Nat → Nat → Int32 × Bool} (hJ : J M) (h : ∀ nt np, Gd nt np (M 67) → ∃ v M', mT X m as (con M) (some (.int v)) (con M') ∧ v = (F nt np).1 ∧ Kq M M' ∧ Fq (F nt np) M M') : ∃ v M', mT X m as (con M) (some (.int v)) (con M') ∧ Rq M M' := by
  obtain ⟨nt, np, hR, h1, h2, hV, hr, -⟩ := hJ.2.2.1
  obtain ⟨v, M1, g1, -, g2, -⟩ := h nt np ⟨h1, h2, hV, hr⟩
  exact ⟨v, M1, g1, g2.rq hJ.1⟩
/-- an ask that answers a long -/
def JL (X : mSc) (cmd rmd : Nat) (as bs : List Value) (M : mM) (P : Int64 → Int64 → Prop) : Prop := ∃ v M1 w M2, mT X cmd as (con M) (some (.long v)) (con M1) ∧ mT X rmd bs (con M1) (some (.long w)) (con M2) ∧ J M2 ∧ P v w
theorem a_thingOf {a1 a2 : Int32} (hJ : J M) : JJ X 9 138 [.ref 0, .int a1, .int a2] [.ref 66, .int a1, .int a2] M (fun _ _ => True) := hJ.ask (t9 hJ.1.1) (fun M1 j => rq_of (t138 j.1))
theorem a_of {a1 a2 : Int32} (hJ : J M) : JJ X 24 159 [.ref 0, .int a1, .int a2] [.ref 66, .int a1, .int a2] M (fun _ _ => True) := hJ.ask (t24 hJ.1.1) (fun M1 j => rq_of (t159 j.1))
theorem a_envy {a1 a2 : Int32} (hJ : J M) : JJ X 28 162 [.ref 0, .int a1, .int a2] [.ref 66, .int a1, .int a2] M (fun _ _ => True) := hJ.ask (t28 hJ.1.1) (fun M1 j => rq_of (t162 j.1))
theorem a_now {a1 : Int32} (hJ : J M) : JJ X 37 169 [.ref 0, .int a1] [.ref 66, .int a1] M (fun _ _ => True) := hJ.ask (t37 hJ.1.1) (fun M1 j => rq_of (t169 j.1))
theorem a_ahead {a1 a2 : Int32} (hJ : J M) : JJ X 41 172 [.ref 0, .int a1, .int a2] [.ref 66, .int a1, .int a2] M (fun _ _ => True) := hJ.ask (t41 hJ.1.1) (fun M1 j => j.kq fun nt np g => e172 j.1.1 g.1 g.2.2.1.1 g.2.1 g.2.2.1.2.1 j.2.2.2.2.2.2)
theorem a_lasts {a1 : Int32} (hJ : J M) : JJ X 44 176 [.ref 0, .int a1] [.ref 66, .int a1] M (fun _ _ => True) := hJ.ask (t44 hJ.1.1) (fun M1 j => j.kq fun nt np g => e176 j.1.1 g.1 g.2.2.1.1 g.2.1 g.2.2.1.2.1 j.2.2.2.2.2.2)
theorem a_gone {a1 : Int32} (hJ : J M) : JJ X 45 178 [.ref 0, .int a1] [.ref 66, .int a1] M (fun _ _ => True) := hJ.ask (t45 hJ.1.1) (fun M1 j => j.kq fun nt np g => e178 j.1.1 g.1 g.2.2.1.1 g.2.1 g.2.2.1.2.1 j.2.2.2.2.2.2)
theorem a_worn {a1 : Int32} (hJ : J M) : JJ X 46 179 [.ref 0, .int a1] [.ref 66, .int a1] M (fun _ _ => True) := hJ.ask (t46 hJ.1.1) (fun M1 j => j.kq fun nt np g => e179 j.1.1 g.1 g.2.2.1.1 g.2.1 g.2.2.1.2.1 j.2.2.2.2.2.2)
theorem a_sees {a1 a2 : Int32} (hJ : J M) : JJ X 47 181 [.ref 0, .int a1, .int a2] [.ref 66, .int a1, .int a2] M (fun _ _ => True) := hJ.ask (t47 hJ.1.1) (fun M1 j => j.kq fun nt np g => e181 j.1.1 g.1 g.2.2.1.1 g.2.1 g.2.2.1.2.1 j.2.2.2.2.2.2)
theorem a_kindFor {a1 a2 : Int32} (hJ : J M) : JJ X 48 182 [.ref 0, .int a1, .int a2] [.ref 66, .int a1, .int a2] M (fun _ _ => True) := hJ.ask (t48 hJ.1.1) (fun M1 j => j.kq fun nt np g => e182 j.1.1 g.1 g.2.2.1.1 g.2.1 g.2.2.1.2.1 j.2.2.2.2.2.2)
theorem a_walkFor {a1 a2 : Int32} (hJ : J M) : JJ X 50 184 [.ref 0, .int a1, .int a2] [.ref 66, .int a1, .int a2] M (fun _ _ => True) := hJ.ask (t50 hJ.1.1) (fun M1 j => j.kq fun nt np g => e184 j.1.1 g.1 g.2.2.1.1 g.2.1 g.2.2.1.2.1 j.2.2.2.2.2.2)
theorem a_placeFor {a1 a2 : Int32} (hJ : J M) : JJ X 51 185 [.ref 0, .int a1, .int a2] [.ref 66, .int a1, .int a2] M (fun _ _ => True) := hJ.ask (t51 hJ.1.1) (fun M1 j => j.kq fun nt np g => e185 j.1.1 g.1 g.2.2.1.1 g.2.1 g.2.2.1.2.1 j.2.2.2.2.2.2)
theorem a_ownerFor {a1 a2 : Int32} (hJ : J M) : JJ X 53 187 [.ref 0, .int a1, .int a2] [.ref 66, .int a1, .int a2] M (fun _ _ => True) := hJ.ask (t53 hJ.1.1) (fun M1 j => j.kq fun nt np g => e187 j.1.1 g.1 g.2.2.1.1 g.2.1 g.2.2.1.2.1 j.2.2.2.2.2.2)
theorem a_worst {a1 : Int32} (hJ : J M) : JJ X 54 188 [.ref 0, .int a1] [.ref 66, .int a1] M (fun _ _ => True) := hJ.ask (t54 hJ.1.1) (fun M1 j => j.kq fun nt np g => e188 j.1.1 g.1 g.2.2.1.1 g.2.1 g.2.2.1.2.1 j.2.2.2.2.2.2)
theorem a_paint {a1 a2 : Int32} (hJ : J M) : JJ X 55 189 [.ref 0, .int a1, .int a2] [.ref 66, .int a1, .int a2] M (fun _ _ => True) := hJ.ask (t55 hJ.1.1) (fun M1 j => j.kq fun nt np g => e189 j.1.1 g.1 g.2.2.1.1 g.2.1 g.2.2.1.2.1 j.2.2.2.2.2.2)
theorem a_needs {a1 a2 : Int32} (hJ : J M) : JJ X 59 192 [.ref 0, .int a1, .int a2] [.ref 66, .int a1, .int a2] M (fun _ _ => True) := hJ.ask (t59 hJ.1.1) (fun M1 j => j.kq fun nt np g => e192 j.1.1 g.1 g.2.2.1.1 g.2.1 g.2.2.1.2.1 j.2.2.2.2.2.2)
theorem a_fallsWith {a1 : Int32} (hJ : J M) : JJ X 60 193 [.ref 0, .int a1] [.ref 66, .int a1] M (fun _ _ => True) := hJ.ask (t60 hJ.1.1) (fun M1 j => rq_of (t193 j.1))
theorem a_depth {a1 : Int32} (hJ : J M) : JJ X 61 195 [.ref 0, .int a1] [.ref 66, .int a1] M (fun _ _ => True) := hJ.ask (t61 hJ.1.1) (fun M1 j => rq_of (t195 j.1))
theorem a_keystone (hJ : J M) : JJ X 63 196 [.ref 0] [.ref 66] M (fun _ _ => True) := hJ.ask (t63 hJ.1.1) (fun M1 j => rq_of (t196 j.1))
theorem a_fells (hJ : J M) : JJ X 64 197 [.ref 0] [.ref 66] M (fun _ _ => True) := hJ.ask (t64 hJ.1.1) (fun M1 j => by
  obtain ⟨v, h, -⟩ := t197 (X := X) j.1.1
  exact ⟨v, M1, h, (Iq.rf j.1).rq⟩)
theorem a_worth {a1 a2 : Int32} (hJ : J M) : JJ X 65 198 [.ref 0, .int a1, .int a2] [.ref 66, .int a1, .int a2] M (fun _ _ => True) := hJ.ask (t65 hJ.1.1) (fun M1 j => rq_of (t198 j.1))
theorem a_deal {a1 a2 a3 : Int32} (hJ : J M) : JJ X 68 201 [.ref 0, .int a1, .int a2, .int a3] [.ref 66, .int a1, .int a2, .int a3] M (fun _ _ => True) := hJ.ask (t68 hJ.1.1) (fun M1 j => rq_of (t201 j.1))
theorem a_deals {a1 a2 a3 : Int32} (hJ : J M) : JJ X 72 204 [.ref 0, .int a1, .int a2, .int a3] [.ref 66, .int a1, .int a2, .int a3] M (fun _ _ => True) := hJ.ask (t72 hJ.1.1) (fun M1 j => rq_of (t204 j.1))
theorem a_lesser {a1 a2 a3 : Int32} (hJ : J M) : JJ X 73 206 [.ref 0, .int a1, .int a2, .int a3] [.ref 66, .int a1, .int a2, .int a3] M (fun _ _ => True) := hJ.ask (t73 hJ.1.1) (fun M1 j => rq_of (t206 j.1))
theorem a_envious (hJ : J M) : JJ X 74 207 [.ref 0] [.ref 66] M (fun _ _ => True) := hJ.ask (t74 hJ.1.1) (fun M1 j => rq_of (t207 j.1))
theorem a_fits {a1 a2 a3 : Int32} (hJ : J M) : JJ X 75 208 [.ref 0, .int a1, .int a2, .int a3] [.ref 66, .int a1, .int a2, .int a3] M (fun _ _ => True) := hJ.ask (t75 hJ.1.1) (fun M1 j => j.kq fun nt np g => e208 j.1.1 g.1 g.2.2.1.1 g.2.1 g.2.2.1.2.1 g.2.2.1 j.2.2.2.2.2.2)
theorem a_likes {a1 a2 a3 : Int32} (hJ : J M) : JJ X 81 213 [.ref 0, .int a1, .int a2, .int a3] [.ref 66, .int a1, .int a2, .int a3] M (fun _ _ => True) := hJ.ask (t81 hJ.1.1) (fun M1 j => j.kq fun nt np g => e213 j.1.1 g.1 g.2.2.1.1 g.2.1 g.2.2.1.2.1 g.2.2.1 j.2.2.2.2.2.2)
theorem a_odds {a1 a2 : Int32} (hJ : J M) : JL X 84 216 [.ref 0, .int a1, .int a2] [.ref 66, .int a1, .int a2] M (fun _ _ => True) := by
  obtain ⟨v, M1, a1, a2⟩ := t84 (X := X) hJ.1.1
  have j1 := hJ.qc cn_cn (a2.cn hJ.2.1)
  obtain ⟨w, M2, b1, b2⟩ := t216 (X := X) j1.1
  exact ⟨v, cnm M1, w, cnm M2, by rw [con_cn]; exact a1, by rw [con_cn (M := M2)]; exact b1, j1.qr cn_cn (b2.rq.cn j1.2.1), trivial⟩
theorem a_as {a1 a2 : Int32} (hJ : J M) : JJ X 115 233 [.ref 0, .int a1, .int a2] [.ref 66, .int a1, .int a2] M (fun _ _ => True) := hJ.ask (t115 hJ.1.1) (fun M1 j => rq_of (t233 j.1))
theorem a_judge {a1 : Int32} (hJ : J M) : JJ X 123 239 [.ref 0, .int a1] [.ref 66, .int a1] M (fun _ _ => True) := hJ.ask (t123 hJ.1.1) (fun M1 j => rq_of (t239 j.1))
theorem a_count {a1 : Int32} (hJ : J M) : JJ X 128 243 [.ref 0, .int a1] [.ref 66, .int a1] M (fun _ _ => True) := hJ.ask (t128 hJ.1.1) (fun M1 j => rq_of (t243 j.1))
theorem a_status {a1 : Int32} (hJ : J M) : JJ X 130 244 [.ref 0, .int a1] [.ref 66, .int a1] M (fun _ _ => True) := hJ.ask (t130 hJ.1.1) (fun M1 j => rq_of (t244 j.1))
theorem M0_0 {a b : Nat} (h : M0 a b = 0) : cnm M0 a b = 0 := (cnc_or a (M0 a) b).elim (fun e => e.trans h) id
theorem M0_sp : ∀ s, s < 10 → M0 (1 + 16) s = M0 67 (4 + s) := by decide +kernel
theorem M0_s1 : ∀ s, s < 10 → M0 67 (4 + s) = -1 := by decide +kernel
theorem j_start : J (cnm M0) := by
  have e67 : cnm M0 67 = M0 67 := rfl
  have nz : ∀ {k : Nat} {P : Prop}, k < 0 → P := fun h => absurd h (Nat.not_lt_zero _)
  have hR : Rel 1 0 0 M0 (M0 67) := ⟨rfl, rfl, rfl, rfl, M0_sp, fun f t _ ht => nz ht, fun f p _ hp => nz hp⟩
  refine ⟨M0_inv.cn, cn_cn, ⟨0, 0, by rw [e67]; exact hR.cn (Or.inl rfl), by rw [e67]; rfl, by rw [e67]; rfl, ⟨Nat.zero_le _, Nat.zero_le _, fun t ht => nz ht, fun p hp => nz hp⟩, ⟨⟨0, by decide, by rw [e67]; rfl⟩, fun s hs => by rw [e67]; exact Or.inl (M0_s1 s hs), fun t ht => nz ht, fun p hp => nz hp⟩, rfl⟩, Or.inl ⟨rfl, rfl⟩, ⟨rfl, fun k hk => ?_⟩, fun s hs => ?_, rfl⟩
  · rw [M0_0 (a := 73) (b := k) rfl, M0_0 (a := 53) (b := k) rfl]
    exact ⟨by decide, by decide⟩
  · have h : s = 0 ∨ s = 1 ∨ s = 2 ∨ s = 3 := by omega
    rcases h with rfl | rfl | rfl | rfl
    · exact ⟨rfl, rfl, Or.inl rfl, fun j hj => (M0_0 (a := 59) (b := j) rfl).trans (M0_0 (a := 78) (b := 40 * 0 + j) rfl).symm⟩
    · exact ⟨rfl, rfl, Or.inl rfl, fun j hj => (M0_0 (a := 61) (b := j) rfl).trans (M0_0 (a := 78) (b := 40 * 1 + j) rfl).symm⟩
    · exact ⟨rfl, rfl, Or.inl rfl, fun j hj => (M0_0 (a := 63) (b := j) rfl).trans (M0_0 (a := 78) (b := 40 * 2 + j) rfl).symm⟩
    · exact ⟨rfl, rfl, Or.inl rfl, fun j hj => (M0_0 (a := 65) (b := j) rfl).trans (M0_0 (a := 78) (b := 40 * 3 + j) rfl).symm⟩
theorem j_tape {a1 a2 : Int32} (hJ : J M) : JJ X 87 218 [.ref 0, .int a1, .int a2] [.ref 66, .int a1, .int a2] M Eq := j_feed hJ
end AK
