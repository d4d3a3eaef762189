section FO
variable {X : mSc} {Q : Option Value → mHp → Prop} {M : mM}
theorem m154 {t0 o : Nat} (ho : o < 8) {nt : Nat} {rk : Nat → Nat} (hW : Wf M) (h8 : nt ≤ 8) (hrk : ∀ t u, t < nt → u ≤ 7 → M 67 (14 + 6 * t + 5) = nI u → u < nt ∧ rk u < rk t) : ∀ (n : Nat) (x : Int32), (x < 0 ∨ ∃ k, k < nt ∧ x = nI k ∧ rk k + 1 < n) → 0 < n → mEv X (QE M (fun v => (x < 0 → v = nI 0) ∧ ∀ k, k < nt → x = nI k → ((Rch (M 67) o k ∧ v = nI 1) ∨ (¬ Rch (M 67) o k ∧ v = nI 0)))) 154 2 [some (.ref 66), some (.int (nI t0)), some (.int (nI o)), some (.int x)] [] (con M) := by
  have hm : mMet 154 = some _ := rfl
  intro n
  induction n with
  | zero =>
    intro x hx hn
    exact absurd hn (by omega)
  | succ n ih =>
    intro x hx hn
    refine x_iload_n hm rfl rfl ?_
    refine x_if_lt hm rfl (t := 21) rfl (fun h1 => ?_) (fun h1 => ?_)
    · have hneg := h1
      refine x_iload_n hm rfl rfl ?_
      refine x_if_lt hm rfl (t := 29) rfl (fun h2 => ?_) (fun h2 => ?_)
      · refine x_iconst hm rfl (v := nI 0) (by decide) ?_
        refine x_iret hm rfl rfl (by first | rfl | exact bI_nar | decide) ?_
        first
          | exact absurd hneg (by assumption)
          | exact absurd (by assumption) hpos
          | exact ⟨_, rfl, rfl, fun _ => rfl, (fun k hk he => by subst he; exact absurd (by assumption : nI k < 0) (jI_nn (by omega)))⟩
          | exact ⟨_, rfl, rfl, fun h => absurd h hpos, fun k hk he => Or.inl ⟨by rw [jI_inj (by omega) (by omega) (he.symm.trans heq)]; exact Rch.self, rfl⟩⟩
      · refine x_iconst hm rfl (v := nI 1) (by decide) ?_
        refine x_goto hm rfl (t := 30) rfl ?_
        refine x_iret hm rfl rfl (by first | rfl | exact bI_nar | decide) ?_
        first
          | exact absurd hneg (by assumption)
          | exact absurd (by assumption) hpos
          | exact ⟨_, rfl, rfl, fun _ => rfl, (fun k hk he => by subst he; exact absurd (by assumption : nI k < 0) (jI_nn (by omega)))⟩
          | exact ⟨_, rfl, rfl, fun h => absurd h hpos, fun k hk he => Or.inl ⟨by rw [jI_inj (by omega) (by omega) (he.symm.trans heq)]; exact Rch.self, rfl⟩⟩
    · have hpos := h1
      refine x_iload_n hm rfl rfl ?_
      refine x_iload_n hm rfl rfl ?_
      refine x_icmp_eq hm rfl (t := 21) rfl (fun h3 => ?_) (fun h3 => ?_)
      · have heq := h3
        refine x_iload_n hm rfl rfl ?_
        refine x_if_lt hm rfl (t := 29) rfl (fun h4 => ?_) (fun h4 => ?_)
        · refine x_iconst hm rfl (v := nI 0) (by decide) ?_
          refine x_iret hm rfl rfl (by first | rfl | exact bI_nar | decide) ?_
          first
            | exact absurd hneg (by assumption)
            | exact absurd (by assumption) hpos
            | exact ⟨_, rfl, rfl, fun _ => rfl, (fun k hk he => by subst he; exact absurd (by assumption : nI k < 0) (jI_nn (by omega)))⟩
            | exact ⟨_, rfl, rfl, fun h => absurd h hpos, fun k hk he => Or.inl ⟨by rw [jI_inj (by omega) (by omega) (he.symm.trans heq)]; exact Rch.self, rfl⟩⟩
        · refine x_iconst hm rfl (v := nI 1) (by decide) ?_
          refine x_goto hm rfl (t := 30) rfl ?_
          refine x_iret hm rfl rfl (by first | rfl | exact bI_nar | decide) ?_
          first
            | exact absurd hneg (by assumption)
            | exact absurd (by assumption) hpos
            | exact ⟨_, rfl, rfl, fun _ => rfl, (fun k hk he => by subst he; exact absurd (by assumption : nI k < 0) (jI_nn (by omega)))⟩
            | exact ⟨_, rfl, rfl, fun h => absurd h hpos, fun k hk he => Or.inl ⟨by rw [jI_inj (by omega) (by omega) (he.symm.trans heq)]; exact Rch.self, rfl⟩⟩
      · obtain ⟨k, hk, rfl, hm2⟩ := hx.resolve_left hpos
        have hno := h3
        refine x_aload_n hm rfl rfl ?_
        refine x_iload_n hm rfl rfl ?_
        refine x_iconst hm rfl (v := nI 5) (by decide) ?_
        refine x_callV hm rfl rfl (t143 (by omega) (by omega)) ?_
        refine x_istore_n hm rfl rfl ?_
        refine x_goto hm rfl (t := 2) rfl ?_
        have hx2 := hang_next hW h8 hrk hk hm2
        refine ev_mono (ih _ hx2 (by omega)) ?_
        rintro r D ⟨v, e1, e2, e3, e4⟩
        refine ⟨v, e1, e2, fun h => absurd h hpos, fun j hj he => ?_⟩
        obtain rfl := jI_inj (by omega) (by omega) he
        have hne : ¬ k = o := fun e => hno (by rw [e])
        rcases hx2 with g | ⟨w, hw, g, -⟩
        · exact Or.inr ⟨Rch.no hne fun w hw e _ => by rw [e] at g; exact absurd g (jI_nn (by omega)), e3 g⟩
        · rcases e4 w hw g with ⟨a, b⟩ | ⟨a, b⟩
          · exact Or.inl ⟨Rch.step (by omega) g a, b⟩
          · exact Or.inr ⟨Rch.no hne fun w2 hw2 e => by rw [jI_inj (by omega) (by omega) (e.symm.trans g)]; exact a, b⟩
end FO
