section
variable {M F G B w f : Nat} {σ τ : St} {x d : Int32}
/-- AND r, -16: the register is masked -/
theorem c_and (H : MC M F G B) (hf : f ≠ M ∧ f ≠ F ∧ f ≠ G ∧ f ≠ B) (V : Vr M F G B w σ τ) {j : Nat} (hj : j < 8) (I : Inst σ f 4 5 (nI j) x d (-16)) {σ' : St} (h : Machine_perform_B30 M f 0 σ = some (-1, σ')) : σ' G j = (σ G j) &&& (-16) := by
  have hop : opR 4 := by decide
  have cR : inR (nI j) := ⟨nI_pos (by omega), lf_lt 8 8 j rfl hj (by decide)⟩
  have er : rgv σ G (nI j) = σ G j := by unfold rgv; rw [if_pos cR, nI_clamp (by omega)]
  obtain ⟨v, σ1, τ1, e1, e2, V1, C1, R1, g1, g2, g3, g4⟩ := v_rec H V (l := σ G j) (r := -16) (r' := -16) hop (fun _ => rfl)
  have ev : v = (σ G j) &&& (-16) := by
    have e : Flags_reckon F 4 (σ G j) (-16) σ = Flags_reckon F 4 (σ G j) (-16) (mkF σ F (σ F 0) (σ F 1) (σ F 2) (σ F 3)) := by rw [← mkF_self σ F]
    rw [e, fc_rec hop] at e1
    have := Option.some.inj e1
    have q : (fw 4 (σ G j) (-16) (σ F 0) (σ F 1) (σ F 2) (σ F 3)).1 = v := congrArg Prod.fst this
    rw [← q]
    simp [fw, flg]
  have I1 : Inst σ1 f 4 5 (nI j) x d (-16) := inst_c I (C1.1 f hf.1 hf.2.1 hf.2.2.1 hf.2.2.2)
  obtain ⟨σ2, τ2, e3, e4, _, _, _, k1, _⟩ := v_give H V1 hj v
  have n4 : ¬ chW 5 := by decide
  unfold Machine_perform_B30 at h
  rw [c_lacks H I, if_neg (by
    rintro (⟨k, _⟩ | ⟨k, _⟩ | ⟨_, _, k, _⟩)
    · exact absurd k (by decide)
    · exact absurd k (by decide)
    · exact absurd k (by decide)), cl_of, if_pos rfl, nm_of, I.1] at h
  simp only [show ¬ (4 : Int32) = 7 by decide, show ¬ (4 : Int32) = 8 by decide, show ¬ (4 : Int32) = 9 by decide, show ¬ (4 : Int32) = 10 by decide, show ¬ (4 : Int32) = 11 by decide, show ¬ (4 : Int32) = 12 by decide, show ¬ (4 : Int32) = 13 by decide, show ¬ (4 : Int32) = 14 by decide, show ¬ (4 : Int32) = 15 by decide, show ¬ (4 : Int32) = 16 by decide, show ¬ (4 : Int32) = 17 by decide, show ¬ (4 : Int32) = 18 by decide, show ¬ (4 : Int32) = 19 by decide, show ¬ (4 : Int32) = 20 by decide, show ¬ (4 : Int32) = 21 by decide, if_false] at h
  unfold Machine_perform_B223 at h
  rw [show (0 : Int32) = nI 0 from rfl, c_left H I (by omega), cl_of, c_right H I (by omega), cl_of, I.1, H.1, lfv_r n4, er, rtv_e (by decide) (by decide) (by decide), e1, cl_of] at h
  unfold Machine_giveLeft at h
  rw [c_chW I1, if_neg n4, cl_of, if_pos rfl, I1.2.2.1, e3, cv_of, cv_of] at h
  have := Option.some.inj h
  have q : σ2 = σ' := congrArg Prod.snd this
  rw [← q, k1, upd_s, ev]
end
section
variable {n : Nat} {σ τ : St}
/-- the place behind an INSTRUCTION is safe -/
theorem sf_next {p e : Nat} {σ2 : St} (hn : n ≤ 1024) (hC : Cod (σ 8) n (σ 9)) (hB : ∀ j, j < n → BY (σ 8 j)) (h8 : σ2 8 = σ 8) (h9 : σ2 9 = σ 9) (hp : p < n) {op fm r i : Int32} (he : e ≤ p / 16 * 16 + 16)
    (hs : e = p / 16 * 16 + 16 ∨ σ 9 e = 1 ∨ (σ 9 e = 2 ∧ ∃ op' fm' r' x' d' i' e', dc (σ 8) n e = some (op', fm', r', x', d', i', e') ∧ msk (σ 8) p op fm r i = r'))
    (hal : op = 4 → fm = 5 → i = -16 → Al (rgv σ2 54 r)) : SfA n σ2 (nI (256 + e)) := by
  have n16 := hC.2.2.1
  by_cases c : e = p / 16 * 16 + 16
  · by_cases ce : e < n
    · have m1 := hC.2.2.2.1.2 e ce (by omega)
      exact Or.inr (Or.inr (Or.inr ⟨e, ce, rfl, by rw [h9, m1]; decide, fun h => absurd h (by rw [h9, m1]; decide)⟩))
    · refine Or.inr (Or.inr (Or.inl ?_))
      rw [show nI (256 + e) - 256 = nI (256 + e - 256) from nI_sub (b := 256) (by omega) (by omega)]
      exact nI_nlt (by omega) (by omega)
  · have ce : e < n := by omega
    rcases hs with hs | hs | ⟨hs, op', fm', r', x', d', i', e', q1, q2⟩
    · exact absurd hs c
    · exact Or.inr (Or.inr (Or.inr ⟨e, ce, rfl, by rw [h9, hs]; decide, fun h => absurd h (by rw [h9, hs]; decide)⟩))
    · refine Or.inr (Or.inr (Or.inr ⟨e, ce, rfl, by rw [h9, hs]; decide, fun _ op2 fm2 r2 x2 d2 i2 e2 hd => ?_⟩))
      rw [h8, q1] at hd
      cases hd
      have hw : WF op' fm' r' x' := dc_wf hB q1
      -- the INSTRUCTION there is a GO: its R is a register, so the one before masks it
      unfold msk at q2
      by_cases cc : σ 8 p = 131 ∧ op = 4 ∧ fm = 5 ∧ i = -16
      · rw [if_pos cc] at q2
        rw [← q2]
        exact hal cc.2.1 cc.2.2.1 cc.2.2.2
      · rw [if_neg cc] at q2
        exfalso
        have hst := hC.2.2.2.1.1 e ce
        rcases hst with k | ⟨op3, fm3, r3, x3, d3, i3, e3, k1, k2, k3, k4, k5, k6⟩
        · rw [hs] at k; exact absurd k (by decide)
        · rw [q1] at k1; cases k1
          rw [hs] at k4
          by_cases cg : op' = 27 ∨ op' = 28
          · have := (hw.2.2.1 (by rw [hw.2.2.2.2.2.1 cg]; decide)).1
            rw [← q2] at this
            exact this (by decide)
          · rw [if_neg cg] at k4; exact absurd k4 (by decide)
end
