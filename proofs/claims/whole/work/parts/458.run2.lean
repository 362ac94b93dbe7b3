section
variable {n : Nat} {σ τ : St}
theorem st_any (S : RunS n σ τ) (hA : SfA n σ (σ 52 1)) : StP n σ τ (if isS (σ 52 1) then Runner_serve 64 (σ 52 1) σ else Runner_step 64 (σ 52 1) σ) (Mo_step 67 τ) := by
  by_cases hs : isS (σ 52 1)
  · rw [if_pos hs]; exact st_serve S hs
  · rw [if_neg hs]
    obtain ⟨hV, hI, ⟨hn, c2, c3, hB, c5, c6, hC⟩, a1, a2, a4, a6, ac⟩ := id S
    have out : (σ 52 1 < 256 ∨ ¬ σ 52 1 - 256 < nI n) → StP n σ τ (Runner_step 64 (σ 52 1) σ) (Mo_step 67 τ) := by
      intro ho
      have e1 : Runner_step 64 (σ 52 1) σ = some (4, σ) := by
        unfold Runner_step
        rw [nm_of, cc_64_0, c2]
        by_cases q : σ 52 1 < 256
        · rw [if_pos q]
        · rw [if_neg q, if_neg (ho.resolve_left q)]
      have e2 : Mo_step 67 τ = some (4, τ) := by
        unfold Mo_step
        rw [cc_67_36, ld_L 0 0 rfl (by decide) (by decide), ← a1, if_pos (fun k => hs (Or.inl k)), ms_eq, if_neg hs, cl_of, if_pos rfl, nm_of, c3]
        by_cases q : σ 52 1 < 256
        · rw [if_pos q]
        · rw [if_neg q, if_neg (ho.resolve_left q)]
      rw [e1, e2]
      exact ⟨4, σ, τ, rfl, rfl, S, fx_rf, fun h => absurd h (by decide), Or.inr (by decide)⟩
    rcases hA with k | k | k | ⟨p, hp, k1, k2, k3⟩
    · exact absurd k hs
    · exact out (Or.inl k)
    · exact out (Or.inr k)
    · exact st_code S hp k1 k2 k3
/-- a RUN to its end -/
theorem rn_loop (fu : Nat) (hfu : fu ≤ 5000) : ∀ (k t N N' : Nat) (σ τ : St), fu = t + k → k < N → k + 2 < N' → RunS n σ τ → SfA n σ (σ 52 1) → σ 52 2 = nI t →
    ∃ a σ' τ', Runner_goOn_B4 N 64 (nI fu) (-1) (nI t) σ = some (a, σ') ∧ Mo_run_B54 N' 67 (nI fu) (-1) τ = some (a, τ') ∧ RunS n σ' τ' ∧ FX 0 τ τ' ∧ σ' 52 3 = a ∧ τ' 95 0 = a := by
  have stopC : ∀ (N : Nat) (a : Int32) (t' : Int32) (σ : St), ¬ a = -1 → Runner_goOn_B4 (N + 1) 64 (nI fu) a t' σ = some (a, s2 σ 52 3 a) := by
    intro N a t' σ ha
    rw [Runner_goOn_B4, cc_64_2]
    have e : (s2 σ 52 3 a) 52 3 = a := by rw [s2_row, upd_s]
    by_cases q : nI fu ≤ t'
    · rw [if_pos q, if_pos ha, nm_of, e]
    · rw [if_neg q, if_pos ha, if_pos ha, nm_of, e]
  have stopM : ∀ (N : Nat) (a : Int32) (τ : St), ¬ a < 0 → Mo_run_B54 (N + 1) 67 (nI fu) a τ = some (a, s2 τ 95 0 a) := by
    intro N a τ ha
    rw [Mo_run_B54, if_pos (by rw [le_nlt]; exact ha), cc_67_38, sa_L 0 0 rfl (by decide) (by decide)]
  have keep : ∀ (a : Int32) (σ τ : St), RunS n σ τ → RunS n (s2 σ 52 3 a) (s2 τ 95 0 a) := by
    intro a σ τ S
    obtain ⟨hV, hI, hC, a1, a2, a4, a6, ac⟩ := id S
    refine rs_mk S ?_ ?_ (s2_ne (by decide)) (s2_ne (by decide)) (s2_ne (by decide)) (fx_s (by simp)) ?_ ?_ ?_ ?_ ?_
    · refine vr_t (vr_c hV ?_ ?_ ?_ ?_) ?_ ?_ ?_ ?_ ?_
      all_goals simp only [s2_ne, s2_at, up_ne, up_at, ne_eq, not_false_eq_true, not_true_eq_false, if_true, if_false, Nat.reduceEqDiff, Nat.reduceLT, true_or, or_true, reduceIte]
    · obtain ⟨ic, k, oc, w⟩ := hI
      refine ⟨ic, k, oc, ?_⟩
      simp only [s2_ne, s2_at, up_ne, up_at, ne_eq, not_false_eq_true, not_true_eq_false, if_true, if_false, Nat.reduceEqDiff, Nat.reduceLT, true_or, or_true, reduceIte]
      exact w
    · simp only [s2_ne, s2_at, up_ne, up_at, ne_eq, not_false_eq_true, not_true_eq_false, if_true, if_false, Nat.reduceEqDiff, Nat.reduceLT, true_or, or_true, reduceIte]; exact a1
    · simp only [s2_ne, s2_at, up_ne, up_at, ne_eq, not_false_eq_true, not_true_eq_false, if_true, if_false, Nat.reduceEqDiff, Nat.reduceLT, true_or, or_true, reduceIte]; exact a2
    · simp only [s2_ne, s2_at, up_ne, up_at, ne_eq, not_false_eq_true, not_true_eq_false, if_true, if_false, Nat.reduceEqDiff, Nat.reduceLT, true_or, or_true, reduceIte]; exact a4
    · simp only [s2_ne, s2_at, up_ne, up_at, ne_eq, not_false_eq_true, not_true_eq_false, if_true, if_false, Nat.reduceEqDiff, Nat.reduceLT, true_or, or_true, reduceIte]; exact a6
    · simp only [s2_ne, s2_at, up_ne, up_at, ne_eq, not_false_eq_true, not_true_eq_false, if_true, if_false, Nat.reduceEqDiff, Nat.reduceLT, true_or, or_true, reduceIte]; exact ac
  intro k
  induction k with
  | zero =>
    intro t N N' σ τ h1 h2 h3 S hA hst
    obtain ⟨N, rfl⟩ : ∃ m, N = m + 1 := ⟨N - 1, by omega⟩
    obtain ⟨N', rfl⟩ : ∃ m, N' = m + 1 + 1 := ⟨N' - 2, by omega⟩
    have e94 : τ 94 0 = nI t := by rw [← S.2.2.2.2.1]; exact hst
    rw [Runner_goOn_B4, cc_64_2, if_pos ((nI_le' (by omega) (by omega)).mpr (by omega)), if_neg (by decide), nm_of, Mo_run_B54, if_neg (by decide), cc_67_37, ld_L 0 0 rfl (by decide) (by decide), e94, if_neg (not_not_intro (by rw [h1]; rfl)), stopM N' 0 τ (by decide), s2_row, upd_s]
    exact ⟨0, _, _, rfl, rfl, keep 0 σ τ S, fx_s (by simp), by rw [s2_row, upd_s], by rw [s2_row, upd_s]⟩
  | succ k ih =>
    intro t N N' σ τ h1 h2 h3 S hA hst
    obtain ⟨N, rfl⟩ : ∃ m, N = m + 1 + 1 := ⟨N - 2, by omega⟩
    obtain ⟨N', rfl⟩ : ∃ m, N' = m + 1 + 1 := ⟨N' - 2, by omega⟩
    have e94 : τ 94 0 = nI t := by rw [← S.2.2.2.2.1]; exact hst
    obtain ⟨a, σ1, τ1, e1, e2, S1, X1, g1, g2⟩ := st_any S hA
    have ec : Runner_goOn_B4 (N + 1 + 1) 64 (nI fu) (-1) (nI t) σ = Runner_goOn_B4 (N + 1) 64 (nI fu) a (nI (t + 1)) σ1 := by
      rw [Runner_goOn_B4, cc_64_2, if_neg (fun q => absurd ((nI_le' (by omega) (by omega)).mp q) (by omega)), if_neg (by decide), hs_eq, cl_of]
      by_cases hs : isS (σ 52 1)
      · rw [if_pos hs] at e1
        rw [if_pos hs, if_neg (by decide), e1, cl_of, nm_of, nI_1]
      · rw [if_neg hs] at e1
        rw [if_neg hs, if_pos rfl, e1, cl_of, nm_of, nI_1]
    have em : Mo_run_B54 (N' + 1 + 1) 67 (nI fu) (-1) τ = Mo_run_B54 (N' + 1) 67 (nI fu) a τ1 := by
      rw [Mo_run_B54, if_neg (by decide), cc_67_37, ld_L 0 0 rfl (by decide) (by decide), e94, if_pos (show ¬ nI t = nI fu from fun q => absurd ((nI_inj (by omega) (by omega)).mp q) (by omega)), e2, cl_of]
    rw [ec, em]
    by_cases ha : a = -1
    · subst ha
      obtain ⟨q1, q2⟩ := g1 rfl
      obtain ⟨a2, σ2, τ2, z1, z2, z3, z4, z5, z6⟩ := ih (t + 1) (N + 1) (N' + 1) σ1 τ1 (by omega) (by omega) (by omega) S1 q1 (by rw [q2, hst, nI_1])
      exact ⟨a2, σ2, τ2, z1, z2, z3, fx_tr X1 z4, z5, z6⟩
    · have hna := g2.resolve_left ha
      rw [stopC N a _ σ1 ha, stopM N' a τ1 hna]
      exact ⟨a, _, _, rfl, rfl, keep a σ1 τ1 S1, fx_tr X1 (fx_s (by simp)), by rw [s2_row, upd_s], by rw [s2_row, upd_s]⟩
end
