theorem bg_c52 (σ : St) : ∃ σ', Machine_beginAs 52 46 σ = some σ' ∧ (∀ j, j < 8 → σ' 54 j = σ 48 j) ∧ (∀ j, j < 1024 → σ' 55 j = σ 49 j) ∧ (∀ j, j < 50 → σ' 56 j = σ 50 j) ∧ (∀ j, j < 4 → σ' 53 j = 0) ∧ σ' 52 10 = σ 46 10 ∧ σ' 52 11 = 0 ∧ σ' 52 13 = 0 ∧ σ' 52 5 = 0 ∧ σ' 52 1 = 256 ∧ σ' 52 2 = 0 ∧ σ' 52 3 = 0 ∧ σ' 52 4 = 0 ∧ σ' 52 6 = 1 ∧ ∀ c, c ≠ 52 → c ≠ 53 → c ≠ 54 → c ≠ 55 → c ≠ 56 → σ' c = σ c := by
  unfold Machine_beginAs Flags_setAll
  rw [cc_46_7, cc_46_8, cc_46_9, cc_52_7, cc_52_8, cc_52_9, cc_52_0, cp_full 8 8 rfl (by decide), cp_full 1024 1024 rfl (by decide), cp_full 50 50 rfl (by decide)]
  simp only [nm_of, cv_of]
  refine ⟨_, rfl, fun j hj => ?_, fun j hj => ?_, fun j hj => ?_, fun j hj => ?_, ?_, ?_, ?_, ?_, ?_, ?_, ?_, ?_, ?_, fun c h1 h2 h3 h4 h5 => ?_⟩
  · simp only [s2_ne, s2_at, up_ne, up_at, ne_eq, not_false_eq_true, not_true_eq_false, if_true, if_false, Nat.reduceEqDiff, Nat.reduceLT, true_or, or_true, reduceIte]; rw [if_pos hj]
  · simp only [s2_ne, s2_at, up_ne, up_at, ne_eq, not_false_eq_true, not_true_eq_false, if_true, if_false, Nat.reduceEqDiff, Nat.reduceLT, true_or, or_true, reduceIte]; rw [if_pos hj]
  · simp only [s2_ne, s2_at, up_ne, up_at, ne_eq, not_false_eq_true, not_true_eq_false, if_true, if_false, Nat.reduceEqDiff, Nat.reduceLT, true_or, or_true, reduceIte]; rw [if_pos hj]
  · obtain e | e | e | e : j = 0 ∨ j = 1 ∨ j = 2 ∨ j = 3 := by omega
    all_goals (subst e; simp only [s2_ne, s2_at, up_ne, up_at, ne_eq, not_false_eq_true, not_true_eq_false, if_true, if_false, Nat.reduceEqDiff, Nat.reduceLT, true_or, or_true, reduceIte])
  · simp only [s2_ne, s2_at, up_ne, up_at, ne_eq, not_false_eq_true, not_true_eq_false, if_true, if_false, Nat.reduceEqDiff, Nat.reduceLT, true_or, or_true, reduceIte]
  · simp only [s2_ne, s2_at, up_ne, up_at, ne_eq, not_false_eq_true, not_true_eq_false, if_true, if_false, Nat.reduceEqDiff, Nat.reduceLT, true_or, or_true, reduceIte]
  · simp only [s2_ne, s2_at, up_ne, up_at, ne_eq, not_false_eq_true, not_true_eq_false, if_true, if_false, Nat.reduceEqDiff, Nat.reduceLT, true_or, or_true, reduceIte]
  · simp only [s2_ne, s2_at, up_ne, up_at, ne_eq, not_false_eq_true, not_true_eq_false, if_true, if_false, Nat.reduceEqDiff, Nat.reduceLT, true_or, or_true, reduceIte]
  · simp only [s2_ne, s2_at, up_ne, up_at, ne_eq, not_false_eq_true, not_true_eq_false, if_true, if_false, Nat.reduceEqDiff, Nat.reduceLT, true_or, or_true, reduceIte]
  · simp only [s2_ne, s2_at, up_ne, up_at, ne_eq, not_false_eq_true, not_true_eq_false, if_true, if_false, Nat.reduceEqDiff, Nat.reduceLT, true_or, or_true, reduceIte]
  · simp only [s2_ne, s2_at, up_ne, up_at, ne_eq, not_false_eq_true, not_true_eq_false, if_true, if_false, Nat.reduceEqDiff, Nat.reduceLT, true_or, or_true, reduceIte]
  · simp only [s2_ne, s2_at, up_ne, up_at, ne_eq, not_false_eq_true, not_true_eq_false, if_true, if_false, Nat.reduceEqDiff, Nat.reduceLT, true_or, or_true, reduceIte]
  · simp only [s2_ne, s2_at, up_ne, up_at, ne_eq, not_false_eq_true, not_true_eq_false, if_true, if_false, Nat.reduceEqDiff, Nat.reduceLT, true_or, or_true, reduceIte]
  · simp only [s2_ne h1, s2_ne h2, up_ne h3, up_ne h4, up_ne h5]
theorem bg_c58 (σ : St) : ∃ σ', Machine_beginAs 58 46 σ = some σ' ∧ (∀ j, j < 8 → σ' 60 j = σ 48 j) ∧ (∀ j, j < 1024 → σ' 61 j = σ 49 j) ∧ (∀ j, j < 50 → σ' 62 j = σ 50 j) ∧ (∀ j, j < 4 → σ' 59 j = 0) ∧ σ' 58 10 = σ 46 10 ∧ σ' 58 11 = 0 ∧ σ' 58 13 = 0 ∧ σ' 58 5 = 0 ∧ σ' 58 1 = 256 ∧ σ' 58 2 = 0 ∧ σ' 58 3 = 0 ∧ σ' 58 4 = 0 ∧ σ' 58 6 = 1 ∧ ∀ c, c ≠ 58 → c ≠ 59 → c ≠ 60 → c ≠ 61 → c ≠ 62 → σ' c = σ c := by
  unfold Machine_beginAs Flags_setAll
  rw [cc_46_7, cc_46_8, cc_46_9, cc_58_7, cc_58_8, cc_58_9, cc_58_0, cp_full 8 8 rfl (by decide), cp_full 1024 1024 rfl (by decide), cp_full 50 50 rfl (by decide)]
  simp only [nm_of, cv_of]
  refine ⟨_, rfl, fun j hj => ?_, fun j hj => ?_, fun j hj => ?_, fun j hj => ?_, ?_, ?_, ?_, ?_, ?_, ?_, ?_, ?_, ?_, fun c h1 h2 h3 h4 h5 => ?_⟩
  · simp only [s2_ne, s2_at, up_ne, up_at, ne_eq, not_false_eq_true, not_true_eq_false, if_true, if_false, Nat.reduceEqDiff, Nat.reduceLT, true_or, or_true, reduceIte]; rw [if_pos hj]
  · simp only [s2_ne, s2_at, up_ne, up_at, ne_eq, not_false_eq_true, not_true_eq_false, if_true, if_false, Nat.reduceEqDiff, Nat.reduceLT, true_or, or_true, reduceIte]; rw [if_pos hj]
  · simp only [s2_ne, s2_at, up_ne, up_at, ne_eq, not_false_eq_true, not_true_eq_false, if_true, if_false, Nat.reduceEqDiff, Nat.reduceLT, true_or, or_true, reduceIte]; rw [if_pos hj]
  · obtain e | e | e | e : j = 0 ∨ j = 1 ∨ j = 2 ∨ j = 3 := by omega
    all_goals (subst e; simp only [s2_ne, s2_at, up_ne, up_at, ne_eq, not_false_eq_true, not_true_eq_false, if_true, if_false, Nat.reduceEqDiff, Nat.reduceLT, true_or, or_true, reduceIte])
  · simp only [s2_ne, s2_at, up_ne, up_at, ne_eq, not_false_eq_true, not_true_eq_false, if_true, if_false, Nat.reduceEqDiff, Nat.reduceLT, true_or, or_true, reduceIte]
  · simp only [s2_ne, s2_at, up_ne, up_at, ne_eq, not_false_eq_true, not_true_eq_false, if_true, if_false, Nat.reduceEqDiff, Nat.reduceLT, true_or, or_true, reduceIte]
  · simp only [s2_ne, s2_at, up_ne, up_at, ne_eq, not_false_eq_true, not_true_eq_false, if_true, if_false, Nat.reduceEqDiff, Nat.reduceLT, true_or, or_true, reduceIte]
  · simp only [s2_ne, s2_at, up_ne, up_at, ne_eq, not_false_eq_true, not_true_eq_false, if_true, if_false, Nat.reduceEqDiff, Nat.reduceLT, true_or, or_true, reduceIte]
  · simp only [s2_ne, s2_at, up_ne, up_at, ne_eq, not_false_eq_true, not_true_eq_false, if_true, if_false, Nat.reduceEqDiff, Nat.reduceLT, true_or, or_true, reduceIte]
  · simp only [s2_ne, s2_at, up_ne, up_at, ne_eq, not_false_eq_true, not_true_eq_false, if_true, if_false, Nat.reduceEqDiff, Nat.reduceLT, true_or, or_true, reduceIte]
  · simp only [s2_ne, s2_at, up_ne, up_at, ne_eq, not_false_eq_true, not_true_eq_false, if_true, if_false, Nat.reduceEqDiff, Nat.reduceLT, true_or, or_true, reduceIte]
  · simp only [s2_ne, s2_at, up_ne, up_at, ne_eq, not_false_eq_true, not_true_eq_false, if_true, if_false, Nat.reduceEqDiff, Nat.reduceLT, true_or, or_true, reduceIte]
  · simp only [s2_ne, s2_at, up_ne, up_at, ne_eq, not_false_eq_true, not_true_eq_false, if_true, if_false, Nat.reduceEqDiff, Nat.reduceLT, true_or, or_true, reduceIte]
  · simp only [s2_ne h1, s2_ne h2, up_ne h3, up_ne h4, up_ne h5]
theorem BY_0 : BY 0 := ⟨by decide, by decide⟩
theorem tt_run (fu : Int32) : TT (House_run 0 fu) (Mo_run 67 fu) := by
  intro σ τ h
  obtain ⟨n, t1, t2, t3, t4, t5, t6, t7⟩ := h.2.2.1
  obtain ⟨f0, f1, f2, f3, ic, n1, n2, n3, n4⟩ := h.2.2.2.2.2.1
  unfold House_run Mo_run
  rw [cc_0_2, cc_0_9, cc_0_8, cc_0_11, t2, t3]
  have bad : ∀ a b : Int32, ¬ (a = 0 ∧ b = 0) → Mo_run_B30 67 fu 67 a b τ = some (0, s2 τ 67 0 (if a = 0 then (if b = 0 then 0 else 2) else 1)) := by
    intro a b hab
    unfold Mo_run_B30
    rw [th_eq, if_neg hab, cl_of, if_neg (by decide)]
  by_cases z : n = 0
  · subst z
    rw [if_neg (show ¬ ¬ nI 0 = 0 from not_not_intro rfl), if_neg (show ¬ ¬ nI 0 = 0 from not_not_intro rfl), bad 1 1 (by decide), bad 1 0 (by decide)]
    have e : (if fu < 1 then some ((0 : Int32), s2 τ 67 0 (if (1 : Int32) = 0 then (if (1 : Int32) = 0 then 0 else 2) else 1)) else if fu ≤ 5000 then some (0, s2 τ 67 0 (if (1 : Int32) = 0 then (if (0 : Int32) = 0 then 0 else 2) else 1)) else some (0, s2 τ 67 0 (if (1 : Int32) = 0 then (if (1 : Int32) = 0 then 0 else 2) else 1))) = some (0, s2 τ 67 0 1) := by
      split
      · rfl
      · split <;> rfl
    rw [e]
    exact ⟨2, 0, _, _, _, rfl, rfl, R_th h, by decide, by rw [s2_row, upd_s]; rfl, fun h => absurd h (by decide)⟩
  · have nz : ¬ nI n = 0 := nI_ne0 (by omega) (by omega)
    rw [if_pos nz, if_pos nz, bad 0 1 (by decide)]
    by_cases c1 : fu < 1
    · rw [if_pos c1, if_pos c1]
      exact ⟨3, 0, _, _, _, rfl, rfl, R_th h, by decide, by rw [s2_row, upd_s]; rfl, fun h => absurd h (by decide)⟩
    · rw [if_neg c1, if_neg c1]
      by_cases c2 : fu ≤ 5000
      · rw [if_pos c2, if_pos c2]
        obtain ⟨k, hk, rfl⟩ := nI_of2 (n := 5000) rfl (nlt_of c1 (by decide)) c2
        have hC := t7.resolve_left z
        obtain ⟨σ1, e1, g1, g2, g3, g4, q10, q11, q13, q5, q1, q2, q3, q4, q6, gc⟩ := bg_c52 σ
        obtain ⟨τ1, e2, b1, b2, b3, b4, b5, b6, b7, b8, b9, b10, X1⟩ := bg_14 (w := 0) (by decide) 8 FU 0 (s2 (s2 (s2 τ 67 0 0) 67 42 0) 87 0 1) (by omega) (by omega) (FU_big (by omega))
        have em : Mo_begin 67 0 (s2 τ 67 0 0) = some τ1 := by
          unfold Mo_begin
          rw [nm_of, cc_67_30, sa_L 0 0 rfl (by decide) (by decide)]
          exact e2
        have rc : ∀ c, c ≠ 67 → c ≠ 87 → (c < 88 ∨ 95 < c) → τ1 c = τ c := fun c h1 h2 h3 => by rw [X1.1 c h1 h3, s2_ne h2, s2_ne h1, s2_ne h1]
        have rf : ∀ j, j ≠ 0 → j ≠ 39 → j ≠ 40 → j ≠ 41 → j ≠ 42 → (j < 43 ∨ 62 < j ∨ j = 55) → τ1 67 j = τ 67 j := fun j h0 h1 h2 h3 h4 h5 => by rw [X1.2.1 j h1 h2 h3 h4 h5, s2_ne (by decide), s2_row, upd_ne h4, s2_row, upd_ne h0]
        have S1 : RunS n σ1 (s2 τ1 93 0 256) := by
          refine ⟨⟨fun j hj => ?_, fun j hj => ?_, fun j hj => ?_, fun j hj => ?_, Or.inl q5, fun x => by omega, fun _ => q5, ?_, by decide⟩, ⟨ic, 0, 0, n1, by omega, by omega, ?_, ?_, q11, ?_, q13, ?_, fun j hj => ?_, fun j hj => absurd hj (by omega)⟩, ⟨t1, ?_, ?_, ?_, ?_, ?_, ?_⟩, ?_, ?_, ?_, q6, ?_⟩
          · rw [g1 j hj, s2_ne (by decide), b1 j hj, if_pos (by omega), s2_ne (by decide), s2_ne (by decide), s2_ne (by decide)]; exact f1 j hj
          · rw [g4 j hj, s2_ne (by decide), b3 j hj]
          · rw [g2 j hj, s2_ne (by decide), b2 j hj, s2_ne (by decide), s2_ne (by decide), s2_ne (by decide)]; exact f2 j hj
          · rw [g2 j hj]; exact f3 j hj
          · rw [s2_ne (by decide), b10, s2_ne (by decide), s2_row, upd_s]; rfl
          · rw [q10]; exact n2
          · rw [s2_ne (by decide), rf 29 (by decide) (by decide) (by decide) (by decide) (by decide) (by decide)]; exact n3
          · rw [s2_ne (by decide), b7]; rfl
          · rw [s2_ne (by decide), b4]; rfl
          · rw [g3 j (by omega), s2_ne (by decide), rc 86 (by decide) (by decide) (by decide)]; exact n4 j hj
          · rw [gc 7 (by decide) (by decide) (by decide) (by decide) (by decide)]; exact t2
          · rw [s2_ne (by decide), rf 6 (by decide) (by decide) (by decide) (by decide) (by decide) (by decide)]; exact t3
          · rw [gc 8 (by decide) (by decide) (by decide) (by decide) (by decide)]; exact t4
          · rw [gc 8 (by decide) (by decide) (by decide) (by decide) (by decide), s2_ne (by decide), rc 69 (by decide) (by decide) (by decide)]; exact t5
          · rw [gc 9 (by decide) (by decide) (by decide) (by decide) (by decide), s2_ne (by decide), rc 70 (by decide) (by decide) (by decide)]; exact t6
          · rw [gc 8 (by decide) (by decide) (by decide) (by decide) (by decide), gc 9 (by decide) (by decide) (by decide) (by decide) (by decide)]; exact hC
          · rw [q1, s2_row, upd_s]
          · rw [q2, s2_ne (by decide), b5]
          · rw [q4, s2_ne (by decide), b8 rfl]
          · rw [g4 0 (by decide)]; decide
        have hA : SfA n σ1 (σ1 52 1) := by
          rw [q1]
          exact sf_al t1 S1.2.2.1.2.2.2.2.2.2 (by decide)
        obtain ⟨a, σ2, τ2, z1, z2, S2, X2, y1, y2⟩ := rn_loop k hk k 0 FU FU σ1 (s2 τ1 93 0 256) (by omega) (FU_big (by omega)) (by have : FU = 20000 := rfl; omega) S1 hA q2
        have ec : Runner_goOn 64 (nI k) σ1 = some (a, σ2) := z1
        have er : Mo_run_B30 67 (nI k) 67 0 0 τ = some (a, τ2) := by
          unfold Mo_run_B30
          rw [th_00, cl_of, if_pos rfl, em, cv_of, cc_67_36, sa_L 0 0 rfl (by decide) (by decide)]
          exact z2
        rw [e1, cv_of, ec, cl_of, er]
        have fr := fr_Runner_goOn (P := fun c => c = 13 ∨ c = 14 ∨ c = 52 ∨ c = 53 ∨ c = 54 ∨ c = 55 ∨ c = 57) (by decide) (by decide) (by decide) (by decide) (by decide) (by decide) (by decide) ec
        have cc : ∀ c, c ≠ 13 → c ≠ 14 → c ≠ 52 → c ≠ 53 → c ≠ 54 → c ≠ 55 → c ≠ 56 → c ≠ 57 → σ2 c = σ c := fun c x1 x2 x3 x4 x5 x6 x7 x8 => by
          exact (fr c (by simp [x1, x2, x3, x4, x5, x6, x8])).trans (gc c x3 x4 x5 x6 x7)
        have XX := fx_tr X1 (fx_tr (fx_s (c := 93) (v := 256) (by simp)) X2)
        have tc' : ∀ c, c ≠ 67 → c ≠ 87 → (c < 88 ∨ 95 < c) → τ2 c = τ c := fun c h1 h2 h3 => by rw [XX.1 c h1 h3, s2_ne h2, s2_ne h1, s2_ne h1]
        have tf : ∀ j, j ≠ 0 → j ≠ 39 → j ≠ 40 → j ≠ 41 → j ≠ 42 → (j < 43 ∨ 62 < j ∨ j = 55) → τ2 67 j = τ 67 j := fun j h0 h1 h2 h3 h4 h5 => by rw [XX.2.1 j h1 h2 h3 h4 h5, s2_ne (by decide), s2_row, upd_ne h4, s2_row, upd_ne h0]
        have t87 : τ2 87 = upd (τ 87) 0 1 := by rw [XX.1 87 (by decide) (by decide), s2_row, s2_ne (by decide), s2_ne (by decide)]
        have t40 : τ2 67 40 = τ 67 40 := by rw [XX.2.2.2.2.2.2.2.1 rfl, s2_ne (by decide), s2_row, upd_ne (by decide), s2_row, upd_ne (by decide)]
        have up : ∀ c, c = 88 ∨ c = 89 ∨ c = 90 ∨ c = 91 ∨ c = 92 ∨ c = 93 ∨ c = 94 ∨ c = 95 → (s2 (s2 (s2 τ 67 0 0) 67 42 0) 87 0 1) c = τ c := fun c hc => by rw [s2_ne (by omega), s2_ne (by omega), s2_ne (by omega)]
        refine ⟨0, a, σ2, a, τ2, rfl, rfl, ?_, by decide, ?_, fun _ => rfl⟩
        · obtain ⟨V2, I2, C2, p1, p2, p4, p6, pc⟩ := S2
          obtain ⟨v1, v2, v3, v4, v5, v6, v7, v8, v9⟩ := V2
          obtain ⟨ic2, k2, oc2, u1, u2, u3, u4, u5, u6, u7, u8, u9, u10, u11⟩ := I2
          unfold R at h ⊢
          simp only [cc, tc', tf, t40, s2_ne, s2_at, up_ne, up_at, ne_eq, not_false_eq_true, not_true_eq_false, if_true, if_false, Nat.reduceEqDiff, Nat.reduceLT, true_or, or_true, reduceIte]
          refine ⟨h.1, h.2.1, h.2.2.1, h.2.2.2.1, h.2.2.2.2.1, h.2.2.2.2.2.1, ⟨⟨?_, Or.inr p6, fun _ => ⟨fun j hj => ?_, fun j hj => ?_, fun j hj => ?_, ⟨oc2, u3, u8, u9, u11⟩, p1, p2, ?_⟩⟩, p4, v7 rfl⟩, ?_⟩
          · rw [p6, t87, upd_s]
          · exact v1 j hj
          · exact v2 j hj
          · exact v3 j hj
          · rw [y1, y2]
          · obtain ⟨⟨w1, w2, w3⟩, w4, w5⟩ := h.2.2.2.2.2.2.2
            refine ⟨⟨?_, w2, fun hh => ?_⟩, w4, w5⟩
            · rw [t87, upd_ne (by decide)]; exact w1
            · obtain ⟨x1, x2, x3, ⟨nn, x4, x5, x6, x7⟩, x8, x9, x10⟩ := w3 hh
              refine ⟨fun j hj => ?_, fun j hj => ?_, fun j hj => ?_, ⟨nn, x4, x5, ?_, fun j hj => ?_⟩, ?_, ?_, ?_⟩
              · rw [XX.2.2.1 _ (by omega), up 88 (by simp)]; exact x1 j hj
              · rw [XX.2.2.2.1 _ (by omega), up 89 (by simp)]; exact x2 j hj
              · rw [XX.2.2.2.2.1 _ (by omega), up 90 (by simp)]; exact x3 j hj
              · rw [(XX.2.2.2.2.2.2.1 1 (by decide)).1, up 92 (by simp)]; exact x6
              · rw [XX.2.2.2.2.2.1 _ (by omega), up 91 (by simp)]; exact x7 j hj
              · rw [(XX.2.2.2.2.2.2.1 1 (by decide)).2.1, up 93 (by simp)]; exact x8
              · rw [(XX.2.2.2.2.2.2.1 1 (by decide)).2.2.1, up 94 (by simp)]; exact x9
              · rw [(XX.2.2.2.2.2.2.1 1 (by decide)).2.2.2, up 95 (by simp)]; exact x10
        · rw [XX.2.1 0 (by decide) (by decide) (by decide) (by decide) (by decide), s2_ne (by decide), s2_row, upd_ne (by decide), s2_row, upd_s]; rfl
      · rw [if_neg c2, if_neg c2]
        exact ⟨3, 0, _, _, _, rfl, rfl, R_th h, by decide, by rw [s2_row, upd_s]; rfl, fun h => absurd h (by decide)⟩
