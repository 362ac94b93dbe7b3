theorem tt_walk (fu : Int32) : TT (House_walk 0 fu) (Mo_walk 67 fu) := by
  intro σ τ h
  obtain ⟨z1, z2, z3⟩ := h.2.2.2.2.1
  obtain ⟨f0, f1, f2, f3, ic, n1, n2, n3, n4⟩ := h.2.2.2.2.2.1
  unfold House_walk Mo_walk
  rw [cc_0_10, cc_0_8, cc_0_12, ← z1]
  have bad : ∀ a b : Int32, ¬ (a = 0 ∧ b = 0) → Mo_walk_B30 67 fu 67 a b τ = some (0, s2 τ 67 0 (if a = 0 then (if b = 0 then 0 else 2) else 1)) := by
    intro a b hab
    unfold Mo_walk_B30
    rw [th_eq, if_neg hab, cl_of, if_neg (by decide)]
  by_cases z : σ 0 13 = 0
  · rw [if_neg (not_not_intro z), if_neg (not_not_intro z), bad 1 1 (by decide), bad 1 0 (by decide)]
    have e : (if fu < 1 then some ((0 : Int32), s2 τ 67 0 (if (1 : Int32) = 0 then (if (1 : Int32) = 0 then 0 else 2) else 1)) else if fu ≤ 5000 then some (0, s2 τ 67 0 (if (1 : Int32) = 0 then (if (0 : Int32) = 0 then 0 else 2) else 1)) else some (0, s2 τ 67 0 (if (1 : Int32) = 0 then (if (1 : Int32) = 0 then 0 else 2) else 1))) = some (0, s2 τ 67 0 1) := by
      split
      · rfl
      · split <;> rfl
    rw [e]
    exact ⟨2, 0, _, _, _, rfl, rfl, R_th h, by decide, by rw [s2_row, upd_s]; rfl, fun h => absurd h (by decide)⟩
  · rw [if_pos z, if_pos z, bad 0 1 (by decide)]
    by_cases c1 : fu < 1
    · rw [if_pos c1, if_pos c1]
      exact ⟨3, 0, _, _, _, rfl, rfl, R_th h, by decide, by rw [s2_row, upd_s]; rfl, fun h => absurd h (by decide)⟩
    · rw [if_neg c1, if_neg c1]
      by_cases c2 : fu ≤ 5000
      · rw [if_pos c2, if_pos c2]
        obtain ⟨k, hk, rfl⟩ := nI_of2 (n := 5000) rfl (nlt_of c1 (by decide)) c2
        obtain ⟨m, T, pl, P⟩ := z3 (z2.resolve_left z)
        have P : PrS m T pl σ τ := P
        obtain ⟨σ1, e1, g1, g2, g3, g4, q10, q11, q13, q5, q1, q2, q3, q4, q6, gc⟩ := bg_c58 σ
        obtain ⟨τ1, e2, b1, b2, b3, b4, b5, b6, b7, b8, b9, b10, X1⟩ := bg_14 (w := 1) (by decide) 8 FU 0 (s2 (s2 (s2 τ 67 0 0) 67 42 1) 87 1 1) (by omega) (by omega) (FU_big (by omega))
        have em : Mo_begin 67 1 (s2 τ 67 0 0) = some τ1 := by
          unfold Mo_begin
          rw [nm_of, cc_67_30, sa_L 1 1 rfl (by decide) (by decide)]
          exact e2
        have rc : ∀ c, c ≠ 67 → c ≠ 87 → (c < 88 ∨ 95 < c) → τ1 c = τ c := fun c h1 h2 h3 => by rw [X1.1 c h1 h3, s2_ne h2, s2_ne h1, s2_ne h1]
        have rf : ∀ j, j ≠ 0 → j ≠ 39 → j ≠ 40 → j ≠ 41 → j ≠ 42 → (j < 43 ∨ 62 < j ∨ j = 55) → τ1 67 j = τ 67 j := fun j h0 h1 h2 h3 h4 h5 => by rw [X1.2.1 j h1 h2 h3 h4 h5, s2_ne (by decide), s2_row, upd_ne h4, s2_row, upd_ne h0]
        have P1 : PrS m T pl σ1 τ1 := by
          unfold PrS at P ⊢
          rw [rf 9 (by decide) (by decide) (by decide) (by decide) (by decide) (by decide), rf 55 (by decide) (by decide) (by decide) (by decide) (by decide) (by decide), rc 71 (by decide) (by decide) (by decide), rc 72 (by decide) (by decide) (by decide), rc 73 (by decide) (by decide) (by decide), rc 74 (by decide) (by decide) (by decide), rc 75 (by decide) (by decide) (by decide), rc 76 (by decide) (by decide) (by decide), rc 77 (by decide) (by decide) (by decide), rc 78 (by decide) (by decide) (by decide), rc 79 (by decide) (by decide) (by decide), rc 80 (by decide) (by decide) (by decide), gc 33 (by decide) (by decide) (by decide) (by decide) (by decide), gc 34 (by decide) (by decide) (by decide) (by decide) (by decide), gc 35 (by decide) (by decide) (by decide) (by decide) (by decide), gc 36 (by decide) (by decide) (by decide) (by decide) (by decide), gc 37 (by decide) (by decide) (by decide) (by decide) (by decide), gc 38 (by decide) (by decide) (by decide) (by decide) (by decide), gc 39 (by decide) (by decide) (by decide) (by decide) (by decide), gc 40 (by decide) (by decide) (by decide) (by decide) (by decide), gc 41 (by decide) (by decide) (by decide) (by decide) (by decide), gc 42 (by decide) (by decide) (by decide) (by decide) (by decide), gc 43 (by decide) (by decide) (by decide) (by decide) (by decide), gc 44 (by decide) (by decide) (by decide) (by decide) (by decide), gc 45 (by decide) (by decide) (by decide) (by decide) (by decide)]
          exact P
        have W1 : WB m T pl σ1 τ1 := by
          refine ⟨⟨fun j hj => ?_, fun j hj => ?_, fun j hj => ?_, fun j hj => ?_, Or.inl q5, fun _ => ?_, fun x => absurd x (by decide), ?_, by decide⟩, ⟨ic, 0, 0, n1, by omega, by omega, ?_, ?_, q11, ?_, q13, ?_, fun j hj => ?_, fun j hj => absurd hj (by omega)⟩, P1, ?_, q6, q4⟩
          · rw [g1 j hj, b1 j hj, if_pos (by omega), s2_ne (by decide), s2_ne (by decide), s2_ne (by decide)]; exact f1 j hj
          · rw [g4 j hj, b3 j hj]
          · rw [g2 j hj, b2 j hj, s2_ne (by decide), s2_ne (by decide), s2_ne (by decide)]; exact f2 j hj
          · rw [g2 j hj]; exact f3 j hj
          · rw [q5, b9 rfl]
          · rw [b10, s2_ne (by decide), s2_row, upd_s]; rfl
          · rw [q10]; exact n2
          · rw [rf 29 (by decide) (by decide) (by decide) (by decide) (by decide) (by decide)]; exact n3
          · rw [b7]; rfl
          · rw [b4]; rfl
          · rw [g3 j (by omega), rc 86 (by decide) (by decide) (by decide)]; exact n4 j hj
          · rw [q2, b5]
        have hm := P1.1
        have ep : Mo_passed 67 0 τ1 = some (nI (pst (σ1 34) m 120 0), τ1) := m_pass P1 (k := 0) (by omega)
        have ec0 : Program_pastLabels 33 0 σ1 = some (nI (pst (σ1 34) m 120 0), σ1) := c_pastL P1.2.1 hm (q := 0) (by omega)
        have S1 : WS m T pl (s2 σ1 65 3 (nI (pst (σ1 34) m 120 0))) (s2 τ1 67 62 (nI (pst (σ1 34) m 120 0))) := by
          refine ⟨wb_e W1 (fun c hc => s2_ne (by omega)) (fun c hc => s2_ne hc) (fun j hj => by rw [s2_row, upd_ne (by omega)]) (fx_f (by omega)), ?_, ?_⟩
          · simp only [s2_ne, s2_at, up_ne, up_at, ne_eq, not_false_eq_true, not_true_eq_false, if_true, if_false, Nat.reduceEqDiff, Nat.reduceLT, true_or, or_true, reduceIte]; exact pos_pst hm (by omega)
          · simp only [s2_ne, s2_at, up_ne, up_at, ne_eq, not_false_eq_true, not_true_eq_false, if_true, if_false, Nat.reduceEqDiff, Nat.reduceLT, true_or, or_true, reduceIte]
        obtain ⟨a, σ2, τ2, y1, y2, W2, X2, y3, y4, y5⟩ := wk_loop k hk k 0 FU FU _ _ (by omega) (FU_big (by omega)) (by have : FU = 20000 := rfl; omega) S1 (by rw [s2_ne (by decide)]; exact q2)
        have ec : Walker_goOn 65 (nI k) σ1 = some (a, σ2) := by
          unfold Walker_goOn
          rw [cc_65_0, ec0, cl_of, nm_of]
          exact y1
        have er : Mo_walk_B30 67 (nI k) 67 0 0 τ = some (a, τ2) := by
          unfold Mo_walk_B30
          rw [th_00, cl_of, if_pos rfl, em, cv_of, ep, cl_of, nm_of]
          exact y2
        rw [e1, cv_of, ec, cl_of, er]
        have fr := fr_Walker_goOn (P := fun c => c = 65 ∨ c = 66 ∨ c = 58 ∨ c = 59 ∨ c = 60 ∨ c = 61 ∨ c = 63) (by decide) (by decide) (by decide) (by decide) (by decide) (by decide) (by decide) ec
        have cc : ∀ c, c ≠ 65 → c ≠ 66 → c ≠ 58 → c ≠ 59 → c ≠ 60 → c ≠ 61 → c ≠ 62 → c ≠ 63 → σ2 c = σ c := fun c x1 x2 x3 x4 x5 x6 x7 x8 => by
          exact (fr c (by simp [x1, x2, x3, x4, x5, x6, x8])).trans (gc c x3 x4 x5 x6 x7)
        have XX := fx_tr X1 (fx_tr (fx_f (k := 62) (v := nI (pst (σ1 34) m 120 0)) (by omega)) X2)
        have tc' : ∀ c, c ≠ 67 → c ≠ 87 → (c < 88 ∨ 95 < c) → τ2 c = τ c := fun c h1 h2 h3 => by rw [XX.1 c h1 h3, s2_ne h2, s2_ne h1, s2_ne h1]
        have tf : ∀ j, j ≠ 0 → j ≠ 39 → j ≠ 40 → j ≠ 41 → j ≠ 42 → (j < 43 ∨ 62 < j ∨ j = 55) → τ2 67 j = τ 67 j := fun j h0 h1 h2 h3 h4 h5 => by rw [XX.2.1 j h1 h2 h3 h4 h5, s2_ne (by decide), s2_row, upd_ne h4, s2_row, upd_ne h0]
        have t87 : τ2 87 = upd (τ 87) 1 1 := by rw [XX.1 87 (by decide) (by decide), s2_row, s2_ne (by decide), s2_ne (by decide)]
        have t39 : τ2 67 39 = τ 67 39 := by rw [XX.2.2.2.2.2.2.2.2 rfl, s2_ne (by decide), s2_row, upd_ne (by decide), s2_row, upd_ne (by decide)]
        have up : ∀ c, c = 88 ∨ c = 89 ∨ c = 90 ∨ c = 91 ∨ c = 92 ∨ c = 93 ∨ c = 94 ∨ c = 95 → (s2 (s2 (s2 τ 67 0 0) 67 42 1) 87 1 1) c = τ c := fun c hc => by rw [s2_ne (by omega), s2_ne (by omega), s2_ne (by omega)]
        refine ⟨0, a, σ2, a, τ2, rfl, rfl, ?_, by decide, ?_, fun _ => rfl⟩
        · obtain ⟨V2, I2, P2, p2, p6, p4⟩ := W2
          obtain ⟨v1, v2, v3, v4, v5, v6, v7, v8, v9⟩ := V2
          obtain ⟨ic2, k2, oc2, u1, u2, u3, u4, u5, u6, u7, u8, u9, u10, u11⟩ := I2
          unfold R at h ⊢
          simp only [cc, tc', tf, t39, s2_ne, s2_at, up_ne, up_at, ne_eq, not_false_eq_true, not_true_eq_false, if_true, if_false, Nat.reduceEqDiff, Nat.reduceLT, true_or, or_true, reduceIte]
          refine ⟨h.1, h.2.1, h.2.2.1, h.2.2.2.1, h.2.2.2.2.1, h.2.2.2.2.2.1, ?_, ⟨?_, Or.inr p6, fun _ => ⟨fun j hj => ?_, fun j hj => ?_, fun j hj => ?_, ⟨oc2, u3, u8, u9, u11⟩, y5, p2, ?_⟩⟩, fun _ => ⟨p4, v6 rfl⟩, v5⟩
          · obtain ⟨⟨w1, w2, w3⟩, w4, w5⟩ := h.2.2.2.2.2.2.1
            refine ⟨⟨?_, w2, fun hh => ?_⟩, w4, w5⟩
            · rw [t87, upd_ne (by decide)]; exact w1
            · obtain ⟨x1, x2, x3, ⟨nn, x4, x5, x6, x7⟩, x8, x9, x10⟩ := w3 hh
              refine ⟨fun j hj => ?_, fun j hj => ?_, fun j hj => ?_, ⟨nn, x4, x5, ?_, fun j hj => ?_⟩, ?_, ?_, ?_⟩
              · rw [XX.2.2.1 _ (by omega), up 88 (by simp)]; exact x1 j hj
              · rw [XX.2.2.2.1 _ (by omega), up 89 (by simp)]; exact x2 j hj
              · rw [XX.2.2.2.2.1 _ (by omega), up 90 (by simp)]; exact x3 j hj
              · rw [(XX.2.2.2.2.2.2.1 0 (by decide)).1, up 92 (by simp)]; exact x6
              · rw [XX.2.2.2.2.2.1 _ (by omega), up 91 (by simp)]; exact x7 j hj
              · rw [(XX.2.2.2.2.2.2.1 0 (by decide)).2.1, up 93 (by simp)]; exact x8
              · rw [(XX.2.2.2.2.2.2.1 0 (by decide)).2.2.1, up 94 (by simp)]; exact x9
              · rw [(XX.2.2.2.2.2.2.1 0 (by decide)).2.2.2, up 95 (by simp)]; exact x10
          · rw [p6, t87, upd_s]
          · exact v1 j hj
          · exact v2 j hj
          · exact v3 j hj
          · rw [y3, y4]
        · rw [XX.2.1 0 (by decide) (by decide) (by decide) (by decide) (by decide), s2_ne (by decide), s2_row, upd_ne (by decide), s2_row, upd_s]; rfl
      · rw [if_neg c2, if_neg c2]
        exact ⟨3, 0, _, _, _, rfl, rfl, R_th h, by decide, by rw [s2_row, upd_s]; rfl, fun h => absurd h (by decide)⟩
