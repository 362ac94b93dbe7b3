/-- one call that may throw, on both sides: 0 it answers, 1 and 2 the first sort, 3 the second -/
abbrev tc (j : Nat) : Int32 := if j = 0 then 0 else if j = 3 then 2 else 1
def TT (F : St → Option ((Nat × Int32) × St)) (G : St → Option (Int32 × St)) : Prop := ∀ σ τ, R σ τ → ∃ j v σ' b τ', F σ = some ((j, v), σ') ∧ G τ = some (b, τ') ∧ R σ' τ' ∧ j < 4 ∧ τ' 67 0 = tc j ∧ (j = 0 → v = b)
theorem th_eq (a b : Int32) (τ : St) : Mo_throwing 67 a b τ = some (if a = 0 ∧ b = 0 then 0 else 1, s2 τ 67 0 (if a = 0 then (if b = 0 then 0 else 2) else 1)) := by
  unfold Mo_throwing
  by_cases c1 : a = 0
  · by_cases c2 : b = 0
    · simp only [c1, c2, nm_of, s2_ne, s2_at, up_ne, up_at, ne_eq, not_false_eq_true, not_true_eq_false, if_true, if_false, Nat.reduceEqDiff, Nat.reduceLT, true_or, or_true, reduceIte, and_self, show (0 : Int32) ≤ 0 by decide]
    · simp only [c1, c2, nm_of, s2_ne, s2_at, up_ne, up_at, ne_eq, not_false_eq_true, not_true_eq_false, if_true, if_false, Nat.reduceEqDiff, Nat.reduceLT, true_or, or_true, reduceIte, and_false, show ¬ (2 : Int32) ≤ 0 by decide]
  · simp only [c1, nm_of, s2_ne, s2_at, up_ne, up_at, ne_eq, not_false_eq_true, not_true_eq_false, if_true, if_false, Nat.reduceEqDiff, Nat.reduceLT, true_or, or_true, reduceIte, false_and, show ¬ (1 : Int32) ≤ 0 by decide]
section
variable {w M B C D F : Nat} {tw : Int32} {σ τ : St}
theorem mc_data (hw : w < 2) (htw : nI w = tw) (hB : ch M 8 = B) {fl rg ou x1 x2 x3 x4 x5 x6 x7 : Nat → Int32} (h : Rmach w (σ M) fl rg (σ B) ou (τ 87) x1 x2 (τ 90) x3 x4 x5 x6 x7) (a : Int32) : ∃ v, House_data_B15 a M σ = some (v, σ) ∧ Mo_data_B14 67 a tw τ = some (v, τ) := by
  subst htw
  obtain ⟨h1, h2, h3⟩ := h
  unfold House_data_B15 Mo_data_B14 Machine_byteAt
  rw [cc_67_30, cc_67_33, ld_nI hw (by decide), ← h1, hB]
  rcases h2 with c | c
  · rw [if_pos c, if_pos c]; exact ⟨_, rfl, rfl⟩
  · rw [if_neg (show ¬ σ M 6 = 0 by rw [c]; decide), if_neg (show ¬ σ M 6 = 0 by rw [c]; decide)]
    by_cases c1 : a < 0
    · rw [if_pos c1, if_pos c1]; exact ⟨_, rfl, rfl⟩
    · rw [if_neg c1, if_neg c1]
      by_cases c2 : a < 1024
      · obtain ⟨j, hj, rfl⟩ := to_nI (m := 1024) c1 1024 rfl (by decide) c2
        rw [if_pos c2, if_neg (lf_nle 1024 1024 j rfl hj (by decide)), ld_nI hj (by decide), cl_of, show (1024 : Int32) * nI w + nI j = nI (1024 * w + j) by rw [show (1024 : Int32) = nI 1024 from rfl, nI_mul, nI_add], ld_nI (by omega) (by decide), (h3 c).2.2.1 j hj]
        exact ⟨_, rfl, rfl⟩
      · rw [if_neg c2, if_pos (by rw [le_nlt]; exact c2)]; exact ⟨_, rfl, rfl⟩
theorem mc_output (hw : w < 2) (htw : nI w = tw) (hB : ch M 12 = B) {fl rg by1 x1 x2 x3 x5 x6 x7 : Nat → Int32} (h : Rmach w (σ M) fl rg by1 (σ B) (τ 87) x1 x2 x3 (τ 91) (τ 92) x5 x6 x7) (a : Int32) : ∃ j v b, House_output_B15 a M σ = some ((j, v), σ) ∧ Mo_output_B9 67 a tw τ = some (b, s2 τ 67 0 (tc j)) ∧ j < 4 ∧ (j = 0 → v = b) := by
  subst htw
  obtain ⟨h1, h2, h3⟩ := h
  unfold House_output_B15 Mo_output_B9 Mo_output_B39 Machine_outputAt
  rw [cc_67_30, cc_67_35, cc_67_34, ld_nI hw (by decide), ld_nI hw (by decide), ← h1, hB]
  simp only [th_eq, cl_of]
  rcases h2 with c | c
  · rw [if_pos c, if_pos c]; exact ⟨1, 0, _, rfl, rfl, by decide, fun h => absurd h (by decide)⟩
  · rw [if_neg (show ¬ σ M 6 = 0 by rw [c]; decide), if_neg (show ¬ σ M 6 = 0 by rw [c]; decide)]
    obtain ⟨_, _, _, ⟨n, n1, n2, n3, n4⟩, _⟩ := h3 c
    rw [n3]
    have hH : Machine_hasOutput M a σ = some (if a < 0 then 0 else if nI n ≤ a then 0 else 1, σ) := by
      unfold Machine_hasOutput
      rw [n2]
      by_cases c1 : a < 0
      · rw [if_pos c1, if_pos c1]
      · rw [if_neg c1, if_neg c1]
        by_cases c2 : nI n ≤ a
        · rw [if_pos c2, if_pos c2]
        · rw [if_neg c2, if_neg c2, if_neg]
          intro k
          refine c2 ?_
          have k1 := Int32.le_iff_toInt_le.mp k
          refine Int32.le_iff_toInt_le.mpr ?_
          rw [nI_toInt (by omega)]
          have e : (100 : Int32).toInt = 100 := rfl
          omega
    rw [hH]
    by_cases c1 : a < 0
    · simp only [c1, if_true, cl_of]; exact ⟨1, 0, _, rfl, rfl, by decide, fun h => absurd h (by decide)⟩
    · by_cases c2 : a < nI n
      · obtain ⟨j, hj, rfl⟩ := nI_of c1
        have hjn := (nI_ltI hj (by omega)).mp c2
        have c3 : ¬ nI n ≤ nI j := by rw [le_nlt]; exact not_not_intro c2
        simp only [c1, c2, c3, if_true, if_false, cl_of]
        rw [if_pos (by decide), hH]
        simp only [c1, c3, if_false, cl_of]
        rw [if_neg (by decide), ld_nI (by omega) (by decide), cl_of, if_pos (by decide), show (100 : Int32) * nI w + nI j = nI (100 * w + j) by rw [show (100 : Int32) = nI 100 from rfl, nI_mul, nI_add], ld_nI (by omega) (by decide), s2_ne (by decide), n4 j hjn]
        exact ⟨0, _, _, rfl, rfl, by decide, fun _ => rfl⟩
      · have c3 : nI n ≤ a := by rw [le_nlt]; exact c2
        simp only [c1, c2, c3, if_true, if_false, cl_of]; exact ⟨1, 0, _, rfl, rfl, by decide, fun h => absurd h (by decide)⟩
theorem th_00 (τ : St) : Mo_throwing 67 0 0 τ = some (0, s2 τ 67 0 0) := th_eq 0 0 τ
theorem th_10 (τ : St) : Mo_throwing 67 1 0 τ = some (1, s2 τ 67 0 1) := th_eq 1 0 τ
theorem th_01 (τ : St) : Mo_throwing 67 0 1 τ = some (1, s2 τ 67 0 2) := th_eq 0 1 τ
theorem th_11 (τ : St) : Mo_throwing 67 1 1 τ = some (1, s2 τ 67 0 1) := th_eq 1 1 τ
/-- the parts of a RUN or WALK -/
theorem mc_part (hw : w < 2) {v1 : Int32} (hv : v1 = 0 ↔ w = 0) (hB : ch M 7 = B) (hC : ch M 0 = C) {by1 ou : Nat → Int32} (h : Rmach w (σ M) (σ C) (σ B) by1 ou (τ 87) (τ 88) (τ 89) (τ 90) (τ 91) (τ 92) (τ 93) (τ 94) (τ 95)) (c : σ M 6 = 1)
    (e16 : σ M 4 = if w = 0 then τ 67 39 else 0) (e17 : (if σ M 5 = 0 then (0 : Int32) else 1) = if w = 0 then 0 else if τ 67 40 = 0 then 0 else 1) (j : Nat) (hj : j ≤ 17) : ∃ v, Machine_part M (nI j) σ = some (v, σ) ∧ Mo_state_B35 67 v1 (nI j) (nI w) 67 0 τ = some (v, s2 τ 67 0 0) := by
  obtain ⟨g1, g2, g3, ⟨n, n1, n2, n3, n4⟩, g5, g6, g7⟩ := h.2.2 c
  have w12 : ∀ k, k < 4 → ((4 : Int32) * nI w + nI (8 + k)) - 8 = nI (4 * w + k) := by
    intro k hk
    rw [show (4 : Int32) = nI 4 from rfl, nI_mul, nI_add, show (8 : Int32) = nI 8 from rfl, nI_sub (by omega) (by omega)]
    congr 1; omega
  have fl : ∀ k, k < 4 → (s2 τ 67 0 0) 89 (4 * w + k) = σ C k := fun k hk => by rw [s2_ne (by decide), g2 k hk]
  unfold Machine_part Mo_state_B35
  rw [th_00, cl_of, if_pos rfl, cc_67_31, cc_67_32, cc_67_35, cc_67_36, cc_67_37, cc_67_38, hC]
  by_cases j8 : j < 8
  · have nk : ∀ m, m < 8 → ¬ nI m = 8 ∧ ¬ nI m = 9 ∧ ¬ nI m = 10 ∧ ¬ nI m = 11 ∧ ¬ nI m = 12 ∧ ¬ nI m = 13 ∧ ¬ nI m = 14 ∧ ¬ nI m = 15 ∧ ¬ nI m = 16 ∧ ¬ nI m = 17 := by decide +kernel
    obtain ⟨a8, a9, a10, a11, a12, a13, a14, a15, a16, a17⟩ := nk j j8
    have reg : Machine_registerAt M (nI j) σ = some (σ B j, σ) := by
      unfold Machine_registerAt House_isRegister
      rw [if_neg (nI_pos (by omega)), if_neg (lf_nle 8 8 j rfl j8 (by decide)), cl_of, if_neg (by decide), hB, ld_nI j8 (by decide)]
    rw [if_neg a8, if_neg a9, if_neg a10, if_neg a11, if_neg a12, if_neg a13, if_neg a14, if_neg a15, if_neg a16, if_neg a17, reg, cl_of, if_neg (lf_nle 8 8 j rfl j8 (by decide)), show (8 : Int32) * nI w + nI j = nI (8 * w + j) by rw [show (8 : Int32) = nI 8 from rfl, nI_mul, nI_add], ld_nI (by omega) (by decide), s2_ne (by decide), g1 j j8]
    exact ⟨_, rfl, rfl⟩
  · have l2 : ∀ (cell : Nat) (f : Int32 → Option (Int32 × St)), ld (s2 τ 67 0 0) cell 2 (nI w) f = f (s2 τ 67 0 0 cell w) := fun cell f => ld_nI hw (by decide)
    have l8 : ∀ (k : Nat) (f : Int32 → Option (Int32 × St)), k < 4 → ld (s2 τ 67 0 0) 89 8 (nI (4 * w + k)) f = f (σ C k) := fun k f hk => by rw [ld_nI (by omega) (by decide), fl k hk]
    obtain e | e | e | e | e | e | e | e | e | e : j = 8 ∨ j = 9 ∨ j = 10 ∨ j = 11 ∨ j = 12 ∨ j = 13 ∨ j = 14 ∨ j = 15 ∨ j = 16 ∨ j = 17 := by omega
    · subst e; rw [w12 0 (by decide), l8 0 _ (by decide)]; exact ⟨_, rfl, rfl⟩
    · subst e; rw [w12 1 (by decide), l8 1 _ (by decide)]; exact ⟨_, rfl, rfl⟩
    · subst e; rw [w12 2 (by decide), l8 2 _ (by decide)]; exact ⟨_, rfl, rfl⟩
    · subst e; rw [w12 3 (by decide), l8 3 _ (by decide)]; exact ⟨_, rfl, rfl⟩
    · subst e; rw [l2 93, s2_ne (by decide), ← g5]; exact ⟨_, rfl, rfl⟩
    · subst e; rw [l2 94, s2_ne (by decide), ← g6]; exact ⟨_, rfl, rfl⟩
    · subst e; rw [l2 95, s2_ne (by decide), ← g7]; exact ⟨_, rfl, rfl⟩
    · subst e; rw [l2 92, s2_ne (by decide), n3, n2]; exact ⟨_, rfl, rfl⟩
    · subst e
      have q : (s2 τ 67 0 0) 67 39 = τ 67 39 := by rw [s2_row, upd_at, if_neg (by decide)]
      rw [q]
      by_cases cw : w = 0
      · rw [if_pos cw] at e16
        rw [if_pos (hv.mpr cw), e16]; exact ⟨_, rfl, rfl⟩
      · rw [if_neg cw] at e16
        rw [if_neg (fun h => cw (hv.mp h)), e16]; exact ⟨_, rfl, rfl⟩
    · subst e
      have q : (s2 τ 67 0 0) 67 40 = τ 67 40 := by rw [s2_row, upd_at, if_neg (by decide)]
      rw [q]
      refine ⟨if σ M 5 = 0 then 0 else 1, ?_, ?_⟩
      · show (if σ M 5 = 0 then some (0, σ) else some (1, σ)) = _
        split <;> rfl
      · rw [e17]
        show (if v1 = 0 then some (0, s2 τ 67 0 0) else if τ 67 40 = 0 then some (0, s2 τ 67 0 0) else some (1, s2 τ 67 0 0)) = _
        by_cases cw : w = 0
        · rw [if_pos cw, if_pos (hv.mpr cw)]
        · rw [if_neg cw, if_neg (fun h => cw (hv.mp h))]
          split <;> rfl
theorem mc_state (hw : w < 2) (htw : nI w = tw) {v1 : Int32} (hv : v1 = 0 ↔ w = 0) (hB : ch M 7 = B) (hC : ch M 0 = C) {by1 ou : Nat → Int32} (h : Rmach w (σ M) (σ C) (σ B) by1 ou (τ 87) (τ 88) (τ 89) (τ 90) (τ 91) (τ 92) (τ 93) (τ 94) (τ 95))
    (h16 : σ M 6 = 1 → σ M 4 = if w = 0 then τ 67 39 else 0) (h17 : σ M 6 = 1 → (if σ M 5 = 0 then (0 : Int32) else 1) = if w = 0 then 0 else if τ 67 40 = 0 then 0 else 1) (a : Int32) : ∃ j v b, House_state_B15 a M σ = some ((j, v), σ) ∧ Mo_state_B9 67 v1 a tw τ = some (b, s2 τ 67 0 (tc j)) ∧ j < 4 ∧ (j = 0 → v = b) := by
  subst htw
  unfold House_state_B15 Mo_state_B9
  rw [cc_67_30, ld_nI hw (by decide), ← h.1]
  have bad : Mo_state_B35 67 v1 a (nI w) 67 1 τ = some (0, s2 τ 67 0 (tc 1)) := by
    unfold Mo_state_B35; rw [th_10, cl_of, if_neg (by decide)]; rfl
  rw [bad]
  rcases h.2.1 with c | c
  · rw [if_pos c, if_pos c]; exact ⟨1, 0, _, rfl, rfl, by decide, fun h => absurd h (by decide)⟩
  · rw [if_neg (show ¬ σ M 6 = 0 by rw [c]; decide), if_neg (show ¬ σ M 6 = 0 by rw [c]; decide)]
    by_cases c1 : a < 0
    · rw [if_pos c1, if_pos c1]; exact ⟨1, 0, _, rfl, rfl, by decide, fun h => absurd h (by decide)⟩
    · rw [if_neg c1, if_neg c1]
      by_cases c2 : a ≤ 17
      · obtain ⟨j, hj, rfl⟩ := nI_of2 (n := 17) rfl c1 c2
        obtain ⟨v, q1, q2⟩ := mc_part hw hv hB hC h c (h16 c) (h17 c) j hj
        rw [if_pos c2, if_pos c2, q1, q2, cl_of]
        exact ⟨0, v, v, rfl, rfl, by decide, fun _ => rfl⟩
      · rw [if_neg c2, if_neg c2]; exact ⟨1, 0, _, rfl, rfl, by decide, fun h => absurd h (by decide)⟩
end
theorem ts_data (w a : Int32) : TS (House_data 0 w a) (Mo_data 67 w a) := by
  intro σ τ h
  have h' := R_th h (w := 0)
  unfold House_data Mo_data
  rw [nm_of, cc_0_9, cc_0_10]
  by_cases c : w = 0
  · rw [if_pos c, if_pos c]
    obtain ⟨v, e1, e2⟩ := mc_data (w := 0) (M := 52) (by decide) rfl cc_52_8 h'.2.2.2.2.2.2.1.1 a
    exact ⟨v, _, _, e1, e2, h'⟩
  · rw [if_neg c, if_neg c]
    obtain ⟨v, e1, e2⟩ := mc_data (w := 1) (M := 58) (by decide) rfl cc_58_8 h'.2.2.2.2.2.2.2.1 a
    exact ⟨v, _, _, e1, e2, h'⟩
theorem tt_output (w a : Int32) : TT (House_output 0 w a) (Mo_output 67 w a) := by
  intro σ τ h
  unfold House_output Mo_output
  rw [cc_0_9, cc_0_10]
  by_cases c : w = 0
  · rw [if_pos c, if_pos c]
    obtain ⟨j, v, b, e1, e2, e3, e4⟩ := mc_output (w := 0) (M := 52) (by decide) rfl cc_52_12 h.2.2.2.2.2.2.1.1 a
    exact ⟨j, v, _, b, _, e1, e2, R_th h, e3, by rw [s2_row, upd_at, if_pos rfl], e4⟩
  · rw [if_neg c, if_neg c]
    obtain ⟨j, v, b, e1, e2, e3, e4⟩ := mc_output (w := 1) (M := 58) (by decide) rfl cc_58_12 h.2.2.2.2.2.2.2.1 a
    exact ⟨j, v, _, b, _, e1, e2, R_th h, e3, by rw [s2_row, upd_at, if_pos rfl], e4⟩
theorem tt_state (w a : Int32) : TT (House_state 0 w a) (Mo_state 67 w a) := by
  intro σ τ h
  obtain ⟨r1, r2, r3⟩ := h.2.2.2.2.2.2.1
  obtain ⟨w1, w2, w3⟩ := h.2.2.2.2.2.2.2
  unfold House_state Mo_state
  rw [cc_0_9, cc_0_10]
  by_cases c : w = 0
  · rw [if_pos c, if_pos c]
    obtain ⟨j, v, b, e1, e2, e3, e4⟩ := mc_state (w := 0) (M := 52) (v1 := w) (by decide) rfl (by simp [c]) cc_52_7 cc_52_0 r1 (fun _ => r2) (fun _ => by rw [r3]; rfl) a
    exact ⟨j, v, _, b, _, e1, e2, R_th h, e3, by rw [s2_row, upd_at, if_pos rfl], e4⟩
  · rw [if_neg c, if_neg c]
    obtain ⟨j, v, b, e1, e2, e3, e4⟩ := mc_state (w := 1) (M := 58) (v1 := w) (by decide) rfl (by simp [c]) cc_58_7 cc_58_0 w1 (fun k => (w2 k).1) (fun k => by rw [(w2 k).2]; rfl) a
    exact ⟨j, v, _, b, _, e1, e2, R_th h, e3, by rw [s2_row, upd_at, if_pos rfl], e4⟩
