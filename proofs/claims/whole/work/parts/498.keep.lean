/-! ===== both sides keep THE PROGRAM ===== -/
theorem m_36 : ∀ (e N k : Nat) (τ : St), 120 ≤ k + e → k ≤ 120 → e < N → (∀ j, j < k → τ 81 j = 0) → ∃ τ', Mo_build_B36 N 67 (nI k) τ = Mo_build_B57 FU 67 1 τ' ∧ (∀ c, c ≠ 81 → τ' c = τ c) ∧ ∀ j, j < 120 → τ' 81 j = 0 := by
  intro e
  induction e with
  | zero =>
    intro N k τ h1 h2 h3 h
    obtain ⟨N, rfl⟩ : ∃ n, N = n + 1 := ⟨N - 1, by omega⟩
    refine ⟨τ, ?_, fun _ _ => rfl, fun j hj => h j (by omega)⟩
    rw [Mo_build_B36, if_pos (lf_le 120 120 k rfl (by omega) (by omega))]
  | succ e ih =>
    intro N k τ h1 h2 h3 h
    obtain ⟨N, rfl⟩ : ∃ n, N = n + 1 := ⟨N - 1, by omega⟩
    by_cases c : 120 ≤ k
    · refine ⟨τ, ?_, fun _ _ => rfl, fun j hj => h j (by omega)⟩
      rw [Mo_build_B36, if_pos (lf_le 120 120 k rfl c (by omega))]
    · obtain ⟨τ', e1, e2, e3⟩ := ih N (k + 1) (s2 τ 81 k 0) (by omega) (by omega) (by omega) (fun j hj => by
        rw [s2_row, upd_at]
        by_cases q : j = k
        · rw [if_pos q]
        · rw [if_neg q]; exact h j (by omega))
      refine ⟨τ', ?_, fun c hc => by rw [e2 c hc, s2_ne hc], e3⟩
      rw [Mo_build_B36, if_neg (lf_nle 120 120 k rfl (by omega) (by decide)), cc_67_21, sa_nI (by omega) (by decide), nm_of, nI_1, e1]
/-- cells 71 .. C - 1 have ITEMS 0 .. k copied, C .. 78 ITEMS 0 .. k - 1 -/
def KpI (τ : St) (k C : Nat) (X : St) : Prop := (∀ c, ¬ (71 ≤ c ∧ c ≤ 78) → X c = τ c) ∧ (∀ c, 71 ≤ c → c ≤ 78 → c < C → X c = wrk (τ c) 120 (τ c) (k + 1)) ∧ ∀ c, 71 ≤ c → c ≤ 78 → C ≤ c → X c = wrk (τ c) 120 (τ c) k
theorem kpi_s {τ X : St} {k C : Nat} (h1 : 71 ≤ C) (h2 : C ≤ 78) (hk : k < 120) (h : KpI τ k C X) : KpI τ k (C + 1) (s2 X C (120 + k) (X C k)) := by
  obtain ⟨a1, a2, a3⟩ := h
  refine ⟨fun c hc => ?_, fun c x1 x2 x3 => ?_, fun c x1 x2 x3 => ?_⟩
  · rw [s2_ne (fun e => hc (by omega))]; exact a1 c hc
  · by_cases e : c = C
    · subst e
      rw [s2_row, a3 c h1 h2 (Nat.le_refl _), ← wrk_s]
      congr 1
      unfold wrk
      rw [if_neg (by omega)]
    · rw [s2_ne e]; exact a2 c x1 x2 (by omega)
  · rw [s2_ne (by omega)]; exact a3 c x1 x2 (by omega)
theorem kpi_n {τ X : St} {k : Nat} (h : KpI τ k 79 X) : KpI τ (k + 1) 71 X := ⟨h.1, fun c x1 _ x3 => by omega, fun c x1 x2 _ => h.2.1 c x1 x2 (by omega)⟩
def KlI (τ : St) (k : Nat) (X : St) : Prop := (∀ c, c ≠ 79 → c ≠ 80 → X c = τ c) ∧ X 79 = wrk (τ 79) 40 (τ 79) k ∧ X 80 = wrk (τ 80) 40 (τ 80) k
theorem kli_s {τ X : St} {k : Nat} (hk : k < 40) (h : KlI τ k X) : KlI τ (k + 1) (s2 (s2 X 80 (40 + k) (X 80 k)) 79 (40 + k) (s2 X 80 (40 + k) (X 80 k) 79 k)) := by
  obtain ⟨a1, a2, a3⟩ := h
  refine ⟨fun c x1 x2 => by rw [s2_ne x1, s2_ne x2]; exact a1 c x1 x2, ?_, ?_⟩
  · rw [s2_row, s2_ne (by decide), a2, ← wrk_s]
    congr 1
    unfold wrk
    rw [if_neg (by omega)]
  · rw [s2_ne (by decide), s2_row, a3, ← wrk_s]
    congr 1
    unfold wrk
    rw [if_neg (by omega)]
def KpO (m : Nat) (τ τ' : St) : Prop := (∀ c, c ≠ 67 → ¬ (71 ≤ c ∧ c ≤ 80) → τ' c = τ c) ∧ (∀ c, 71 ≤ c → c ≤ 78 → τ' c = wrk (τ c) 120 (τ c) m) ∧ τ' 79 = wrk (τ 79) 40 (τ 79) 40 ∧ τ' 80 = wrk (τ 80) 40 (τ 80) 40 ∧ τ' 67 55 = τ 67 22 ∧ ∀ j, j ≠ 55 → τ' 67 j = τ 67 j
theorem m_kp151 {τ0 τ : St} {m : Nat} (h : KpI τ0 m 71 τ) : ∀ (e N k : Nat) (X : St), 40 ≤ k + e → k ≤ 40 → e < N → KlI τ k X → wv (Mo_keepProgram_B151 N 67 (nI k) X) (KpO m τ0) := by
  have fin : ∀ X, KlI τ 40 X → wv (nm (s2 X 67 55 (X 67 22)) fun σ1 => some σ1) (KpO m τ0) := by
    intro X hX
    obtain ⟨a1, a2, a3⟩ := hX
    rw [nm_of]
    refine wv_some.mpr ⟨fun c x1 x2 => ?_, fun c x1 x2 => ?_, ?_, ?_, ?_, fun j hj => ?_⟩
    · rw [s2_ne x1, a1 c (by omega) (by omega), h.1 c (by omega)]
    · rw [s2_ne (by omega), a1 c (by omega) (by omega), h.2.2 c x1 x2 x1]
    · rw [s2_ne (by decide), a2, h.1 79 (by decide)]
    · rw [s2_ne (by decide), a3, h.1 80 (by decide)]
    · rw [s2_row, upd_s, a1 67 (by decide) (by decide), h.1 67 (by decide)]
    · rw [s2_row, upd_ne hj, a1 67 (by decide) (by decide), h.1 67 (by decide)]
  intro e
  induction e with
  | zero =>
    intro N k X h1 h2 h3 hX
    obtain ⟨N, rfl⟩ : ∃ n, N = n + 1 := ⟨N - 1, by omega⟩
    have ek : k = 40 := by omega
    subst ek
    rw [Mo_keepProgram_B151, if_pos (lf_le 40 40 40 rfl (by omega) (by omega))]
    exact fin X hX
  | succ e ih =>
    intro N k X h1 h2 h3 hX
    obtain ⟨N, rfl⟩ : ∃ n, N = n + 1 := ⟨N - 1, by omega⟩
    rw [Mo_keepProgram_B151]
    by_cases c : k < 40
    · rw [if_neg (lf_nle 40 40 k rfl c (by decide)), cc_67_20, cc_67_19, show (40 : Int32) + nI k = nI (40 + k) from nI_add 40 k, ld_nI (by omega) (by decide), sa_nI (by omega) (by decide), ld_nI (by omega) (by decide), sa_nI (by omega) (by decide), nm_of, nI_1]
      exact ih N (k + 1) _ (by omega) (by omega) (by omega) (kli_s c hX)
    · have ek : k = 40 := by omega
      subst ek
      rw [if_pos (lf_le 40 40 40 rfl (by omega) (by omega))]
      exact fin X hX
theorem m_kp15 {τ0 : St} {m : Nat} (hm : m ≤ 120) (h8 : τ0 67 8 = nI m) : ∀ (e N k : Nat) (X : St), m ≤ k + e → k ≤ m → e < N → KpI τ0 k 71 X → wv (Mo_keepProgram_B15 N 67 (nI k) X) (KpO m τ0) := by
  have fin : ∀ X, KpI τ0 m 71 X → wv (Mo_keepProgram_B151 FU 67 0 X) (KpO m τ0) := fun X hX => m_kp151 hX 40 FU 0 X (by omega) (by omega) (FU_big (by omega)) ⟨fun _ _ _ => rfl, by rw [wrk_0], by rw [wrk_0]⟩
  intro e
  induction e with
  | zero =>
    intro N k X h1 h2 h3 hX
    obtain ⟨N, rfl⟩ : ∃ n, N = n + 1 := ⟨N - 1, by omega⟩
    have ek : k = m := by omega
    subst ek
    rw [Mo_keepProgram_B15, hX.1 67 (by decide), h8, if_pos ((nI_le' (by omega) (by omega)).mpr (Nat.le_refl _))]
    exact fin X hX
  | succ e ih =>
    intro N k X h1 h2 h3 hX
    obtain ⟨N, rfl⟩ : ∃ n, N = n + 1 := ⟨N - 1, by omega⟩
    rw [Mo_keepProgram_B15, hX.1 67 (by decide), h8]
    by_cases c : k < m
    · have hk : k < 120 := by omega
      rw [if_neg (fun y => absurd ((nI_le' (by omega) (by omega)).mp y) (by omega)), cc_67_11, cc_67_12, cc_67_13, cc_67_14, cc_67_15, cc_67_16, cc_67_17, cc_67_18, show (120 : Int32) + nI k = nI (120 + k) from nI_add 120 k, ld_nI (by omega) (by decide), sa_nI (by omega) (by decide), ld_nI (by omega) (by decide), sa_nI (by omega) (by decide), ld_nI (by omega) (by decide), sa_nI (by omega) (by decide), ld_nI (by omega) (by decide), sa_nI (by omega) (by decide), ld_nI (by omega) (by decide), sa_nI (by omega) (by decide), ld_nI (by omega) (by decide), sa_nI (by omega) (by decide), ld_nI (by omega) (by decide), sa_nI (by omega) (by decide), ld_nI (by omega) (by decide), sa_nI (by omega) (by decide), nm_of, nI_1]
      exact ih N (k + 1) _ (by omega) (by omega) (by omega) (kpi_n (kpi_s (C := 78) (by decide) (by decide) hk (kpi_s (C := 77) (by decide) (by decide) hk (kpi_s (C := 76) (by decide) (by decide) hk (kpi_s (C := 75) (by decide) (by decide) hk (kpi_s (C := 74) (by decide) (by decide) hk (kpi_s (C := 73) (by decide) (by decide) hk (kpi_s (C := 72) (by decide) (by decide) hk (kpi_s (C := 71) (by decide) (by decide) hk hX)))))))))
    · have ek : k = m := by omega
      subst ek
      rw [if_pos ((nI_le' (by omega) (by omega)).mpr (Nat.le_refl _))]
      exact fin X hX
theorem m_keep {τ : St} {m : Nat} (hm : m ≤ 120) (h8 : τ 67 8 = nI m) : wv (Mo_keepProgram 67 τ) (fun τ' => (∀ c, c ≠ 67 → ¬ (71 ≤ c ∧ c ≤ 80) → τ' c = τ c) ∧ (∀ c, 71 ≤ c → c ≤ 78 → τ' c = wrk (τ c) 120 (τ c) m) ∧ τ' 79 = wrk (τ 79) 40 (τ 79) 40 ∧ τ' 80 = wrk (τ 80) 40 (τ 80) 40 ∧ τ' 67 10 = 1 ∧ τ' 67 9 = nI m ∧ τ' 67 55 = τ 67 22 ∧ ∀ j, j ≠ 9 → j ≠ 10 → j ≠ 55 → τ' 67 j = τ 67 j) := by
  unfold Mo_keepProgram
  rw [nm_of, nm_of]
  have e8 : s2 τ 67 10 1 67 8 = nI m := by rw [s2_row, upd_ne (by decide)]; exact h8
  rw [e8]
  refine wv_mono (m_kp15 (τ0 := s2 (s2 τ 67 10 1) 67 9 (nI m)) hm (by rw [s2_row, upd_ne (by decide)]; exact e8) m FU 0 _ (by omega) (by omega) (FU_big (by omega)) ⟨fun _ _ => rfl, fun c _ _ _ => by omega, fun c _ _ _ => by rw [wrk_0]⟩) fun τ' hh => ?_
  obtain ⟨a1, a2, a3, a4, a5, a6⟩ := hh
  have o : ∀ c, c ≠ 67 → s2 (s2 τ 67 10 1) 67 9 (nI m) c = τ c := fun c hc => by rw [s2_ne hc, s2_ne hc]
  refine ⟨fun c x1 x2 => by rw [a1 c x1 x2, o c x1], fun c x1 x2 => by rw [a2 c x1 x2, o c (by omega)], by rw [a3, o 79 (by decide)], by rw [a4, o 80 (by decide)], ?_, ?_, ?_, fun j x1 x2 x3 => ?_⟩
  · rw [a6 10 (by decide), s2_row, upd_ne (by decide), s2_row, upd_s]
  · rw [a6 9 (by decide), s2_row, upd_s]
  · rw [a5, s2_row, upd_ne (by decide), s2_row, upd_ne (by decide)]
  · rw [a6 j x3, s2_row, upd_ne x1, s2_row, upd_ne x2]
theorem c_copy {σ : St} : wv (Program_copyFrom 33 15 σ) (fun σ' => (∀ c, (c < 33 ∨ 45 < c) → σ' c = σ c) ∧ σ' 33 4 = σ 15 4 ∧ σ' 33 5 = σ 15 5 ∧ (∀ j, j < 120 → σ' 34 j = σ 16 j ∧ σ' 35 j = σ 17 j ∧ σ' 36 j = σ 18 j ∧ σ' 37 j = σ 19 j ∧ σ' 38 j = σ 20 j ∧ σ' 39 j = σ 21 j ∧ σ' 40 j = σ 22 j ∧ σ' 41 j = σ 23 j ∧ σ' 42 j = σ 24 j ∧ σ' 43 j = σ 25 j) ∧ (∀ j, j < 40 → σ' 44 j = σ 26 j) ∧ ∀ j, j < 64 → σ' 45 j = σ 27 j) := by
  unfold Program_copyFrom
  rw [cc_33_0, cc_33_1, cc_33_2, cc_33_3, cc_33_6, cc_33_7, cc_33_8, cc_33_9, cc_33_10, cc_33_11, cc_33_12, cc_33_13, cc_15_0, cc_15_1, cc_15_2, cc_15_3, cc_15_6, cc_15_7, cc_15_8, cc_15_9, cc_15_10, cc_15_11, cc_15_12, cc_15_13, cp_full 120 120 rfl (by decide), cp_full 120 120 rfl (by decide), cp_full 120 120 rfl (by decide), cp_full 120 120 rfl (by decide), cp_full 120 120 rfl (by decide), cp_full 120 120 rfl (by decide), cp_full 120 120 rfl (by decide), cp_full 120 120 rfl (by decide), cp_full 120 120 rfl (by decide), cp_full 120 120 rfl (by decide), cp_full 40 40 rfl (by decide), cp_full 64 64 rfl (by decide), nm_of, nm_of]
  refine wv_some.mpr ⟨fun c hc => ?_, ?_, ?_, fun j hj => ?_, fun j hj => ?_, fun j hj => ?_⟩
  · rw [s2_ne (by omega), s2_ne (by omega), up_ne (by omega), up_ne (by omega), up_ne (by omega), up_ne (by omega), up_ne (by omega), up_ne (by omega), up_ne (by omega), up_ne (by omega), up_ne (by omega), up_ne (by omega), up_ne (by omega), up_ne (by omega)]
  · simp only [s2_ne, s2_at, up_ne, up_at, ne_eq, not_false_eq_true, not_true_eq_false, if_true, if_false, Nat.reduceEqDiff, Nat.reduceLT, true_or, or_true, reduceIte]
  · simp only [s2_ne, s2_at, up_ne, up_at, ne_eq, not_false_eq_true, not_true_eq_false, if_true, if_false, Nat.reduceEqDiff, Nat.reduceLT, true_or, or_true, reduceIte]
  · simp only [s2_ne, s2_at, up_ne, up_at, ne_eq, not_false_eq_true, not_true_eq_false, if_true, if_false, Nat.reduceEqDiff, Nat.reduceLT, true_or, or_true, reduceIte, hj, and_self]
  · simp only [s2_ne, s2_at, up_ne, up_at, ne_eq, not_false_eq_true, not_true_eq_false, if_true, if_false, Nat.reduceEqDiff, Nat.reduceLT, true_or, or_true, reduceIte, hj]
  · simp only [s2_ne, s2_at, up_ne, up_at, ne_eq, not_false_eq_true, not_true_eq_false, if_true, if_false, Nat.reduceEqDiff, Nat.reduceLT, true_or, or_true, reduceIte, hj]
