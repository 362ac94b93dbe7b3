theorem fg_2 : ∀ (k N p : Nat) (σ : St), 8 ≤ p + k → p ≤ 8 → k < N → wv (Machine_forget_B2 N 46 (nI p) σ) (fun τ => (∀ j, j < 8 → τ 48 j = if p ≤ j then 0 else σ 48 j) ∧ (∀ j, j < 1024 → τ 49 j = 0) ∧ τ 46 = upd (σ 46) 10 0 ∧ ∀ c, c ≠ 46 → c ≠ 48 → c ≠ 49 → τ c = σ c) := by
  have fin : ∀ (p : Nat) (σ : St), 8 ≤ p → wv (Machine_forget_B23 FU 46 0 σ) (fun τ => (∀ j, j < 8 → τ 48 j = if p ≤ j then 0 else σ 48 j) ∧ (∀ j, j < 1024 → τ 49 j = 0) ∧ τ 46 = upd (σ 46) 10 0 ∧ ∀ c, c ≠ 46 → c ≠ 48 → c ≠ 49 → τ c = σ c) := by
    intro p σ hp
    refine wv_mono (fg_23 cc_46_8 (by decide) 1024 FU 0 σ (by omega) (by omega) (FU_big (by omega))) fun τ hh => ⟨fun j hj => ?_, fun j hj => ?_, hh.2.1, fun c h1 h2 h3 => hh.2.2 c h1 h3⟩
    · rw [hh.2.2 48 (by decide) (by decide), if_neg (by omega)]
    · rw [hh.1 j hj, if_pos (by omega)]
  intro k
  induction k with
  | zero =>
    intro N p σ h1 h2 h3
    obtain ⟨N, rfl⟩ : ∃ N', N = N' + 1 := ⟨N - 1, by omega⟩
    rw [Machine_forget_B2, if_pos (lf_le 8 8 p rfl (by omega) (by omega))]
    exact fin p σ (by omega)
  | succ k ih =>
    intro N p σ h1 h2 h3
    obtain ⟨N, rfl⟩ : ∃ N', N = N' + 1 := ⟨N - 1, by omega⟩
    rw [Machine_forget_B2]
    by_cases hp : 8 ≤ p
    · rw [if_pos (lf_le 8 8 p rfl hp (by omega))]
      exact fin p σ hp
    · rw [if_neg (lf_nle 8 8 p rfl (by omega) (by decide)), cc_46_7, sa_nI (by omega) (by decide), nm_of, nI_1]
      refine wv_mono (ih N (p + 1) _ (by omega) (by omega) (by omega)) fun τ hh => ⟨fun j hj => ?_, hh.2.1, by rw [hh.2.2.1, s2_ne (by decide)], fun c h1 h2 h3 => by rw [hh.2.2.2 c h1 h2 h3, s2_ne h2]⟩
      rw [hh.1 j hj, s2_at, if_pos rfl]
      by_cases e1 : p + 1 ≤ j
      · rw [if_pos e1, if_pos (by omega)]
      · rw [if_neg e1]
        by_cases e2 : j = p
        · rw [if_pos e2, if_pos (by omega)]
        · rw [if_neg e2, if_neg (by omega)]
theorem fs_140 : ∀ (k N p : Nat) (σ : St), 8 ≤ p + k → p ≤ 8 → k < N → wp (Mo_set_B140 N 67 (nI p) σ) (fun a τ => a = 1 ∧ (∀ j, j < 8 → τ 84 j = if p ≤ j then 0 else σ 84 j) ∧ (∀ j, j < 1024 → τ 85 j = 0) ∧ τ 67 = upd (σ 67) 29 0 ∧ ∀ c, c ≠ 67 → c ≠ 84 → c ≠ 85 → τ c = σ c) := by
  have fin : ∀ (p : Nat) (σ : St), 8 ≤ p → wp (Mo_set_B164 FU 67 0 σ) (fun a τ => a = 1 ∧ (∀ j, j < 8 → τ 84 j = if p ≤ j then 0 else σ 84 j) ∧ (∀ j, j < 1024 → τ 85 j = 0) ∧ τ 67 = upd (σ 67) 29 0 ∧ ∀ c, c ≠ 67 → c ≠ 84 → c ≠ 85 → τ c = σ c) := by
    intro p σ hp
    refine wp_mono (fs_164 1024 FU 0 σ (by omega) (by omega) (FU_big (by omega))) fun a τ hh => ⟨hh.1, fun j hj => ?_, fun j hj => ?_, hh.2.2.1, fun c h1 h2 h3 => hh.2.2.2 c h1 h3⟩
    · rw [hh.2.2.2 84 (by decide) (by decide), if_neg (by omega)]
    · rw [hh.2.1 j hj, if_pos (by omega)]
  intro k
  induction k with
  | zero =>
    intro N p σ h1 h2 h3
    obtain ⟨N, rfl⟩ : ∃ N', N = N' + 1 := ⟨N - 1, by omega⟩
    rw [Mo_set_B140, if_pos (lf_le 8 8 p rfl (by omega) (by omega))]
    exact fin p σ (by omega)
  | succ k ih =>
    intro N p σ h1 h2 h3
    obtain ⟨N, rfl⟩ : ∃ N', N = N' + 1 := ⟨N - 1, by omega⟩
    rw [Mo_set_B140]
    by_cases hp : 8 ≤ p
    · rw [if_pos (lf_le 8 8 p rfl hp (by omega))]
      exact fin p σ hp
    · rw [if_neg (lf_nle 8 8 p rfl (by omega) (by decide)), cc_67_26, sa_nI (by omega) (by decide), nm_of, nI_1]
      refine wp_mono (ih N (p + 1) _ (by omega) (by omega) (by omega)) fun a τ hh => ⟨hh.1, fun j hj => ?_, hh.2.2.1, by rw [hh.2.2.2.1, s2_ne (by decide)], fun c h1 h2 h3 => by rw [hh.2.2.2.2 c h1 h2 h3, s2_ne h2]⟩
      rw [hh.2.1 j hj, s2_at, if_pos rfl]
      by_cases e1 : p + 1 ≤ j
      · rw [if_pos e1, if_pos (by omega)]
      · rw [if_neg e1]
        by_cases e2 : j = p
        · rw [if_pos e2, if_pos (by omega)]
        · rw [if_neg e2, if_neg (by omega)]
theorem ts_set (s k v : Int32) : TS (House_set 0 s k v) (Mo_set 67 s k v) := by
  intro σ τ h
  obtain ⟨f0, f1, f2, f3, n, n1, n2, n3, n4⟩ := h.2.2.2.2.2.1
  have h' := R_th h (w := 0)
  have put : ∀ σ' τ' : St, (∀ c, c ≠ 46 → c ≠ 48 → c ≠ 49 → c ≠ 50 → σ' c = σ c) → (∀ c, c ≠ 67 → c ≠ 84 → c ≠ 85 → c ≠ 86 → τ' c = τ c) → (∀ j, j ≠ 0 → j ≠ 29 → τ' 67 j = τ 67 j) → Rfirst (σ' 46 5) (σ' 46 10) (τ' 67 29) (σ' 48) (σ' 49) (σ' 50) (τ' 84) (τ' 85) (τ' 86) → R σ' τ' := by
    intro σ' τ' a1 a2 a3 a4
    unfold R at h ⊢
    simp only [a1, a2, a3, s2_ne, s2_at, up_ne, up_at, ne_eq, not_false_eq_true, not_true_eq_false, if_true, if_false, Nat.reduceEqDiff, Nat.reduceLT, true_or, or_true, reduceIte]
    exact ⟨h.1, h.2.1, h.2.2.1, h.2.2.2.1, h.2.2.2.2.1, a4, h.2.2.2.2.2.2⟩
  unfold House_set Mo_set
  rw [nm_of, cc_0_8]
  by_cases s0 : s = 0
  · rw [if_pos s0, if_pos s0, hr_eq, mr_eq, cl_of, cl_of]
    by_cases c : inR k
    · obtain ⟨j, hj, rfl⟩ := to_nI (m := 8) c.1 8 rfl (by decide) c.2
      rw [if_pos c, if_pos (by decide), if_pos (by decide)]
      unfold Machine_give
      rw [hr_eq, if_pos c, cl_of, if_neg (by decide), cc_46_7, cc_67_26, sa_nI hj (by decide), sa_nI hj (by decide), s2_ne (by decide), if_pos f0, nm_of, cv_of]
      refine ⟨_, _, _, rfl, rfl, put _ _ (fun c h1 h2 _ _ => by rw [s2_ne h1, s2_ne h2]) (fun c h1 h2 _ _ => by rw [s2_ne h2, s2_ne h1]) (fun j h1 _ => by rw [s2_ne (by decide), s2_row, upd_at, if_neg h1]) ?_⟩
      simp only [s2_ne, s2_at, up_ne, up_at, ne_eq, not_false_eq_true, not_true_eq_false, if_true, if_false, Nat.reduceEqDiff, Nat.reduceLT, true_or, or_true, reduceIte]
      refine ⟨rfl, fun i hi => ?_, f2, f3, n, n1, n2, n3, n4⟩
      simp only [s2_ne, s2_at, up_ne, up_at, ne_eq, not_false_eq_true, not_true_eq_false, if_true, if_false, Nat.reduceEqDiff, Nat.reduceLT, true_or, or_true, reduceIte]
      rw [f1 i hi]
    · rw [if_neg c, if_neg (by decide), if_neg (by decide)]
      exact ⟨_, _, _, rfl, rfl, h'⟩
  · rw [if_neg s0, if_neg s0]
    by_cases s1 : s = 1
    · rw [if_pos s1, if_pos s1, hw_eq, cl_of]
      by_cases c : inW k
      · obtain ⟨a, ha, rfl⟩ := nI_of2 (n := 1020) rfl c.1 c.2
        rw [if_pos c, if_pos (by decide), if_neg c.1, if_pos c.2, mg_word cc_46_8 ha, cv_of, show FU = 19995 + 1 + 1 + 1 + 1 + 1 from rfl, sb_w 19995 ha]
        refine ⟨_, _, _, rfl, rfl, put _ _ (fun c h1 h2 h3 _ => by rw [up_ne h3]) (fun c h1 _ h3 _ => by rw [up_ne h3, s2_ne h1]) (fun j h1 _ => by rw [up_ne (by decide), s2_row, upd_at, if_neg h1]) ?_⟩
        simp only [s2_ne, s2_at, up_ne, up_at, ne_eq, not_false_eq_true, not_true_eq_false, if_true, if_false, Nat.reduceEqDiff, Nat.reduceLT, true_or, or_true, reduceIte]
        refine ⟨f0, f1, fun i hi => ?_, fun i hi => ?_, n, n1, n2, n3, n4⟩
        · simp only [s2_ne, s2_at, up_ne, up_at, ne_eq, not_false_eq_true, not_true_eq_false, if_true, if_false, Nat.reduceEqDiff, Nat.reduceLT, true_or, or_true, reduceIte]
          have := wrw_eq (n := 1024) (o := 0) (row := σ 49) (row' := τ 85) (c := a) (fun j hj => by rw [Nat.zero_add]; exact f2 j hj) (v := v) i hi
          rw [Nat.zero_add, Nat.zero_add] at this
          exact this
        · simp only [s2_ne, s2_at, up_ne, up_at, ne_eq, not_false_eq_true, not_true_eq_false, if_true, if_false, Nat.reduceEqDiff, Nat.reduceLT, true_or, or_true, reduceIte]
          exact wrw_by f3 i hi
      · have e : (if k < 0 then some ((0 : Int32), s2 τ 67 0 0) else if k ≤ 1020 then Mo_set_B70 FU 67 k v 0 (s2 τ 67 0 0) else some (0, s2 τ 67 0 0)) = some (0, s2 τ 67 0 0) := by
          by_cases c1 : k < 0
          · rw [if_pos c1]
          · rw [if_neg c1, if_neg (fun h => c ⟨c1, h⟩)]
        rw [if_neg c, if_neg (by decide), e]
        exact ⟨_, _, _, rfl, rfl, h'⟩
    · rw [if_neg s1, if_neg s1]
      by_cases s2' : s = 2
      · have e29 : (s2 τ 67 0 0) 67 29 = nI n := by rw [s2_row, upd_at, if_neg (by decide), n3]
        rw [if_pos s2', if_pos s2']
        unfold Machine_addInput
        rw [n2, e29, cc_46_9, cc_67_28]
        by_cases c : n < 50
        · rw [if_pos (lf_lt 50 50 n rfl c (by decide)), if_pos (show ¬ nI n = 50 from fun k => absurd ((nI_inj (b := 50) (by omega) (by decide)).mp k) (by omega)), sa_nI c (by decide), sa_nI c (by decide), nm_of, nm_of, cl_of, zb_1]
          refine ⟨_, _, _, rfl, rfl, put _ _ (fun c h1 h2 h3 h4 => by rw [s2_ne h1, s2_ne h4]) (fun c h1 _ h3 h4 => by rw [s2_ne h1, s2_ne h4, s2_ne h1]) (fun j h1 h2 => by rw [s2_row, upd_at, if_neg h2, s2_ne (by decide), s2_row, upd_at, if_neg h1]) ?_⟩
          simp only [s2_ne, s2_at, up_ne, up_at, ne_eq, not_false_eq_true, not_true_eq_false, if_true, if_false, Nat.reduceEqDiff, Nat.reduceLT, true_or, or_true, reduceIte, n2, n3, nI_1]
          refine ⟨f0, f1, f2, f3, n + 1, by omega, rfl, rfl, fun i hi => ?_⟩
          simp only [s2_ne, s2_at, up_ne, up_at, ne_eq, not_false_eq_true, not_true_eq_false, if_true, if_false, Nat.reduceEqDiff, Nat.reduceLT, true_or, or_true, reduceIte]
          by_cases c3 : i = n
          · rw [if_pos c3, if_pos c3]
          · rw [if_neg c3, if_neg c3]; exact n4 i (by omega)
        · rw [if_neg (lf_nlt 50 50 n rfl (by omega) (by omega)), if_neg (not_not_intro (show nI n = 50 by rw [show n = 50 by omega]; rfl)), cl_of, zb_0]
          exact ⟨_, _, _, rfl, rfl, h'⟩
      · rw [if_neg s2', if_neg s2']
        by_cases s3 : s = 3
        · rw [if_pos s3, if_pos s3]
          unfold Machine_forget
          obtain ⟨σ1, e1, a1, a2, a3, a4⟩ := fg_2 8 FU 0 σ (by omega) (by omega) (FU_big (by omega))
          obtain ⟨b, τ1, e2, rfl, b1, b2, b3, b4⟩ := fs_140 8 FU 0 (s2 τ 67 0 0) (by omega) (by omega) (FU_big (by omega))
          rw [show Machine_forget_B2 FU 46 0 σ = some σ1 from e1, show Mo_set_B140 FU 67 0 (s2 τ 67 0 0) = some (1, τ1) from e2, cv_of]
          refine ⟨_, _, _, rfl, rfl, put _ _ (fun c h1 h2 h3 _ => a4 c h1 h2 h3) (fun c h1 h2 h3 _ => by rw [b4 c h1 h2 h3, s2_ne h1]) (fun j h1 h2 => by rw [b3, upd_at, if_neg h2, s2_row, upd_at, if_neg h1]) ?_⟩
          refine ⟨?_, fun i hi => ?_, fun i hi => ?_, fun i hi => ?_, 0, by omega, ?_, ?_, fun i hi => absurd hi (by omega)⟩
          · rw [a3, upd_at, if_neg (by decide)]; exact f0
          · rw [a1 i hi, b1 i hi, if_pos (by omega), if_pos (by omega)]
          · rw [a2 i hi, b2 i hi]
          · rw [a2 i hi]; exact ⟨by decide, by decide⟩
          · rw [a3, upd_at, if_pos rfl]; rfl
          · rw [b3, upd_at, if_pos rfl]; rfl
        · rw [if_neg s3, if_neg s3]
          exact ⟨_, _, _, rfl, rfl, h'⟩
