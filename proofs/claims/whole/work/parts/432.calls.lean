theorem ts_end (n : Int32) : TS (House_end 0 n) (Mo_end 67 n) := by
  intro σ τ h
  obtain ⟨⟨m, t1, t2, t3, t4, t5⟩, hr⟩ := h
  unfold House_end Mo_end
  simp only [nm_of, cc_0_0, t2, t3, s2_ne, s2_at, up_ne, up_at, ne_eq, not_false_eq_true, not_true_eq_false, if_true, if_false, Nat.reduceEqDiff, Nat.reduceLT, true_or, or_true, reduceIte]
  by_cases c1 : n < 0
  · rw [if_pos c1, if_pos c1]
    refine ⟨_, _, _, rfl, rfl, ?_⟩
    unfold R
    simp only [s2_ne, s2_at, up_ne, up_at, ne_eq, not_false_eq_true, not_true_eq_false, if_true, if_false, Nat.reduceEqDiff, Nat.reduceLT, true_or, or_true, reduceIte]
    exact ⟨⟨m, t1, t2, t3, t4, t5⟩, hr⟩
  · rw [if_neg c1, if_neg c1]
    by_cases c2 : n ≤ nI m
    · rw [if_pos c2, if_pos c2]
      refine ⟨_, _, _, rfl, rfl, ?_⟩
      unfold R
      simp only [s2_ne, s2_at, up_ne, up_at, ne_eq, not_false_eq_true, not_true_eq_false, if_true, if_false, Nat.reduceEqDiff, Nat.reduceLT, true_or, or_true, reduceIte]
      obtain ⟨j, hj, rfl⟩ := nI_of c1
      have := (nI_le' hj (by omega)).mp c2
      exact ⟨⟨j, by omega, rfl, rfl, fun k hk => t4 k (by omega), fun k hk => t5 k (by omega)⟩, hr⟩
    · rw [if_neg c2, if_neg c2]
      refine ⟨_, _, _, rfl, rfl, ?_⟩
      unfold R
      simp only [s2_ne, s2_at, up_ne, up_at, ne_eq, not_false_eq_true, not_true_eq_false, if_true, if_false, Nat.reduceEqDiff, Nat.reduceLT, true_or, or_true, reduceIte]
      exact ⟨⟨m, t1, t2, t3, t4, t5⟩, hr⟩
/-- R where only thrown has changed -/
theorem R_th {σ τ : St} (h : R σ τ) {w : Int32} : R σ (s2 τ 67 0 w) := by
  unfold R at h ⊢
  simp only [s2_ne, s2_at, up_ne, up_at, ne_eq, not_false_eq_true, not_true_eq_false, if_true, if_false, Nat.reduceEqDiff, Nat.reduceLT, true_or, or_true, reduceIte]
  exact h
theorem ts_fault (n : Int32) : TS (House_fault 0 n) (Mo_fault 67 n) := by
  intro σ τ h
  obtain ⟨q1, q2⟩ := h.2.1
  unfold House_fault Mo_fault
  simp only [nm_of, q1, q2, s2_ne, s2_at, up_ne, up_at, ne_eq, not_false_eq_true, not_true_eq_false, if_true, if_false, Nat.reduceEqDiff, Nat.reduceLT, true_or, or_true, reduceIte]
  by_cases c0 : n = 0
  · simp only [c0, not_true_eq_false, if_false]; exact ⟨_, _, _, rfl, rfl, R_th h⟩
  · by_cases c1 : n = 1
    · simp only [c1, not_true_eq_false, if_false]; rw [if_pos (by decide), if_pos (by decide)]; exact ⟨_, _, _, rfl, rfl, R_th h⟩
    · simp only [c0, c1, not_false_eq_true, if_true]; exact ⟨_, _, _, rfl, rfl, R_th h⟩
theorem ts_size : TS (House_size 0) (Mo_size 67) := by
  intro σ τ h
  obtain ⟨n, t1, t2, t3, _⟩ := h.2.2.1
  unfold House_size Mo_size
  simp only [nm_of, cc_0_2, t2, t3, s2_ne, s2_at, up_ne, up_at, ne_eq, not_false_eq_true, not_true_eq_false, if_true, if_false, Nat.reduceEqDiff, Nat.reduceLT, true_or, or_true, reduceIte]
  exact ⟨_, _, _, rfl, rfl, R_th h⟩
theorem ts_clear : TS (House_clear 0) (Mo_clear 67) := by
  intro σ τ h
  obtain ⟨m, t1, t2, t3, t4⟩ := h.2.2.2.1
  unfold House_clear Mo_clear
  simp only [nm_of, cc_0_5, t2, t3, s2_ne, s2_at, up_ne, up_at, ne_eq, not_false_eq_true, not_true_eq_false, if_true, if_false, Nat.reduceEqDiff, Nat.reduceLT, true_or, or_true, reduceIte]
  refine ⟨_, _, _, rfl, rfl, ?_⟩
  unfold R at h ⊢
  simp only [s2_ne, s2_at, up_ne, up_at, ne_eq, not_false_eq_true, not_true_eq_false, if_true, if_false, Nat.reduceEqDiff, Nat.reduceLT, true_or, or_true, reduceIte]
  exact ⟨h.1, h.2.1, h.2.2.1, ⟨0, by omega, rfl, rfl, fun k hk => absurd hk (by omega)⟩, h.2.2.2.2⟩
theorem ts_code (n : Int32) : TS (House_code 0 n) (Mo_code 67 n) := by
  intro σ τ h
  obtain ⟨m, t1, t2, t3, t4, t5, t6, t7⟩ := h.2.2.1
  unfold House_code Mo_code Strip_byteAt
  simp only [nm_of, cc_0_2, cc_7_0, cc_67_5, t2, t3, s2_ne, s2_at, up_ne, up_at, ne_eq, not_false_eq_true, not_true_eq_false, if_true, if_false, Nat.reduceEqDiff, Nat.reduceLT, true_or, or_true, reduceIte]
  by_cases c1 : n < 0
  · simp only [c1, if_true, cl_of]; exact ⟨_, _, _, rfl, rfl, R_th h⟩
  · by_cases c2 : n < nI m
    · obtain ⟨j, hj, rfl⟩ := nI_of c1
      have hjm := (nI_ltI hj (by omega)).mp c2
      rw [if_neg c1, if_neg c1, if_pos c2, ld_nI (by omega) (by decide), cl_of, if_neg (fun k => absurd ((nI_le' (by omega) hj).mp k) (by omega)), ld_nI (by omega) (by decide), s2_ne (by decide), t5 j hjm]
      exact ⟨_, _, _, rfl, rfl, R_th h⟩
    · rw [if_neg c1, if_neg c1, if_neg c2, cl_of, if_pos (by rw [le_nlt]; exact c2)]
      exact ⟨_, _, _, rfl, rfl, R_th h⟩
