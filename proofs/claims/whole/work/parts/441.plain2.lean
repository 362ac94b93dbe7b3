theorem rp_c {f f' c c' tl tl' : Int32} {s a b op fm r x d i pr lr ld ts top tfm tr tx td ti tpr tlr tlp ts' top' tfm' tr' tx' td' ti' : Nat → Int32}
    (h1 : ∀ k, 120 ≤ k → ts' k = ts k) (h2 : ∀ k, 120 ≤ k → top' k = top k) (h3 : ∀ k, 120 ≤ k → tfm' k = tfm k) (h4 : ∀ k, 120 ≤ k → tr' k = tr k) (h5 : ∀ k, 120 ≤ k → tx' k = tx k) (h6 : ∀ k, 120 ≤ k → td' k = td k) (h7 : ∀ k, 120 ≤ k → ti' k = ti k)
    (h : Rprog f f' c c' tl tl' s a b op fm r x d i pr lr ld ts top tfm tr tx td ti tpr tlr tlp) : Rprog f f' c c' tl tl' s a b op fm r x d i pr lr ld ts' top' tfm' tr' tx' td' ti' tpr tlr tlp := by
  obtain ⟨q1, q2, q3⟩ := h
  refine ⟨q1, q2, fun k => ?_⟩
  obtain ⟨m, T, pl, w1, w2, w3, w4, w5, w6, w7, w8, w9⟩ := q3 k
  refine ⟨m, T, pl, w1, w2, w3, w4, w5, w6, fun k hk => ?_, w8, w9⟩
  rw [h1 _ (by omega), h2 _ (by omega), h3 _ (by omega), h4 _ (by omega), h5 _ (by omega), h6 _ (by omega), h7 _ (by omega)]
  exact w7 k hk
theorem pf_eq {σ : St} {m : Nat} (h : σ 15 4 = nI m) (hm : m ≤ 120) : Program_isFull 15 σ = some (if m < 120 then 0 else 1, σ) := by
  unfold Program_isFull
  rw [h]
  by_cases c : m < 120
  · rw [if_pos (lf_lt 120 120 m rfl c (by decide)), if_pos c]
  · rw [if_neg (lf_nlt 120 120 m rfl (by omega) (by omega)), if_neg c]
theorem upd_ne {f : Nat → Int32} {k j : Nat} {v : Int32} (h : j ≠ k) : upd f k v j = f j := by rw [upd_at, if_neg h]
theorem upd_s {f : Nat → Int32} {k : Nat} {v : Int32} : upd f k v k = v := by rw [upd_at, if_pos rfl]
theorem ts_plain (op fm r x d i : Int32) : TS (House_plain 0 op fm r x d i) (Mo_plain 67 op fm r x d i) := by
  intro σ τ h
  obtain ⟨m, m1, m2, m3, m4⟩ := h.2.2.2.1
  have e8 : (s2 τ 67 0 0) 67 8 = nI m := by rw [s2_row, upd_ne (by decide), m3]
  unfold House_plain
  rw [cc_0_5, pf_eq m2 m1, cl_of]
  by_cases c : m < 120
  · rw [if_pos c, if_neg (by decide)]
    obtain ⟨b, e1, e2⟩ := ip_eq op fm r x i σ
    have me := mp_eq op fm r x d i τ (by rw [e8]; exact fun k => absurd ((nI_inj (b := 120) (by omega) (by decide)).mp k) (by omega))
    rw [e1, cl_of]
    rcases e2 with ⟨rfl, hP⟩ | ⟨rfl, hP⟩
    · rw [if_pos (by decide), me.1 hP]
      unfold Program_addPlain
      rw [pf_eq m2 m1, if_pos c, cl_of, if_pos rfl, cc_15_0, cc_15_6, cc_15_7, cc_15_8, cc_15_9, cc_15_10, cc_15_11, m2, sa_nI c (by decide), s2_ne (by decide), m2, sa_nI c (by decide), s2_ne (by decide), s2_ne (by decide), m2, sa_nI c (by decide), s2_ne (by decide), s2_ne (by decide), s2_ne (by decide), m2, sa_nI c (by decide), s2_ne (by decide), s2_ne (by decide), s2_ne (by decide), s2_ne (by decide), m2, sa_nI c (by decide), s2_ne (by decide), s2_ne (by decide), s2_ne (by decide), s2_ne (by decide), s2_ne (by decide), m2, sa_nI c (by decide), s2_ne (by decide), s2_ne (by decide), s2_ne (by decide), s2_ne (by decide), s2_ne (by decide), s2_ne (by decide), m2, sa_nI c (by decide), s2_ne (by decide), s2_ne (by decide), s2_ne (by decide), s2_ne (by decide), s2_ne (by decide), s2_ne (by decide), s2_ne (by decide), m2, nm_of, nI_1, cv_of, s2_row, upd_s]
      -- the reference
      have h74 : kd 74 = 900 ∧ al 74 = 240 := by decide
      have h75 : kd 75 = 900 ∧ al 75 = 240 := by decide
      have h76 : kd 76 = 900 ∧ al 76 = 240 := by decide
      have h77 : kd 77 = 900 ∧ al 77 = 240 := by decide
      have sw : ∀ (cell : Nat) (τ1 : St) (v : Int32) (f : St → Option (Int32 × St)), kd cell = 900 ∧ al cell = 240 → sr τ1 cell (nI m) v f = f (s2 τ1 cell m v) := fun cell τ1 v f hc => sr_nI hc.1 (by rw [hc.2]; omega) (by rw [hc.2]; decide)
      have eM : ∀ σ1 : St, Mo_plain_B95 67 op fm r x d i σ1 = nm (σ1 67 8) fun x1 => sa σ1 71 240 x1 9 fun σ2 => sa σ2 72 240 x1 op fun σ3 => sa σ3 73 240 x1 fm fun σ4 => sr σ4 74 x1 (if hsR fm then r else 0) fun σ5 => sr σ5 75 x1 (if fm = 2 ∨ memF fm then x else 0) fun σ6 => sr σ6 76 x1 (if memF fm then d else 0) fun σ7 => sr σ7 77 x1 (if hsI fm then i else 0) fun σ8 => nm (s2 σ8 67 8 ((σ8 67 8) + 1)) fun σ9 => some (σ9 67 8, σ9) := by
        intro σ1
        have b189 : ∀ (v : Int32) (x1 : Int32) (σ2 : St), Mo_plain_B189 67 fm i x1 76 x1 v σ2 = sr σ2 76 x1 v fun σ7 => sr σ7 77 x1 (if hsI fm then i else 0) fun σ8 => nm (s2 σ8 67 8 ((σ8 67 8) + 1)) fun σ9 => some (σ9 67 8, σ9) := by
          intro v x1 σ2
          unfold Mo_plain_B189 Mo_plain_B209
          simp only [mfi_eq, cl_of, cc_67_17]
          by_cases c : hsI fm
          · simp only [if_pos c]; rfl
          · simp only [if_neg c]; rfl
        have b169 : ∀ (v : Int32) (x1 : Int32) (σ2 : St), Mo_plain_B169 67 fm d i x1 75 x1 v σ2 = sr σ2 75 x1 v fun σ6 => sr σ6 76 x1 (if memF fm then d else 0) fun σ7 => sr σ7 77 x1 (if hsI fm then i else 0) fun σ8 => nm (s2 σ8 67 8 ((σ8 67 8) + 1)) fun σ9 => some (σ9 67 8, σ9) := by
          intro v x1 σ2
          unfold Mo_plain_B169
          simp only [mmf_eq, cl_of, cc_67_16, b189]
          by_cases c : memF fm
          · simp only [if_pos c]; rfl
          · simp only [if_neg c]; rfl
        have b144 : ∀ (v : Int32) (x1 : Int32) (σ2 : St), Mo_plain_B144 67 fm x d i x1 74 x1 v σ2 = sr σ2 74 x1 v fun σ5 => sr σ5 75 x1 (if fm = 2 ∨ memF fm then x else 0) fun σ6 => sr σ6 76 x1 (if memF fm then d else 0) fun σ7 => sr σ7 77 x1 (if hsI fm then i else 0) fun σ8 => nm (s2 σ8 67 8 ((σ8 67 8) + 1)) fun σ9 => some (σ9 67 8, σ9) := by
          intro v x1 σ2
          unfold Mo_plain_B144
          simp only [mmf_eq, cl_of, cc_67_15, b169]
          by_cases c2 : fm = 2
          · simp only [if_pos c2, if_pos (show fm = 2 ∨ memF fm from Or.inl c2)]
          · by_cases c : memF fm
            · simp only [if_neg c2, if_pos c, if_pos (show fm = 2 ∨ memF fm from Or.inr c)]; rfl
            · simp only [if_neg c2, if_neg c, if_neg (show ¬ (fm = 2 ∨ memF fm) from fun k => by rcases k with k | k; exact c2 k; exact c k)]; rfl
        unfold Mo_plain_B95
        simp only [mfr_eq, cl_of, cc_67_11, cc_67_12, cc_67_13, cc_67_14, b144]
        by_cases c : hsR fm
        · simp only [if_pos c]; rfl
        · simp only [if_neg c]; rfl
      rw [eM, nm_of, e8, sa_nI (by omega) (by decide), sa_nI (by omega) (by decide), sa_nI (by omega) (by decide), sw 74 _ _ _ h74, sw 75 _ _ _ h75, sw 76 _ _ _ h76, sw 77 _ _ _ h77, nm_of]
      simp only [s2_ne, s2_at, up_ne, up_at, ne_eq, not_false_eq_true, not_true_eq_false, if_true, if_false, Nat.reduceEqDiff, Nat.reduceLT, true_or, or_true, reduceIte, m3, nI_1]
      refine ⟨_, _, _, rfl, rfl, ?_⟩
      unfold R at h ⊢
      simp only [s2_ne, s2_at, up_ne, up_at, ne_eq, not_false_eq_true, not_true_eq_false, if_true, if_false, Nat.reduceEqDiff, Nat.reduceLT, true_or, or_true, reduceIte]
      refine ⟨h.1, h.2.1, h.2.2.1, ⟨m + 1, by omega, rfl, rfl, fun k hk => ?_⟩, ?_, h.2.2.2.2.2⟩
      · simp only [s2_ne, s2_at, up_ne, up_at, ne_eq, not_false_eq_true, not_true_eq_false, if_true, if_false, Nat.reduceEqDiff, Nat.reduceLT, true_or, or_true, reduceIte, Nat.zero_add]
        by_cases ck : k = m
        · simp only [ck, if_true]
          exact ⟨rfl, Or.inl ⟨rfl, hP, rfl, rfl, rfl, rfl, rfl, rfl⟩⟩
        · simp only [ck, if_false]
          have := m4 k (by omega)
          rw [Nat.zero_add] at this
          exact this
      · refine rp_c ?_ ?_ ?_ ?_ ?_ ?_ ?_ h.2.2.2.2.1
        all_goals
          intro k hk
          simp only [s2_ne, s2_at, up_ne, up_at, ne_eq, not_false_eq_true, not_true_eq_false, if_true, if_false, Nat.reduceEqDiff, Nat.reduceLT, true_or, or_true, reduceIte]
          rw [if_neg (by omega)]
    · rw [if_neg (by decide), me.2 hP]
      exact ⟨_, _, _, rfl, rfl, R_th h⟩
  · rw [if_neg c, if_pos (by decide)]
    unfold Mo_plain
    rw [nm_of, e8, if_pos (show nI m = 120 by rw [show m = 120 by omega]; rfl)]
    exact ⟨_, _, _, rfl, rfl, R_th h⟩
