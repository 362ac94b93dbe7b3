theorem hl_eq (a : Int32) (σ : St) : House_isLabel a σ = some (if isLb a then 1 else 0, σ) := by
  unfold House_isLabel
  simp only [le_nlt]
  by_cases c1 : a < 0
  · simp [c1]
  · by_cases c2 : a < 40 <;> simp [c1, c2]
theorem hc_eq (a : Int32) (σ : St) : House_isCondition a σ = some (if isCo a then 1 else 0, σ) := by
  unfold House_isCondition
  by_cases c1 : a < 0
  · simp [c1]
  · by_cases c2 : 15 < a
    · simp [c1, c2]
    · by_cases c3 : a = 10
      · simp [c1, c2, c3]
      · by_cases c4 : a = 11 <;> simp [c1, c2, c3, c4]
/-- the sorts one by one -/
theorem fk_0 {a b : Int32} : FOK 0 a b ↔ isLb a ∧ isB b := by simp [FOK]
theorem fk_1 {a b : Int32} : FOK 1 a b ↔ isLb a := by simp [FOK]
theorem fk_2 {a b : Int32} : FOK 2 a b ↔ isLb a ∧ isCo b := by simp [FOK]
theorem fk_3 {a b : Int32} : FOK 3 a b ↔ isLb a := by simp [FOK]
theorem fk_4 {a b : Int32} : FOK 4 a b ↔ ¬ a < 0 ∧ a < 4 := by simp [FOK]
theorem fk_5 {a b : Int32} : FOK 5 a b ↔ inR a ∧ ¬ a = 4 := by simp [FOK]
theorem fk_6 {a b : Int32} : FOK 6 a b ↔ inR a ∧ ¬ a = 4 := by simp [FOK]
theorem fk_7 {a b : Int32} : FOK 7 a b ↔ True := by simp [FOK]
theorem fk_8 {a b : Int32} : FOK 8 a b ↔ isLb a ∧ inR b := by simp [FOK]
def Ans (P : Prop) (σ : St) (r : Option (Int32 × St)) : Prop := ∃ b, r = some (b, σ) ∧ ((b = 1 ∧ P) ∨ (b = 0 ∧ ¬ P))
theorem an_1 {P : Prop} {σ : St} (h : P) : Ans P σ (some (1, σ)) := ⟨1, rfl, Or.inl ⟨rfl, h⟩⟩
theorem an_0 {P : Prop} {σ : St} (h : ¬ P) : Ans P σ (some (0, σ)) := ⟨0, rfl, Or.inr ⟨rfl, h⟩⟩
theorem if_eq (s a b : Int32) (σ : St) : Ans (FOK s a b) σ (House_isFlow s a b σ) := by
  unfold House_isFlow House_isFlow_B114
  simp only [hl_eq, hr_eq, hc_eq, cl_of, gt_lt 3 4 rfl]
  by_cases s0 : s = 0
  · subst s0
    rw [if_pos rfl]
    by_cases c : isLb a
    · rw [if_pos c, if_neg (by decide)]
      by_cases d0 : b = 0
      · rw [if_pos d0]; exact an_1 (fk_0.mpr ⟨c, Or.inl d0⟩)
      · rw [if_neg d0]
        by_cases d1 : b = 1
        · rw [if_neg (not_not_intro d1)]; exact an_1 (fk_0.mpr ⟨c, Or.inr d1⟩)
        · rw [if_pos d1]; exact an_0 (fun k => by rcases (fk_0.mp k).2 with k | k; exact d0 k; exact d1 k)
    · rw [if_neg c, if_pos rfl]; exact an_0 (fun k => c (fk_0.mp k).1)
  rw [if_neg s0]
  by_cases s1 : s = 1
  · subst s1
    rw [if_pos rfl]
    by_cases c : isLb a
    · rw [if_pos c, zb_1]; exact an_1 (fk_1.mpr c)
    · rw [if_neg c, zb_0]; exact an_0 (fun k => c (fk_1.mp k))
  rw [if_neg s1]
  by_cases s2' : s = 2
  · subst s2'
    rw [if_pos rfl]
    by_cases c : isLb a
    · rw [if_pos c, if_neg (by decide)]
      by_cases d : isCo b
      · rw [if_pos d, if_neg (by decide)]; exact an_1 (fk_2.mpr ⟨c, d⟩)
      · rw [if_neg d, if_pos rfl]; exact an_0 (fun k => d (fk_2.mp k).2)
    · rw [if_neg c, if_pos rfl]; exact an_0 (fun k => c (fk_2.mp k).1)
  rw [if_neg s2']
  by_cases s3 : s = 3
  · subst s3
    rw [if_pos rfl]
    by_cases c : isLb a
    · rw [if_pos c, zb_1]; exact an_1 (fk_3.mpr c)
    · rw [if_neg c, zb_0]; exact an_0 (fun k => c (fk_3.mp k))
  rw [if_neg s3]
  by_cases s4 : s = 4
  · subst s4
    rw [if_pos rfl]
    by_cases c : a < 0
    · rw [if_pos c]; exact an_0 (fun k => (fk_4.mp k).1 c)
    · rw [if_neg c]
      by_cases d : a < 4
      · rw [if_neg (not_not_intro d)]; exact an_1 (fk_4.mpr ⟨c, d⟩)
      · rw [if_pos d]; exact an_0 (fun k => d (fk_4.mp k).2)
  rw [if_neg s4]
  by_cases s5 : s = 5
  · subst s5
    rw [if_pos rfl]
    by_cases c : inR a
    · rw [if_pos c, if_neg (by decide)]
      by_cases d : a = 4
      · rw [if_pos d]; exact an_0 (fun k => (fk_5.mp k).2 d)
      · rw [if_neg d]; exact an_1 (fk_5.mpr ⟨c, d⟩)
    · rw [if_neg c, if_pos rfl]; exact an_0 (fun k => c (fk_5.mp k).1)
  rw [if_neg s5]
  by_cases s6 : s = 6
  · subst s6
    rw [if_pos rfl]
    by_cases c : inR a
    · rw [if_pos c, if_neg (by decide)]
      by_cases d : a = 4
      · rw [if_pos d]; exact an_0 (fun k => (fk_6.mp k).2 d)
      · rw [if_neg d]; exact an_1 (fk_6.mpr ⟨c, d⟩)
    · rw [if_neg c, if_pos rfl]; exact an_0 (fun k => c (fk_6.mp k).1)
  rw [if_neg s6]
  by_cases s7 : s = 7
  · subst s7; rw [if_pos rfl]; exact an_1 (fk_7.mpr trivial)
  rw [if_neg s7]
  by_cases s8 : s = 8
  · subst s8
    rw [if_pos rfl]
    by_cases c : isLb a
    · rw [if_pos c, if_neg (by decide)]
      by_cases d : inR b
      · rw [if_pos d, if_neg (by decide)]; exact an_1 (fk_8.mpr ⟨c, d⟩)
      · rw [if_neg d, if_pos rfl]; exact an_0 (fun k => d (fk_8.mp k).2)
    · rw [if_neg c, if_pos rfl]; exact an_0 (fun k => c (fk_8.mp k).1)
  rw [if_neg s8]
  refine an_0 ?_
  simp [FOK, s0, s1, s2', s3, s4, s5, s6, s7, s8]
def AnG (P : Prop) (s a b : Int32) (σ : St) (r : Option (Int32 × St)) : Prop := ∃ g, r = Mo_flow_B212 67 s a b g σ ∧ ((g = 1 ∧ P) ∨ (g = 0 ∧ ¬ P))
theorem ag_1 {P : Prop} {s a b : Int32} {σ : St} (h : P) : AnG P s a b σ (Mo_flow_B212 67 s a b 1 σ) := ⟨1, rfl, Or.inl ⟨rfl, h⟩⟩
theorem ag_0 {P : Prop} {s a b : Int32} {σ : St} (h : ¬ P) : AnG P s a b σ (Mo_flow_B212 67 s a b 0 σ) := ⟨0, rfl, Or.inr ⟨rfl, h⟩⟩
theorem mf_eq (s a b : Int32) (τ : St) : AnG (FOK s a b) s a b (s2 τ 67 0 0) (Mo_flow 67 s a b τ) := by
  have e0 : Mo_flow 67 s a b τ = Mo_flow_B20 67 s a b (if isLb a then 1 else 0) (s2 τ 67 0 0) := by
    unfold Mo_flow
    simp only [nm_of, le_nlt]
    by_cases c1 : a < 0
    · rw [if_pos c1, if_neg (show ¬ isLb a from fun h => h.1 c1)]
    · by_cases c2 : a < 40
      · rw [if_neg c1, if_neg (not_not_intro c2), if_pos (show isLb a from ⟨c1, c2⟩)]
      · rw [if_neg c1, if_pos c2, if_neg (show ¬ isLb a from fun h => c2 h.2)]
  rw [e0]
  unfold Mo_flow_B20 Mo_flow_B159
  simp only [mr_eq, cl_of, le_nlt]
  by_cases s0 : s = 0
  · subst s0
    rw [if_pos rfl]
    by_cases c : isLb a
    · rw [if_pos c, if_neg (by decide)]
      by_cases d0 : b = 0
      · rw [if_pos d0]; exact ag_1 (fk_0.mpr ⟨c, Or.inl d0⟩)
      · rw [if_neg d0]
        by_cases d1 : b = 1
        · rw [if_neg (not_not_intro d1)]; exact ag_1 (fk_0.mpr ⟨c, Or.inr d1⟩)
        · rw [if_pos d1]; exact ag_0 (fun k => by rcases (fk_0.mp k).2 with k | k; exact d0 k; exact d1 k)
    · rw [if_neg c, if_pos rfl]; exact ag_0 (fun k => c (fk_0.mp k).1)
  rw [if_neg s0]
  by_cases s1 : s = 1
  · subst s1
    rw [if_pos rfl]
    by_cases c : isLb a
    · rw [if_pos c]; exact ag_1 (fk_1.mpr c)
    · rw [if_neg c]; exact ag_0 (fun k => c (fk_1.mp k))
  rw [if_neg s1]
  by_cases s2' : s = 2
  · subst s2'
    rw [if_pos rfl]
    by_cases c : isLb a
    · rw [if_pos c, if_neg (by decide)]
      by_cases d1 : b < 0
      · rw [if_pos d1]; exact ag_0 (fun k => (fk_2.mp k).2.1 d1)
      · rw [if_neg d1]
        have e16 : (¬ b < 16) ↔ (15 < b) := by rw [gt_lt 15 16 rfl]
        by_cases d2 : b < 16
        · rw [if_neg (not_not_intro d2)]
          by_cases d3 : b = 10
          · rw [if_pos d3]; exact ag_0 (fun k => (fk_2.mp k).2.2.2.1 d3)
          · rw [if_neg d3]
            by_cases d4 : b = 11
            · rw [if_pos d4]; exact ag_0 (fun k => (fk_2.mp k).2.2.2.2 d4)
            · rw [if_neg d4]; exact ag_1 (fk_2.mpr ⟨c, d1, fun k => e16.mpr k d2, d3, d4⟩)
        · rw [if_pos d2]; exact ag_0 (fun k => (fk_2.mp k).2.2.1 (e16.mp d2))
    · rw [if_neg c, if_pos rfl]; exact ag_0 (fun k => c (fk_2.mp k).1)
  rw [if_neg s2']
  by_cases s3 : s = 3
  · subst s3
    rw [if_pos rfl]
    by_cases c : isLb a
    · rw [if_pos c]; exact ag_1 (fk_3.mpr c)
    · rw [if_neg c]; exact ag_0 (fun k => c (fk_3.mp k))
  rw [if_neg s3]
  by_cases s4 : s = 4
  · subst s4
    rw [if_pos rfl]
    by_cases c : a < 0
    · rw [if_pos c]; exact ag_0 (fun k => (fk_4.mp k).1 c)
    · rw [if_neg c]
      by_cases d : a < 4
      · rw [if_neg (not_not_intro d)]; exact ag_1 (fk_4.mpr ⟨c, d⟩)
      · rw [if_pos d]; exact ag_0 (fun k => d (fk_4.mp k).2)
  rw [if_neg s4]
  by_cases s5 : s = 5
  · subst s5
    rw [if_pos rfl]
    by_cases c : inR a
    · rw [if_pos c, if_neg (by decide)]
      by_cases d : a = 4
      · rw [if_pos d]; exact ag_0 (fun k => (fk_5.mp k).2 d)
      · rw [if_neg d]; exact ag_1 (fk_5.mpr ⟨c, d⟩)
    · rw [if_neg c, if_pos rfl]; exact ag_0 (fun k => c (fk_5.mp k).1)
  rw [if_neg s5]
  by_cases s6 : s = 6
  · subst s6
    rw [if_pos rfl]
    by_cases c : inR a
    · rw [if_pos c, if_neg (by decide)]
      by_cases d : a = 4
      · rw [if_pos d]; exact ag_0 (fun k => (fk_6.mp k).2 d)
      · rw [if_neg d]; exact ag_1 (fk_6.mpr ⟨c, d⟩)
    · rw [if_neg c, if_pos rfl]; exact ag_0 (fun k => c (fk_6.mp k).1)
  rw [if_neg s6]
  by_cases s7 : s = 7
  · subst s7; rw [if_pos rfl]; exact ag_1 (fk_7.mpr trivial)
  rw [if_neg s7]
  by_cases s8 : s = 8
  · subst s8
    rw [if_pos rfl]
    by_cases c : isLb a
    · rw [if_pos c, if_neg (by decide)]
      by_cases d : inR b
      · rw [if_pos d, if_neg (by decide)]; exact ag_1 (fk_8.mpr ⟨c, d⟩)
      · rw [if_neg d, if_pos rfl]; exact ag_0 (fun k => d (fk_8.mp k).2)
    · rw [if_neg c, if_pos rfl]; exact ag_0 (fun k => c (fk_8.mp k).1)
  rw [if_neg s8]
  refine ag_0 ?_
  simp [FOK, s0, s1, s2', s3, s4, s5, s6, s7, s8]
theorem fk_9 {s a b : Int32} (h : FOK s a b) : ¬ s = 9 := by
  intro e; subst e; revert h; simp [FOK]
theorem ts_flow (s a b : Int32) : TS (House_flow 0 s a b) (Mo_flow 67 s a b) := by
  intro σ τ h
  obtain ⟨m, m1, m2, m3, m4⟩ := h.2.2.2.1
  have e8 : (s2 τ 67 0 0) 67 8 = nI m := by rw [s2_row, upd_ne (by decide), m3]
  obtain ⟨g, eg, hg⟩ := mf_eq s a b τ
  unfold House_flow
  rw [cc_0_5, pf_eq m2 m1, cl_of, eg]
  unfold Mo_flow_B212
  rw [e8]
  by_cases c : m < 120
  · rw [if_pos c, if_neg (by decide), if_neg (show ¬ nI m = 120 from fun k => absurd ((nI_inj (b := 120) (by omega) (by decide)).mp k) (by omega))]
    obtain ⟨b', e1, e2⟩ := if_eq s a b σ
    rw [e1, cl_of]
    by_cases hP : FOK s a b
    · have hb : b' = 1 := by rcases e2 with ⟨q, _⟩ | ⟨_, q⟩; exact q; exact absurd hP q
      have hg1 : g = 1 := by rcases hg with ⟨q, _⟩ | ⟨_, q⟩; exact q; exact absurd hP q
      subst hb; subst hg1
      rw [if_pos (by decide), if_pos (by decide)]
      unfold Program_addFlow
      rw [pf_eq m2 m1, if_pos c, cl_of, if_pos rfl, cc_15_0, cc_15_1, cc_15_2, m2, sa_nI c (by decide), s2_ne (by decide), m2, sa_nI c (by decide), s2_ne (by decide), s2_ne (by decide), m2, sa_nI c (by decide), s2_ne (by decide), s2_ne (by decide), s2_ne (by decide), m2, nm_of, nI_1, cv_of, s2_row, upd_s]
      have h74 : kd 74 = 900 ∧ al 74 = 240 := by decide
      have h75 : kd 75 = 900 ∧ al 75 = 240 := by decide
      have sw : ∀ (cell : Nat) (τ1 : St) (v : Int32) (f : St → Option (Int32 × St)), kd cell = 900 ∧ al cell = 240 → sr τ1 cell (nI m) v f = f (s2 τ1 cell m v) := fun cell τ1 v f hc => sr_nI hc.1 (by rw [hc.2]; omega) (by rw [hc.2]; decide)
      have b259 : ∀ (v : Int32) (σ2 : St), Mo_flow_B259 67 s b (nI m) 74 (nI m) v σ2 = sr σ2 74 (nI m) v fun σ5 => sr σ5 75 (nI m) (if s = 0 ∨ s = 2 ∨ s = 8 then b else 0) fun σ8 => nm (s2 σ8 67 8 ((σ8 67 8) + 1)) fun σ9 => some (σ9 67 8, σ9) := by
        intro v σ2
        unfold Mo_flow_B259 Mo_flow_B286
        simp only [cc_67_15]
        by_cases c0 : s = 0
        · simp only [c0, if_true, true_or]
        · by_cases c2 : s = 2
          · simp only [c2, if_true, true_or, or_true]; rfl
          · by_cases c8 : s = 8
            · simp only [c8, not_true_eq_false, if_true, if_false, or_true]; rfl
            · simp only [c0, c2, c8, not_false_eq_true, if_true, if_false, or_self]
      have eB : (if ¬ s = 7 then Mo_flow_B259 67 s b (nI m) 74 (nI m) a (s2 (s2 τ 67 0 0) 71 m s) else Mo_flow_B259 67 s b (nI m) 74 (nI m) 1 (s2 (s2 τ 67 0 0) 71 m s)) = Mo_flow_B259 67 s b (nI m) 74 (nI m) (if s = 7 then 1 else a) (s2 (s2 τ 67 0 0) 71 m s) := by
        by_cases c7 : s = 7
        · rw [if_neg (not_not_intro c7), if_pos c7]
        · rw [if_pos c7, if_neg c7]
      rw [nm_of, cc_67_11, cc_67_14, sa_nI (by omega) (by decide), eB, b259, sw 74 _ _ _ h74, sw 75 _ _ _ h75, nm_of]
      simp only [s2_ne, s2_at, up_ne, up_at, ne_eq, not_false_eq_true, not_true_eq_false, if_true, if_false, Nat.reduceEqDiff, Nat.reduceLT, true_or, or_true, reduceIte, m3, nI_1]
      refine ⟨_, _, _, rfl, rfl, ?_⟩
      unfold R at h ⊢
      simp only [s2_ne, s2_at, up_ne, up_at, ne_eq, not_false_eq_true, not_true_eq_false, if_true, if_false, Nat.reduceEqDiff, Nat.reduceLT, true_or, or_true, reduceIte]
      refine ⟨h.1, h.2.1, h.2.2.1, ⟨m + 1, by omega, rfl, rfl, fun k hk => ?_⟩, ?_, h.2.2.2.2.2⟩
      · simp only [s2_ne, s2_at, up_ne, up_at, ne_eq, not_false_eq_true, not_true_eq_false, if_true, if_false, Nat.reduceEqDiff, Nat.reduceLT, true_or, or_true, reduceIte, Nat.zero_add]
        by_cases ck : k = m
        · simp only [ck, if_true]
          exact ⟨rfl, Or.inr ⟨fk_9 hP, hP, rfl, rfl⟩⟩
        · simp only [ck, if_false]
          have := m4 k (by omega)
          rw [Nat.zero_add] at this
          exact this
      · refine rp_c ?_ (fun _ _ => rfl) (fun _ _ => rfl) ?_ ?_ (fun _ _ => rfl) (fun _ _ => rfl) h.2.2.2.2.1
        all_goals
          intro k hk
          simp only [s2_ne, s2_at, up_ne, up_at, ne_eq, not_false_eq_true, not_true_eq_false, if_true, if_false, Nat.reduceEqDiff, Nat.reduceLT, true_or, or_true, reduceIte]
          rw [if_neg (by omega)]
    · have hb : b' = 0 := by rcases e2 with ⟨_, q⟩ | ⟨q, _⟩; exact absurd q hP; exact q
      have hg1 : g = 0 := by rcases hg with ⟨_, q⟩ | ⟨q, _⟩; exact absurd q hP; exact q
      subst hb; subst hg1
      rw [if_neg (by decide), if_neg (by decide)]
      exact ⟨_, _, _, rfl, rfl, R_th h⟩
  · rw [if_neg c, if_pos (by decide), if_pos (show nI m = 120 by rw [show m = 120 by omega]; rfl)]
    exact ⟨_, _, _, rfl, rfl, R_th h⟩
