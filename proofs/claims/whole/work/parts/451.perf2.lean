section
variable {M F G B w f : Nat} {σ τ : St} {op fm r x d i : Int32}
theorem inst_c {σ' : St} (I : Inst σ f op fm r x d i) (h : σ' f = σ f) : Inst σ' f op fm r x d i := by unfold Inst at I ⊢; rw [h]; exact I
/-- what is given to the left side -/
theorem v_giveLeft (H : MC M F G B) (V : Vr M F G B w σ τ) (I : Inst σ f op fm r x d i) (P : PW op fm r x) (hr : ¬ chW fm → hsR fm) {a : Nat} (ha : a ≤ 1020) (v : Int32) : ∃ σ' τ', Machine_giveLeft M f (nI a) v σ = some σ' ∧ (if (if chW fm then (1 : Int32) else 0) = 0 then Mo_setReg 67 r v τ else Mo_store 67 (nI a) v τ) = some τ' ∧ Vr M F G B w σ' τ' ∧ FC M F G B σ σ' ∧ FR w τ τ' ∧ σ' F = σ F := by
  unfold Machine_giveLeft
  rw [c_chW I, cl_of]
  by_cases c : chW fm
  · obtain ⟨σ', τ', e1, e2, q1, q2, q3, _, q5, _⟩ := v_word H V ha v
    rw [if_pos c, if_neg (by decide), if_neg (by decide), e1, cv_of]
    exact ⟨σ', τ', rfl, e2, q1, q2, q3, q5⟩
  · have hR := P.2.1 (hr c)
    obtain ⟨j, hj, ej⟩ := to_nI (m := 8) hR.1 8 rfl (by decide) hR.2
    obtain ⟨σ', τ', e1, e2, q1, q2, q3, _, _, q6, _⟩ := v_give H V hj v
    rw [if_neg c, if_pos rfl, if_pos rfl, I.2.2.1, ej, e1, cv_of]
    exact ⟨σ', τ', rfl, e2, q1, q2, q3, q6⟩
theorem opF_8 {op fm : Int32} (h : opF op fm) (hop : op = 8 ∨ opR op) (c : ¬ chW fm) : hsR fm := by
  rcases h with ⟨_, _, a, b⟩ | ⟨_, k⟩ | ⟨_, k⟩ | ⟨_, k⟩ | ⟨_, k⟩ | ⟨_, k⟩ | ⟨_, k⟩ | ⟨e, k⟩ | ⟨e, k⟩
  · refine ⟨nlt_of a (by decide), ?_⟩
    by_cases q : fm < 6
    · exact q
    · exfalso; exact c (Or.inr (Or.inl (Int32.toInt_inj.mp (by
        have q1 := mt Int32.lt_iff_toInt_lt.mpr q
        have q2 := Int32.lt_iff_toInt_lt.mp b
        have e1 : (6 : Int32).toInt = 6 := rfl
        have e2 : (7 : Int32).toInt = 7 := rfl
        omega))))
  · rcases k with rfl | rfl <;> decide
  · subst k; decide
  · rcases k with rfl | rfl <;> decide
  · rcases k with rfl | rfl
    · decide
    · exact absurd (Or.inr (Or.inr rfl)) c
  · rcases k with rfl | rfl
    · decide
    · exact absurd (Or.inr (Or.inl rfl)) c
  · subst k; decide
  · subst e; exfalso; revert hop; decide
  · exfalso; rcases e with rfl | rfl <;> (revert hop; decide)
/-- does an INSTRUCTION that reckons -/
theorem v_work (H : MC M F G B) (hf : f ≠ M ∧ f ≠ F ∧ f ≠ G ∧ f ≠ B) (V : Vr M F G B w σ τ) (I : Inst σ f op fm r x d i) (N : Nrm τ op fm r x d i) (P : PW op fm r x) (hop : opR op) {a : Nat} (ha : a ≤ 1020) (ea : atA σ G fm x d = nI a) :
    ∃ σ' τ', (if op = 7 ∨ op = 9 then Machine_perform_B196 M f (nI a) σ else Machine_perform_B223 M f (nI a) σ) = some (-1, σ') ∧ Mo_does 67 τ = some τ' ∧ Vr M F G B w σ' τ' ∧ FC M F G B σ σ' ∧ FR w τ τ' ∧ (¬ σ F 0 = 2 → ¬ σ' F 0 = 2) := by
  have o21 : ¬ op = 19 ∧ ¬ op = 20 ∧ ¬ op = 10 ∧ op < 21 := by
    rcases hop with ⟨a, b⟩ | k | ⟨a, b⟩
    · exact ⟨ne_lt b (by decide), ne_lt b (by decide), ne_lt b (by decide), lt_of b (by decide)⟩
    · subst k; decide
    · exact ⟨ne_lt b (by decide), ne_lt b (by decide), fun e => a (by subst e; decide), lt_of b (by decide)⟩
  rw [m_does V N P ha ea o21]
  have hr : ¬ (op = 12 ∨ op = 13 ∨ op = 17 ∨ op = 18) → rtv σ G B fm r x i a = if fm = 2 ∨ fm = 3 ∨ fm = 4 then rtv σ G B fm r x i a else τ 67 61 := by
    intro hn
    by_cases c : fm = 2 ∨ fm = 3 ∨ fm = 4
    · rw [if_pos c]
    · rw [if_neg c, rtv_e (fun k => c (Or.inl k)) (fun k => c (Or.inr (Or.inl k))) (fun k => c (Or.inr (Or.inr k)))]
      refine (N.2.2.2.2.2 ?_).symm
      rcases P.1 with ⟨_, _, q1, q2⟩ | ⟨_, k⟩ | ⟨_, k⟩ | ⟨_, k⟩ | ⟨k, _⟩ | ⟨_, k⟩ | ⟨k, _⟩ | ⟨_, k⟩ | ⟨k, _⟩
      · obtain ⟨j, hj, rfl⟩ := to_nI (m := 7) (nlt_of q1 (by decide)) 7 rfl (by decide) q2
        have : ∀ j, j < 7 → ¬ nI j < 2 → ¬ (nI j = 2 ∨ nI j = 3 ∨ nI j = 4) → hsI (nI j) := by decide +kernel
        exact this j hj q1 c
      · exact absurd (by rcases k with k | k; exact Or.inl k; exact Or.inr (Or.inr k)) c
      · exact absurd (Or.inr (Or.inl k)) c
      · exact absurd (by rcases k with k | k; exact Or.inl k; exact Or.inr (Or.inl k)) c
      · exact absurd (by rcases k with k | k; exact Or.inl k; exact Or.inr (Or.inl k)) hn
      · rcases k with k | k; exact Or.inl k; exact Or.inr (Or.inl k)
      · rcases k with k | k | k
        · exact absurd (Or.inr (Or.inr (Or.inl k))) hn
        · exact absurd (Or.inr (Or.inr (Or.inr k))) hn
        · exact absurd k o21.2.1
      · exact absurd ‹op = 19› o21.1
      · exfalso; rcases k with rfl | rfl <;> exact absurd o21.2.2.2 (by decide)
  obtain ⟨v, σ1, τ1, e1, e2, V1, C1, R1, g1, g2, g3, g4⟩ := v_rec H V (l := lfv σ G B fm r a) hop hr
  have I1 : Inst σ1 f op fm r x d i := inst_c I (C1.1 f hf.1 hf.2.1 hf.2.2.1 hf.2.2.2)
  unfold Machine_perform_B196 Machine_perform_B223 Mo_does_B237
  rw [c_left H I ha, cl_of, cl_of, c_right H I ha, cl_of, cl_of, I.1, H.1, e1, cl_of, cl_of, N.1, e2, cl_of, R1.2.1 56 (by decide), N.1, R1.2.1 58 (by decide)]
  by_cases c7 : op = 7
  · rw [if_pos (Or.inl c7), if_pos c7]; exact ⟨_, _, rfl, rfl, V1, C1, R1, g4⟩
  · rw [if_neg c7]
    by_cases c9 : op = 9
    · rw [if_pos (Or.inr c9), if_neg (not_not_intro c9)]; exact ⟨_, _, rfl, rfl, V1, C1, R1, g4⟩
    · rw [if_neg (fun k => by rcases k with k | k; exact c7 k; exact c9 k), if_pos c9]
      have h8 := opF_8 P.1 (Or.inr hop)
      obtain ⟨σ2, τ2, e3, e4, V2, C2, R2, K2⟩ := v_giveLeft H V1 I1 P h8 ha v
      rw [e3, cv_of]
      refine ⟨σ2, τ2, rfl, ?_, V2, fc_tr C1 C2, fr_tr R1 R2, fun h => by rw [K2]; exact g4 h⟩
      by_cases cw : chW fm
      · rw [if_pos cw, if_neg (by decide)] at e4
        rw [if_pos cw, if_neg (by decide), e4, cv_of]
      · rw [if_neg cw, if_pos rfl] at e4
        rw [if_neg cw, if_pos rfl, N.2.2.1 (h8 cw), e4, cv_of]
/-- does an INSTRUCTION that goes on with the next one, where nothing is wanting -/
theorem v_does (H : MC M F G B) (hf : f ≠ M ∧ f ≠ F ∧ f ≠ G ∧ f ≠ B) (V : Vr M F G B w σ τ) (I : Inst σ f op fm r x d i) (N : Nrm τ op fm r x d i) (P : PW op fm r x) (h22 : ¬ op = 22) (hl : ¬ lk op fm (σ G 4) (atA σ G fm x d)) :
    ∃ σ' τ', Machine_perform_B30 M f (atA σ G fm x d) σ = some (-1, σ') ∧ Mo_does 67 τ = some τ' ∧ Vr M F G B w σ' τ' ∧ FC M F G B σ σ' ∧ FR w τ τ' ∧ (¬ σ F 0 = 2 → ¬ σ' F 0 = 2) := by
  have hsm : ∀ {k : Int32}, memF fm → ¬ op = 19 → ¬ op = 20 → ¬ op = 10 → inW (atA σ G fm x d) := fun m a b c => Decidable.not_not.mp fun k => hl (Or.inr (Or.inr ⟨a, b, m, c, k⟩))
  have hA : ¬ op = 19 → ¬ op = 20 → ¬ op = 10 → ∃ a, a ≤ 1020 ∧ atA σ G fm x d = nI a := by
    intro a b c
    by_cases m : memF fm
    · exact inW_nI (hsm (k := 0) m a b c)
    · exact ⟨0, by omega, by rw [atA_n m]; rfl⟩
  unfold Machine_perform_B30
  rw [c_lacks H I, if_neg hl, cl_of, if_pos rfl, nm_of, I.1]
  have work : opR op → ∃ σ' τ', (if op = 7 ∨ op = 9 then Machine_perform_B196 M f (atA σ G fm x d) σ else Machine_perform_B223 M f (atA σ G fm x d) σ) = some (-1, σ') ∧ Mo_does 67 τ = some τ' ∧ Vr M F G B w σ' τ' ∧ FC M F G B σ σ' ∧ FR w τ τ' ∧ (¬ σ F 0 = 2 → ¬ σ' F 0 = 2) := by
    intro hop
    have hA' := hA (fun e => by subst e; revert hop; decide) (fun e => by subst e; revert hop; decide) (fun e => by subst e; revert hop; decide)
    obtain ⟨a, ha, ea⟩ := hA'
    rw [ea]
    exact v_work H hf V I N P hop ha ea
  obtain ⟨⟨p1, p2⟩, _⟩ := opF_op P.1
  have hop : opR op ∨ op = 8 ∨ op = 10 ∨ op = 19 ∨ op = 20 ∨ op = 21 := by
    obtain ⟨k, hk, rfl⟩ := to_nI (m := 23) p1 23 rfl (by decide) p2
    have : ∀ k, k < 23 → ¬ nI k = 22 → (opR (nI k) ∨ nI k = 8 ∨ nI k = 10 ∨ nI k = 19 ∨ nI k = 20 ∨ nI k = 21) := by decide +kernel
    exact this k hk h22
  rcases hop with hop | rfl | rfl | rfl | rfl | rfl
  · obtain ⟨σ', τ', e1, e2, e3⟩ := work hop
    refine ⟨σ', τ', ?_, e2, e3⟩
    have n8 : ¬ op = 8 := fun e => by subst e; revert hop; decide
    have n10 : ¬ op = 10 := fun e => by subst e; revert hop; decide
    have n19 : ¬ op = 19 := fun e => by subst e; revert hop; decide
    have n20 : ¬ op = 20 := fun e => by subst e; revert hop; decide
    have n21 : ¬ op = 21 := fun e => by subst e; revert hop; decide
    by_cases c7 : op = 7
    · rw [if_pos (Or.inl c7)] at e1; rw [if_pos c7]; exact e1
    · by_cases c9 : op = 9
      · rw [if_pos (Or.inr c9)] at e1; rw [if_neg c7, if_neg n8, if_pos c9]; exact e1
      · rw [if_neg (fun k => by rcases k with k | k; exact c7 k; exact c9 k)] at e1
        rw [if_neg c7, if_neg n8, if_neg c9, if_neg n10, if_neg n19, if_neg n20, if_neg n21, e1]
        repeat' split
        all_goals rfl
  · -- MOV
    obtain ⟨a, ha, ea⟩ := hA (by decide) (by decide) (by decide)
    have h8 := opF_8 P.1 (Or.inl rfl)
    obtain ⟨σ', τ', e1, e2, e3, e4, e5, e6⟩ := v_giveLeft H V I P h8 ha (rtv σ G B fm r x i a)
    rw [if_neg (by decide), if_pos rfl, ea, c_right H I ha, cl_of, e1, cv_of]
    refine ⟨σ', τ', rfl, ?_, e3, e4, e5, fun h => by rw [e6]; exact h⟩
    rw [m_does V N P ha ea (by decide)]
    have hr : (if fm = 2 ∨ fm = 3 ∨ fm = 4 then rtv σ G B fm r x i a else τ 67 61) = rtv σ G B fm r x i a := by
      by_cases c : fm = 2 ∨ fm = 3 ∨ fm = 4
      · rw [if_pos c]
      · rw [if_neg c, rtv_e (fun k => c (Or.inl k)) (fun k => c (Or.inr (Or.inl k))) (fun k => c (Or.inr (Or.inr k)))]
        refine N.2.2.2.2.2 ?_
        rcases P.1 with ⟨_, _, q1, q2⟩ | ⟨k, _⟩ | ⟨k, _⟩ | ⟨k, _⟩ | ⟨k, _⟩ | ⟨k, _⟩ | ⟨k, _⟩ | ⟨k, _⟩ | ⟨k, _⟩
        · obtain ⟨j, hj, rfl⟩ := to_nI (m := 7) (nlt_of q1 (by decide)) 7 rfl (by decide) q2
          have : ∀ j, j < 7 → ¬ nI j < 2 → ¬ (nI j = 2 ∨ nI j = 3 ∨ nI j = 4) → hsI (nI j) := by decide +kernel
          exact this j hj q1 c
        all_goals (exact absurd k (by decide))
    have wk : ∀ l v, Mo_worked 67 8 l v τ = some (v, τ) := by
      intro l v
      unfold Mo_worked
      rw [cc_67_32, V.2.2.2.2.2.2.2.1, show (4 : Int32) * nI w + 0 = nI (4 * w + 0) by rw [show (4 : Int32) = nI 4 from rfl, nI_mul]; exact nI_add _ 0, ld_nI (by have := V.2.2.2.2.2.2.2.2; omega) (by decide)]
      rfl
    unfold Mo_does_B237
    rw [hr, N.1, wk, cl_of, N.1, if_neg (by decide), if_pos (by decide)]
    by_cases cw : chW fm
    · rw [if_pos cw, if_neg (by decide)] at e2
      rw [if_pos cw, if_neg (by decide), e2, cv_of]
    · rw [if_neg cw, if_pos rfl] at e2
      rw [if_neg cw, if_pos rfl, N.2.2.1 (h8 cw), e2, cv_of]
  · -- LEA
    have h3 : fm = 3 := by
      rcases P.1 with ⟨_, k, _⟩ | ⟨k, _⟩ | ⟨_, k⟩ | ⟨k, _⟩ | ⟨k, _⟩ | ⟨k, _⟩ | ⟨k, _⟩ | ⟨k, _⟩ | ⟨k, _⟩
      · exact absurd k (by decide)
      · exact absurd k (by decide)
      · exact k
      all_goals (exact absurd k (by decide))
    have hm : memF fm := Or.inl h3
    have hR := P.2.1 (by rw [h3]; decide)
    obtain ⟨j, hj, ej⟩ := to_nI (m := 8) hR.1 8 rfl (by decide) hR.2
    obtain ⟨σ', τ', e1, e2, q1, q2, q3, _, _, q6, _⟩ := v_give H V hj (atA σ G fm x d)
    rw [if_neg (by decide), if_neg (by decide), if_neg (by decide), if_pos rfl, I.2.2.1, ej, e1, cv_of]
    refine ⟨σ', τ', rfl, ?_, q1, q2, q3, fun h => by rw [q6]; exact h⟩
    unfold Mo_does
    rw [N.1, if_pos (by decide), if_pos (by decide), if_pos (by decide), if_neg (by decide), m_place V N hm (P.2.2.2 hm), cl_of, N.2.2.1 (by rw [h3]; decide), ej, e2, cv_of]
  · -- PUSH
    have hw : inW (σ G 4 - 4) := Decidable.not_not.mp fun k => hl (Or.inl ⟨rfl, k⟩)
    have h18 : fm = 1 ∨ fm = 8 := by
      rcases P.1 with ⟨_, k, _⟩ | ⟨k, _⟩ | ⟨k, _⟩ | ⟨k, _⟩ | ⟨k, _⟩ | ⟨k, _⟩ | ⟨k, _⟩ | ⟨_, k⟩ | ⟨k, _⟩
      · exact absurd k (by decide)
      · exact absurd k (by decide)
      · exact absurd k (by decide)
      · exact absurd k (by decide)
      · exact absurd k (by decide)
      · exact absurd k (by decide)
      · exact absurd k (by decide)
      · exact k
      · exact absurd k (by decide)
    unfold Mo_does
    rw [N.1, if_neg (show ¬ ¬ (19 : Int32) = 19 by decide), N.2.1]
    simp only [show ¬ (19 : Int32) = 7 by decide, show ¬ (19 : Int32) = 8 by decide, show ¬ (19 : Int32) = 9 by decide, show ¬ (19 : Int32) = 10 by decide, show ¬ (19 : Int32) = 11 by decide, show ¬ (19 : Int32) = 12 by decide, show ¬ (19 : Int32) = 13 by decide, show ¬ (19 : Int32) = 14 by decide, show ¬ (19 : Int32) = 15 by decide, show ¬ (19 : Int32) = 16 by decide, show ¬ (19 : Int32) = 17 by decide, show ¬ (19 : Int32) = 18 by decide, if_false, if_true]
    rw [I.2.1]
    rcases h18 with rfl | rfl
    · have hR := P.2.1 (by decide)
      obtain ⟨σ', τ', e1, e2, q1, q2, q3, q6, _⟩ := v_push H V hw (rgv σ G r)
      rw [if_pos (by decide), if_pos (by decide), I.2.2.1, c_reg H, cl_of, e1, cv_of, N.2.2.1 (by decide), m_reg V hR, cl_of, e2, cv_of]
      exact ⟨σ', τ', rfl, rfl, q1, q2, q3, fun h => by rw [q6]; exact h⟩
    · obtain ⟨σ', τ', e1, e2, q1, q2, q3, q6, _⟩ := v_push H V hw i
      rw [if_neg (by decide), if_neg (by decide), I.2.2.2.2.2, e1, cv_of, N.2.2.2.2.2 (by decide), e2, cv_of]
      exact ⟨σ', τ', rfl, rfl, q1, q2, q3, fun h => by rw [q6]; exact h⟩
  · -- POP
    have hw : inW (σ G 4) := Decidable.not_not.mp fun k => hl (Or.inr (Or.inl ⟨rfl, k⟩))
    have h1 : fm = 1 := by
      rcases P.1 with ⟨_, k, _⟩ | ⟨k, _⟩ | ⟨k, _⟩ | ⟨k, _⟩ | ⟨k, _⟩ | ⟨k, _⟩ | ⟨_, k⟩ | ⟨k, _⟩ | ⟨k, _⟩
      · exact absurd k (by decide)
      · exact absurd k (by decide)
      · exact absurd k (by decide)
      · exact absurd k (by decide)
      · exact absurd k (by decide)
      · exact absurd k (by decide)
      · exact k
      · exact absurd k (by decide)
      · exact absurd k (by decide)
    subst h1
    have hR := P.2.1 (by decide)
    obtain ⟨j, hj, ej⟩ := to_nI (m := 8) hR.1 8 rfl (by decide) hR.2
    obtain ⟨v, σ1, τ1, e1, e2, _, _, _, V1, C1, R1, k6, _⟩ := v_pop H V hw
    obtain ⟨σ', τ', e3, e4, q1, q2, q3, _, _, q6, _⟩ := v_give H V1 hj v
    unfold Mo_does
    rw [N.1, if_pos (show ¬ (20 : Int32) = 19 by decide), if_neg (show ¬ ¬ (20 : Int32) = 20 by decide), e2, cl_of, R1.2.1 58 (by decide), N.2.2.1 (by decide), ej, e4, cv_of]
    simp only [show ¬ (20 : Int32) = 7 by decide, show ¬ (20 : Int32) = 8 by decide, show ¬ (20 : Int32) = 9 by decide, show ¬ (20 : Int32) = 10 by decide, show ¬ (20 : Int32) = 11 by decide, show ¬ (20 : Int32) = 12 by decide, show ¬ (20 : Int32) = 13 by decide, show ¬ (20 : Int32) = 14 by decide, show ¬ (20 : Int32) = 15 by decide, show ¬ (20 : Int32) = 16 by decide, show ¬ (20 : Int32) = 17 by decide, show ¬ (20 : Int32) = 18 by decide, show ¬ (20 : Int32) = 19 by decide, if_false, if_true]
    rw [e1, cl_of, I.2.2.1, ej, e3, cv_of]
    exact ⟨σ', τ', rfl, rfl, q1, fc_tr C1 q2, fr_tr R1 q3, fun h => by rw [q6, k6]; exact h⟩
  · -- NOP
    unfold Mo_does
    rw [N.1, if_pos (show ¬ (21 : Int32) = 19 by decide), if_pos (show ¬ (21 : Int32) = 20 by decide), if_neg (show ¬ (21 : Int32) ≤ 20 by decide)]
    simp only [show ¬ (21 : Int32) = 7 by decide, show ¬ (21 : Int32) = 8 by decide, show ¬ (21 : Int32) = 9 by decide, show ¬ (21 : Int32) = 10 by decide, show ¬ (21 : Int32) = 11 by decide, show ¬ (21 : Int32) = 12 by decide, show ¬ (21 : Int32) = 13 by decide, show ¬ (21 : Int32) = 14 by decide, show ¬ (21 : Int32) = 15 by decide, show ¬ (21 : Int32) = 16 by decide, show ¬ (21 : Int32) = 17 by decide, show ¬ (21 : Int32) = 18 by decide, show ¬ (21 : Int32) = 19 by decide, show ¬ (21 : Int32) = 20 by decide, if_false, if_true]
    exact ⟨_, _, rfl, rfl, V, fc_rf, fr_rf, fun h => h⟩
end
