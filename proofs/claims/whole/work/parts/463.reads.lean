section
variable {σ τ : St} {op fm r x d i : Int32}
theorem mu_eq (h : σ 58 5 = τ 67 40) (k : Int32) : Mo_isUnknown 67 k τ = some (if k = 1 ∧ ¬ σ 58 5 = 0 then 1 else 0, τ) := by
  unfold Mo_isUnknown
  rw [← h]
  by_cases c : k = 1
  · by_cases e : σ 58 5 = 0 <;> simp [c, e]
  · simp [c]
theorem v_reads (V : Vr 58 59 60 61 1 σ τ) (I : Inst σ 66 op fm r x d i) (N : Nrm τ op fm r x d i) (P : opF op fm) : ∃ b, Machine_readsUnknown 58 66 σ = some (b, σ) ∧ Mo_readsUnknown 67 τ = some (b, τ) ∧ (b = 0 ∨ b = 1) := by
  obtain ⟨v1, v2, v3, v4, v5, v6, v7, v8, v9⟩ := id V
  have h40 := v6 rfl
  have l4 : ∀ f : Int32 → Option (Int32 × St), ld τ 89 8 4 f = f (σ 59 0) := fun f => by rw [ld_L 4 4 rfl (by decide) (by decide), v2 0 (by decide)]
  obtain ⟨i0, i1, i2, i3, i4, i5⟩ := I
  obtain ⟨n0, n1, n2, n3, n4, n5⟩ := id N
  have n10 : ¬ (1 : Int32) = 0 := by decide
  -- the class behind the carry, the reference behind it
  have inner : ∃ b, Machine_readsUnknown_B29 58 66 σ = some (b, σ) ∧ (b = 0 ∨ b = 1) ∧ ((∃ c, Mo_memoryUnknown 67 τ = some (c, τ) ∧ ((c = 1 ∧ b = 1) ∨ (c = 0 ∧ Mo_readsUnknown_B37 67 τ = some (b, τ))))) := by
    have mm : Mo_memoryUnknown 67 τ = some (if memF fm ∧ ¬ σ 58 5 = 0 ∧ (x &&& 15 = 1 ∨ (shr x 4) &&& 15 = 1) then 1 else 0, τ) := by
      unfold Mo_memoryUnknown
      rw [m_onMem N, cl_of]
      by_cases cm : memF fm
      · rw [if_pos cm, if_neg (by decide), n3 (Or.inr cm), mu_eq h40, cl_of]
        by_cases q1 : x &&& 15 = 1 ∧ ¬ σ 58 5 = 0
        · rw [if_pos q1, if_pos (by decide), if_pos ⟨cm, q1.2, Or.inl q1.1⟩]
        · rw [if_neg q1, if_neg (by decide), n3 (Or.inr cm), mu_eq h40, cl_of]
          by_cases q2 : (shr x 4) &&& 15 = 1 ∧ ¬ σ 58 5 = 0
          · rw [if_pos q2, if_neg (by decide), if_pos ⟨cm, q2.2, Or.inr q2.1⟩]
          · rw [if_neg q2, if_pos rfl, if_neg]
            rintro ⟨_, z, y | y⟩
            · exact q1 ⟨y, z⟩
            · exact q2 ⟨y, z⟩
      · rw [if_neg cm, if_pos rfl, if_neg (fun h => cm h.1)]
    -- what is left where no address is unknown
    have b37 : Mo_readsUnknown_B37 67 τ = some (if ¬ σ 58 5 = 0 ∧ ((fm = 2 ∧ x = 1) ∨ (hsR fm ∧ r = 1 ∧ ¬ (op = 10 ∨ op = 20 ∨ (op = 8 ∧ ¬ fm = 4)))) then 1 else 0, τ) := by
      have b114 : ∀ t0 : Int32, (t0 = 0 ∨ (t0 = 1 ∧ hsR fm)) → Mo_readsUnknown_B114 67 t0 τ = some (if t0 = 1 ∧ r = 1 ∧ ¬ σ 58 5 = 0 ∧ ¬ (op = 8 ∨ op = 10 ∨ op = 20) then 1 else 0, τ) := by
        intro t0 ht
        unfold Mo_readsUnknown_B114
        rcases ht with rfl | ⟨rfl, hr⟩
        · simp
        · rw [if_neg (by decide), n2 hr, mu_eq h40, cl_of]
          by_cases q : r = 1 ∧ ¬ σ 58 5 = 0
          · rw [if_pos q, if_neg (by decide), n0]
            by_cases o8 : op = 8
            · simp [o8]
            · by_cases o10 : op = 10
              · simp [o10]
              · by_cases o20 : op = 20 <;> simp [o8, o10, o20, q.1, q.2]
          · rw [if_neg q, if_pos rfl, if_neg (fun z => q ⟨z.2.1, z.2.2.1⟩)]
      have hfm : fm = 0 ∨ fm = 1 ∨ fm = 2 ∨ fm = 3 ∨ fm = 4 ∨ fm = 5 ∨ fm = 6 ∨ fm = 7 ∨ fm = 8 := by
        obtain ⟨_, f1, f2⟩ := opF_op P
        obtain ⟨k, hk, rfl⟩ := to_nI (m := 9) f1 9 rfl (by decide) f2
        have : ∀ k, k < 9 → (nI k = 0 ∨ nI k = 1 ∨ nI k = 2 ∨ nI k = 3 ∨ nI k = 4 ∨ nI k = 5 ∨ nI k = 6 ∨ nI k = 7 ∨ nI k = 8) := by decide +kernel
        exact this k hk
      have f4 : fm = 4 → ¬ op = 10 ∧ ¬ op = 20 := by
        intro e
        refine ⟨fun o => ?_, fun o => ?_⟩
        · rw [o, e] at P; revert P; decide
        · rw [o, e] at P; revert P; decide
      unfold Mo_readsUnknown_B37 Mo_readsUnknown_B56 Mo_readsUnknown_B77
      simp only [n1]
      rcases hfm with e | e | e | e | e | e | e | e | e
      · have nr : ¬ hsR fm := by rw [e]; decide
        rw [if_pos (by rw [e]; decide), if_pos (by rw [e]; decide), if_neg (by rw [e]; decide), if_neg (by rw [e]; decide), if_neg (by rw [e]; decide), if_pos (by rw [e]; decide), b114 0 (Or.inl rfl), if_neg (by simp), if_neg (fun z => by rcases z.2 with ⟨y, _⟩ | ⟨y, _⟩; rw [e] at y; exact absurd y (by decide); exact nr y)]
      · have hr : hsR fm := by rw [e]; decide
        rw [if_pos (by rw [e]; decide), if_pos (by rw [e]; decide), if_pos e, b114 1 (Or.inr ⟨rfl, hr⟩)]
        by_cases z : r = 1 ∧ ¬ σ 58 5 = 0 ∧ ¬ (op = 8 ∨ op = 10 ∨ op = 20)
        · rw [if_pos ⟨rfl, z⟩, if_pos ⟨z.2.1, Or.inr ⟨hr, z.1, fun y => z.2.2 (by rcases y with y | y | ⟨y, _⟩; exact Or.inr (Or.inl y); exact Or.inr (Or.inr y); exact Or.inl y)⟩⟩]
        · rw [if_neg (fun y => z y.2), if_neg]
          rintro ⟨y1, ⟨y2, _⟩ | ⟨_, y3, y4⟩⟩
          · rw [e] at y2; exact absurd y2 (by decide)
          · exact z ⟨y3, y1, fun y => y4 (by rcases y with y | y | y; exact Or.inr (Or.inr ⟨y, by rw [e]; decide⟩); exact Or.inl y; exact Or.inr (Or.inl y))⟩
      · have hr : hsR fm := by rw [e]; decide
        rw [if_neg (not_not_intro e), n3 (Or.inl e), mu_eq h40, cl_of]
        by_cases z0 : x = 1 ∧ ¬ σ 58 5 = 0
        · rw [if_pos z0, if_pos (by decide), if_pos ⟨z0.2, Or.inl ⟨e, z0.1⟩⟩]
        · rw [if_neg z0, if_neg (by decide), n1, if_pos (by rw [e]; decide), if_neg (by rw [e]; decide), if_pos e, b114 1 (Or.inr ⟨rfl, hr⟩)]
          by_cases z : r = 1 ∧ ¬ σ 58 5 = 0 ∧ ¬ (op = 8 ∨ op = 10 ∨ op = 20)
          · rw [if_pos ⟨rfl, z⟩, if_pos ⟨z.2.1, Or.inr ⟨hr, z.1, fun y => z.2.2 (by rcases y with y | y | ⟨y, _⟩; exact Or.inr (Or.inl y); exact Or.inr (Or.inr y); exact Or.inl y)⟩⟩]
          · rw [if_neg (fun y => z y.2), if_neg]
            rintro ⟨y1, ⟨y2, y3⟩ | ⟨_, y3, y4⟩⟩
            · exact z0 ⟨y3, y1⟩
            · exact z ⟨y3, y1, fun y => y4 (by rcases y with y | y | y; exact Or.inr (Or.inr ⟨y, by rw [e]; decide⟩); exact Or.inl y; exact Or.inr (Or.inl y))⟩
      · have hr : hsR fm := by rw [e]; decide
        rw [if_pos (by rw [e]; decide), if_pos (by rw [e]; decide), if_neg (by rw [e]; decide), if_neg (by rw [e]; decide), if_pos e, b114 1 (Or.inr ⟨rfl, hr⟩)]
        by_cases z : r = 1 ∧ ¬ σ 58 5 = 0 ∧ ¬ (op = 8 ∨ op = 10 ∨ op = 20)
        · rw [if_pos ⟨rfl, z⟩, if_pos ⟨z.2.1, Or.inr ⟨hr, z.1, fun y => z.2.2 (by rcases y with y | y | ⟨y, _⟩; exact Or.inr (Or.inl y); exact Or.inr (Or.inr y); exact Or.inl y)⟩⟩]
        · rw [if_neg (fun y => z y.2), if_neg]
          rintro ⟨y1, ⟨y2, _⟩ | ⟨_, y3, y4⟩⟩
          · rw [e] at y2; exact absurd y2 (by decide)
          · exact z ⟨y3, y1, fun y => y4 (by rcases y with y | y | y; exact Or.inr (Or.inr ⟨y, by rw [e]; decide⟩); exact Or.inl y; exact Or.inr (Or.inl y))⟩
      · have hr : hsR fm := by rw [e]; decide
        rw [if_pos (by rw [e]; decide), if_neg (not_not_intro e), n2 hr, mu_eq h40, cl_of]
        by_cases z : r = 1 ∧ ¬ σ 58 5 = 0
        · rw [if_pos z, if_neg (by decide), if_pos ⟨z.2, Or.inr ⟨hr, z.1, fun y => by rcases y with y | y | ⟨_, y⟩; exact (f4 e).1 y; exact (f4 e).2 y; exact y e⟩⟩]
        · rw [if_neg z, if_pos rfl, n1, if_neg (by rw [e]; decide), if_neg (by rw [e]; decide), if_neg (by rw [e]; decide), if_pos (by rw [e]; decide), b114 0 (Or.inl rfl), if_neg (by simp), if_neg]
          rintro ⟨y1, ⟨y2, _⟩ | ⟨_, y3, _⟩⟩
          · rw [e] at y2; exact absurd y2 (by decide)
          · exact z ⟨y3, y1⟩
      · have hr : hsR fm := by rw [e]; decide
        rw [if_pos (by rw [e]; decide), if_pos (by rw [e]; decide), if_neg (by rw [e]; decide), if_neg (by rw [e]; decide), if_neg (by rw [e]; decide), if_neg (not_not_intro e), b114 1 (Or.inr ⟨rfl, hr⟩)]
        by_cases z : r = 1 ∧ ¬ σ 58 5 = 0 ∧ ¬ (op = 8 ∨ op = 10 ∨ op = 20)
        · rw [if_pos ⟨rfl, z⟩, if_pos ⟨z.2.1, Or.inr ⟨hr, z.1, fun y => z.2.2 (by rcases y with y | y | ⟨y, _⟩; exact Or.inr (Or.inl y); exact Or.inr (Or.inr y); exact Or.inl y)⟩⟩]
        · rw [if_neg (fun y => z y.2), if_neg]
          rintro ⟨y1, ⟨y2, _⟩ | ⟨_, y3, y4⟩⟩
          · rw [e] at y2; exact absurd y2 (by decide)
          · exact z ⟨y3, y1, fun y => y4 (by rcases y with y | y | y; exact Or.inr (Or.inr ⟨y, by rw [e]; decide⟩); exact Or.inl y; exact Or.inr (Or.inl y))⟩
      all_goals
        have nr : ¬ hsR fm := by rw [e]; decide
        rw [if_pos (by rw [e]; decide), if_pos (by rw [e]; decide), if_neg (by rw [e]; decide), if_neg (by rw [e]; decide), if_neg (by rw [e]; decide), if_pos (by rw [e]; decide), b114 0 (Or.inl rfl), if_neg (by simp), if_neg (fun z => by rcases z.2 with ⟨y, _⟩ | ⟨y, _⟩; rw [e] at y; exact absurd y (by decide); exact nr y)]
    -- the class
    have cB : Machine_readsUnknown_B29 58 66 σ = some (if memF fm ∧ ¬ σ 58 5 = 0 ∧ (x &&& 15 = 1 ∨ (shr x 4) &&& 15 = 1) then 1 else if ¬ σ 58 5 = 0 ∧ ((fm = 2 ∧ x = 1) ∨ (hsR fm ∧ r = 1 ∧ ¬ (op = 10 ∨ op = 20 ∨ (op = 8 ∧ ¬ fm = 4)))) then 1 else 0, σ) := by
      have c113 : ∀ t0 : Int32, (t0 = 0 ∨ t0 = 1) → Machine_readsUnknown_B113 66 t0 σ = some (if t0 = 1 ∧ ¬ (op = 10 ∨ op = 20 ∨ (op = 8 ∧ ¬ fm = 4)) then 1 else 0, σ) := by
        intro t0 ht
        unfold Machine_readsUnknown_B113
        rw [i0, i1]
        rcases ht with rfl | rfl
        · simp
        · by_cases o10 : op = 10
          · simp [o10]
          · by_cases o20 : op = 20
            · simp [o20]
            · by_cases o8 : op = 8
              · by_cases f4 : fm = 4 <;> simp [o8, f4]
              · simp [o10, o20, o8]
      have c66 : Machine_readsUnknown_B66 66 σ = some (if (fm = 2 ∧ x = 1) ∨ (hsR fm ∧ r = 1 ∧ ¬ (op = 10 ∨ op = 20 ∨ (op = 8 ∧ ¬ fm = 4))) then 1 else 0, σ) := by
        have c84 : Machine_readsUnknown_B84 66 σ = some (if hsR fm ∧ r = 1 ∧ ¬ (op = 10 ∨ op = 20 ∨ (op = 8 ∧ ¬ fm = 4)) then 1 else 0, σ) := by
          unfold Machine_readsUnknown_B84
          simp only [i1, i2, gt_lt 5 6 rfl]
          by_cases q1 : fm < 1
          · rw [if_pos q1, c113 0 (Or.inl rfl), if_neg (by simp), if_neg (fun z => z.1.1 q1)]
          · rw [if_neg q1]
            by_cases q2 : fm < 6
            · rw [if_neg (not_not_intro q2)]
              by_cases q3 : r = 1
              · rw [if_neg (not_not_intro q3), c113 1 (Or.inr rfl)]
                by_cases q4 : op = 10 ∨ op = 20 ∨ (op = 8 ∧ ¬ fm = 4)
                · rw [if_neg (fun z => z.2 q4), if_neg (fun z => z.2.2 q4)]
                · rw [if_pos ⟨rfl, q4⟩, if_pos ⟨⟨q1, q2⟩, q3, q4⟩]
              · rw [if_pos q3, c113 0 (Or.inl rfl), if_neg (by simp), if_neg (fun z => q3 z.2.1)]
            · rw [if_pos q2, c113 0 (Or.inl rfl), if_neg (by simp), if_neg (fun z => q2 z.1.2)]
        unfold Machine_readsUnknown_B66
        rw [i1, i3, c84]
        by_cases q1 : fm = 2
        · rw [if_neg (not_not_intro q1)]
          by_cases q2 : x = 1
          · rw [if_neg (not_not_intro q2), if_pos (Or.inl ⟨q1, q2⟩)]
          · rw [if_pos q2]
            by_cases q3 : hsR fm ∧ r = 1 ∧ ¬ (op = 10 ∨ op = 20 ∨ (op = 8 ∧ ¬ fm = 4))
            · rw [if_pos q3, if_pos (Or.inr q3)]
            · rw [if_neg q3, if_neg (fun z => by rcases z with z | z; exact q2 z.2; exact q3 z)]
        · rw [if_pos q1]
          by_cases q3 : hsR fm ∧ r = 1 ∧ ¬ (op = 10 ∨ op = 20 ∨ (op = 8 ∧ ¬ fm = 4))
          · rw [if_pos q3, if_pos (Or.inr q3)]
          · rw [if_neg q3, if_neg (fun z => by rcases z with z | z; exact q1 z.1; exact q3 z)]
      unfold Machine_readsUnknown_B29 Instruction_base Instruction_index
      simp only [i1, i3, hmf_eq, c66, cl_of]
      by_cases h5 : σ 58 5 = 0
      · rw [if_neg (not_not_intro h5), if_neg (fun z => z.2.1 h5), if_neg (fun z => z.1 h5)]
      · rw [if_pos h5]
        by_cases cm : memF fm
        · rw [if_pos cm, if_neg (by decide)]
          by_cases q1 : x &&& 15 = 1
          · rw [if_pos q1, if_pos ⟨cm, h5, Or.inl q1⟩]
          · rw [if_neg q1]
            by_cases q2 : (shr x 4) &&& 15 = 1
            · rw [if_neg (not_not_intro q2), if_pos ⟨cm, h5, Or.inr q2⟩]
            · rw [if_pos q2, if_neg (show ¬ (memF fm ∧ ¬ σ 58 5 = 0 ∧ (x &&& 15 = 1 ∨ (shr x 4) &&& 15 = 1)) from fun z => by rcases z.2.2 with y | y; exact q1 y; exact q2 y)]
              by_cases q3 : (fm = 2 ∧ x = 1) ∨ (hsR fm ∧ r = 1 ∧ ¬ (op = 10 ∨ op = 20 ∨ (op = 8 ∧ ¬ fm = 4)))
              · rw [if_pos q3, if_pos ⟨h5, q3⟩]
              · rw [if_neg q3, if_neg (fun z => q3 z.2)]
        · rw [if_neg cm, if_pos rfl, if_neg (show ¬ (memF fm ∧ ¬ σ 58 5 = 0 ∧ (x &&& 15 = 1 ∨ (shr x 4) &&& 15 = 1)) from fun z => cm z.1)]
          by_cases q3 : (fm = 2 ∧ x = 1) ∨ (hsR fm ∧ r = 1 ∧ ¬ (op = 10 ∨ op = 20 ∨ (op = 8 ∧ ¬ fm = 4)))
          · rw [if_pos q3, if_pos ⟨h5, q3⟩]
          · rw [if_neg q3, if_neg (fun z => q3 z.2)]
    rw [cB, mm, b37]
    by_cases z1 : memF fm ∧ ¬ σ 58 5 = 0 ∧ (x &&& 15 = 1 ∨ (shr x 4) &&& 15 = 1)
    · rw [if_pos z1, if_pos z1]; exact ⟨1, rfl, Or.inr rfl, 1, rfl, Or.inl ⟨rfl, rfl⟩⟩
    · rw [if_neg z1, if_neg z1]
      by_cases z2 : ¬ σ 58 5 = 0 ∧ ((fm = 2 ∧ x = 1) ∨ (hsR fm ∧ r = 1 ∧ ¬ (op = 10 ∨ op = 20 ∨ (op = 8 ∧ ¬ fm = 4))))
      · rw [if_pos z2]; exact ⟨1, rfl, Or.inr rfl, 0, rfl, Or.inr ⟨rfl, rfl⟩⟩
      · rw [if_neg z2]; exact ⟨0, rfl, Or.inl rfl, 0, rfl, Or.inr ⟨rfl, rfl⟩⟩
  obtain ⟨b, e1, hb, c, e2, e3⟩ := inner
  unfold Machine_readsUnknown Mo_readsUnknown Mo_readsUnknown_B25
  rw [i0, cc_58_0, e1, e2, cl_of, n0, cc_67_32, l4]
  by_cases o : op = 2 ∨ op = 3
  · have ec : (if op = 2 then (if ¬ σ 59 0 = 2 then some (b, σ) else some (1, σ)) else if ¬ op = 3 then some (b, σ) else if ¬ σ 59 0 = 2 then some (b, σ) else some (1, σ)) = if σ 59 0 = 2 then some (1, σ) else some (b, σ) := by
      rcases o with o | o
      · by_cases q : σ 59 0 = 2 <;> simp [o, q]
      · by_cases q : σ 59 0 = 2 <;> simp [o, q]
    rw [ec]
    have em : (if op = 2 then (if ¬ σ 59 0 = 2 then Mo_readsUnknown_B37 67 τ else some (1, τ)) else if ¬ op = 3 then Mo_readsUnknown_B37 67 τ else if ¬ σ 59 0 = 2 then Mo_readsUnknown_B37 67 τ else some (1, τ)) = if σ 59 0 = 2 then some (1, τ) else Mo_readsUnknown_B37 67 τ := by
      rcases o with o | o
      · by_cases q : σ 59 0 = 2 <;> simp [o, q]
      · by_cases q : σ 59 0 = 2 <;> simp [o, q]
    rw [em]
    rcases e3 with ⟨rfl, rfl⟩ | ⟨rfl, e3⟩
    · rw [if_neg (show ¬ (1 : Int32) = 0 by decide)]
      by_cases q : σ 59 0 = 2
      · rw [if_pos q]; exact ⟨1, rfl, rfl, Or.inr rfl⟩
      · rw [if_neg q]; exact ⟨1, rfl, rfl, Or.inr rfl⟩
    · rw [if_pos rfl, e3]
      by_cases q : σ 59 0 = 2
      · rw [if_pos q, if_pos q]; exact ⟨1, rfl, rfl, Or.inr rfl⟩
      · rw [if_neg q, if_neg q]; exact ⟨b, rfl, rfl, hb⟩
  · have o2 : ¬ op = 2 := fun h => o (Or.inl h)
    have o3 : ¬ op = 3 := fun h => o (Or.inr h)
    rw [if_neg o2, if_pos o3, if_neg o2, if_pos o3]
    rcases e3 with ⟨rfl, rfl⟩ | ⟨rfl, e3⟩
    · rw [if_neg (by decide)]; exact ⟨1, rfl, rfl, Or.inr rfl⟩
    · rw [if_pos rfl, e3]; exact ⟨b, rfl, rfl, hb⟩
end
