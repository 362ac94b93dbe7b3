section
variable {τ : St} {op fm r x d i : Int32} {q : Nat}
theorem m_encode (hq : q < 240) (P : POK op fm r x i) (h0 : τ 72 q = op) (h1 : τ 73 q = fm) (h2 : hsR fm → τ 74 q = r) (h3 : fm = 2 ∨ memF fm → τ 75 q = x) (h4 : memF fm → τ 76 q = d) (h5 : hsI fm → τ 77 q = i) : Mo_encode 67 (nI q) τ = some (mP τ (enc op fm r x d i)) := by
  have lx : ∀ (c : Nat) (L : List Int32) (f : Int32 → Option St), c ≠ 67 → c ≠ 83 → ld (mP τ L) c 240 (nI q) f = f (τ c q) := fun c L f h1 h2 => by rw [ld_nI hq (by decide), mP_row h1 h2]
  have lt : ∀ (c : Nat) (f : Int32 → Option St), ld τ c 240 (nI q) f = f (τ c q) := fun c f => ld_nI hq (by decide)
  have n10 : ¬ (1 : Int32) = 0 := by decide
  unfold Mo_encode
  rw [cc_67_12, cc_67_13, cc_67_14, cc_67_15, cc_67_16, cc_67_17, lt, lt, lt, lt, nm_of, mP_nil, lx 73 _ _ (by decide) (by decide), h0, h1]
  obtain ⟨hop, pr, px, pm, _⟩ := P
  have p0 : ∀ a, Mo_put 67 a (mP τ []) = some (mP τ [bt a]) := fun a => m_put (L := []) (by decide) a
  have p1 : ∀ a b, Mo_put 67 b (mP τ [a]) = some (mP τ [a, bt b]) := fun a b => m_put (L := [a]) (by simp) b
  have num : (fm = 5 ∨ fm = 6) → ((¬ op < 0 ∧ op < 9) ∨ op = 14 ∨ op = 15 ∨ op = 16) → Mo_encode_B380 67 (nI q) op (τ 74 q) (τ 75 q) (τ 77 q) (mP τ []) = some (mP τ (enc op fm r x d i)) := by
    intro h56 ho
    unfold Mo_encode_B380
    have hi : τ 77 q = i := h5 (by rcases h56 with e | e; exact Or.inl e; exact Or.inr (Or.inl e))
    rw [hi]
    rcases h56 with e | e
    · have er : τ 74 q = r := h2 (by rw [e]; decide)
      rw [er, m_num (d := d) hq h1 (fun z => by rw [e] at z; exact absurd z (by decide)) (Or.inl e) (fun z => by rw [e] at z; exact absurd z (by decide)) ho, cv_of]
      have : enc op fm r (τ 75 q) d i = enc op fm r x d i := by
        unfold enc eOp eMid
        subst e
        simp [memF]
      rw [this]
    · have ex : τ 75 q = x := h3 (Or.inr (by rw [e]; decide))
      have mx : memX x := (pm (by rw [e]; decide)).1
      rw [ex, m_num (d := d) hq h1 (fun z => h4 (by rw [e]; decide)) (Or.inr e) (fun _ => mx) ho, cv_of]
      have : enc op fm (τ 74 q) x d i = enc op fm r x d i := by
        unfold enc eLead eOp eMid
        subst e
        rcases ho with ⟨y1, y2⟩ | y | y | y
        · obtain ⟨j, hj, rfl⟩ := to_nI (m := 9) y1 9 rfl (by decide) y2
          have z : ∀ j, j < 9 → ¬ (nI j = 17 ∨ nI j = 18 ∨ nI j = 20) ∧ ¬ nI j = 19 := by decide +kernel
          simp [memF, z j hj]
        · simp [memF, y]
        · simp [memF, y]
        · simp [memF, y]
      rw [this]
  rcases hop with ⟨o0, o9, f2, f7⟩ | ⟨rfl, hf⟩ | ⟨rfl, rfl⟩ | ⟨rfl, hf⟩ | ⟨ho, hf⟩ | ⟨ho, hf⟩ | ⟨ho, rfl⟩ | ⟨rfl, hf⟩ | ⟨ho, rfl⟩
  · have hfm : fm = 2 ∨ fm = 3 ∨ fm = 4 ∨ fm = 5 ∨ fm = 6 := by
      obtain ⟨k, hk, rfl⟩ := to_nI (m := 7) (nlt_of f2 (by decide)) 7 rfl (by decide) f7
      have : ∀ k, k < 7 → ¬ nI k < 2 → (nI k = 2 ∨ nI k = 3 ∨ nI k = 4 ∨ nI k = 5 ∨ nI k = 6) := by decide +kernel
      exact this k hk f2
    have o11 : ¬ op = 11 := ne_lt o9 (by decide)
    have o10 : op < 10 := lt_of o9 (by decide)
    -- the first byte, where I isn't told
    have ld1 : ∀ c : Int32, (fm = 2 ∨ fm = 4 → c = if op = 8 then 137 else if op = 9 then 133 else 8 * op + 1) → (fm = 3 → c = if op = 8 then 139 else 8 * op + 3) → (fm = 2 ∨ fm = 3 ∨ fm = 4) → eLead op fm r i = [bt c] := by
      intro c c1 c2 hf
      by_cases o8 : op = 8
      · unfold eLead
        rw [if_pos o8]
        rcases hf with e | e | e
        · rw [c1 (Or.inl e), if_pos o8, e]; rfl
        · rw [c2 e, if_pos o8, e]; rfl
        · rw [c1 (Or.inr e), if_pos o8, e]; rfl
      · have h8 : op < 8 := by
          obtain ⟨j, hj, rfl⟩ := to_nI (m := 9) o0 9 rfl (by decide) o9
          have : ∀ j, j < 9 → ¬ nI j = 8 → nI j < 8 := by decide +kernel
          exact this j hj o8
        have o9' : ¬ op = 9 := ne_lt o9 (by decide)
        rw [eLead_lo h8]
        rcases hf with e | e | e
        · rw [c1 (Or.inl e), if_neg o8, if_neg o9', e]; rfl
        · rw [c2 e, if_neg o8, e]; rfl
        · rw [c1 (Or.inr e), if_neg o8, if_neg o9', e]; rfl
    rcases hfm with e | e | e | e | e
    · subst e
      rw [if_neg (by decide), if_neg (by decide), if_pos rfl, if_pos o11, m_left o0 o10, cl_of, p0, cv_of, m_putR (by simp), cv_of, h2 (by decide), h3 (Or.inl rfl)]
      unfold enc
      rw [ld1 _ (fun _ => rfl) (fun z => absurd z (by decide)) (Or.inl rfl)]
      unfold eOp eVal eMid
      simp [hsO, memF, o11]
    · subst e
      rw [if_neg (by decide), if_neg (by decide), if_neg (by decide), if_pos rfl, if_pos o11, h2 (by decide), h3 (Or.inr (by decide))]
      have hm := (pm (by decide)).1
      have e266 : ∀ t1, Mo_encode_B266 67 (nI q) r x 67 t1 (mP τ []) = some (mP τ ([bt t1] ++ eMem r x d)) := fun t1 => by
        unfold Mo_encode_B266
        rw [p0, cv_of, cc_67_16, lx 76 _ _ (by decide) (by decide), h4 (by decide), m_mem hm (by simp), cv_of]
      unfold Mo_encode_B223
      rw [e266, e266, e266, e266]
      have e : (if 8 ≤ op then if ¬ op = 8 then if ¬ op = 10 then some (mP τ ([bt 175] ++ eMem r x d)) else some (mP τ ([bt 141] ++ eMem r x d)) else some (mP τ ([bt 139] ++ eMem r x d)) else some (mP τ ([bt (3 + 8 * op)] ++ eMem r x d))) = some (mP τ ([bt (if op = 8 then 139 else 8 * op + 3)] ++ eMem r x d)) := by
        by_cases o8 : op = 8
        · rw [o8]; rfl
        · have n8 : ¬ (8 : Int32) ≤ op := by
            obtain ⟨j, hj, rfl⟩ := to_nI (m := 9) o0 9 rfl (by decide) o9
            have : ∀ j, j < 9 → ¬ nI j = 8 → ¬ (8 : Int32) ≤ nI j := by decide +kernel
            exact this j hj o8
          rw [if_neg n8, if_neg o8, Int32.add_comm 3]
      rw [e]
      unfold enc
      rw [ld1 _ (fun z => absurd z (by decide)) (fun _ => rfl) (Or.inr (Or.inl rfl))]
      unfold eOp eVal eMid
      simp [hsO, memF]
    · subst e
      rw [if_neg (by decide), if_neg (by decide), if_neg (by decide), if_neg (by decide), if_pos rfl, m_left o0 o10, cl_of, p0, cv_of, lx 76 _ _ (by decide) (by decide), h2 (by decide), h3 (Or.inr (by decide)), h4 (by decide), m_mem (pm (by decide)).1 (by simp), cv_of]
      unfold enc
      rw [ld1 _ (fun _ => rfl) (fun z => absurd z (by decide)) (Or.inr (Or.inr rfl))]
      unfold eOp eVal eMid
      simp [hsO, memF]
    · have n := num (Or.inl e) (Or.inl ⟨o0, o9⟩)
      subst e
      rw [if_neg (by decide), if_neg (by decide), if_neg (by decide), if_neg (by decide), if_neg (by decide), if_pos rfl, n]
    · have n := num (Or.inr e) (Or.inl ⟨o0, o9⟩)
      subst e
      rw [if_neg (by decide), if_neg (by decide), if_neg (by decide), if_neg (by decide), if_neg (by decide), if_neg (by decide), if_pos rfl, n]
  · rcases hf with e | e
    · subst e
      rw [if_neg (by decide), if_neg (by decide), if_pos rfl, if_pos (by decide), m_left (by decide) (by decide), cl_of, p0, cv_of, m_putR (by simp), cv_of, h2 (by decide), h3 (Or.inl rfl)]
      unfold enc eLead eOp eVal eMid
      simp [hsO, memF]
    · subst e
      rw [if_neg (by decide), if_neg (by decide), if_neg (by decide), if_neg (by decide), if_pos rfl, m_left (by decide) (by decide), cl_of, p0, cv_of, lx 76 _ _ (by decide) (by decide), h2 (by decide), h3 (Or.inr (by decide)), h4 (by decide), m_mem (pm (by decide)).1 (by simp), cv_of]
      unfold enc eLead eOp eVal eMid
      simp [hsO, memF]
  · rw [if_neg (by decide), if_neg (by decide), if_neg (by decide), if_pos rfl, if_pos (by decide), h2 (by decide), h3 (Or.inr (by decide))]
    unfold Mo_encode_B223 Mo_encode_B266
    rw [if_pos (by decide), if_pos (by decide), if_neg (by decide), p0, cv_of, cc_67_16, lx 76 _ _ (by decide) (by decide), h4 (by decide), m_mem (pm (by decide)).1 (by simp), cv_of]
    unfold enc eLead eOp eVal eMid
    simp [hsO, memF]
  · rcases hf with e | e
    · subst e
      rw [if_neg (by decide), if_neg (by decide), if_pos rfl, if_neg (by decide), p0, cv_of, p1, cv_of, m_putR (by simp), cv_of, h2 (by decide), h3 (Or.inl rfl)]
      unfold enc eLead eOp eVal eMid
      simp [hsO, memF]
    · subst e
      rw [if_neg (by decide), if_neg (by decide), if_neg (by decide), if_pos rfl, if_neg (by decide), p0, cv_of, h2 (by decide), h3 (Or.inr (by decide))]
      unfold Mo_encode_B223 Mo_encode_B266
      rw [if_pos (by decide), if_pos (by decide), if_pos (by decide), p1, cv_of, cc_67_16, lx 76 _ _ (by decide) (by decide), h4 (by decide), m_mem (pm (by decide)).1 (by simp), cv_of]
      unfold enc eLead eOp eVal eMid
      simp [hsO, memF]
  · rcases hf with e | e
    · subst e
      rw [if_neg (by decide), if_pos rfl, h2 (by decide)]
      unfold Mo_encode_B126
      rw [p0, cv_of, m_putR (by simp), cv_of]
      unfold enc eLead eOp eVal eMid
      rcases ho with e | e <;> (subst e; simp [hsO, memF])
    · subst e
      rw [if_neg (by decide), if_neg (by decide), if_neg (by decide), if_neg (by decide), if_neg (by decide), if_neg (by decide), if_neg (by decide), if_pos rfl, p0, cv_of, lx 76 _ _ (by decide) (by decide), h3 (Or.inr (by decide)), h4 (by decide), m_mem (pm (by decide)).1 (by simp), cv_of]
      unfold enc eLead eOp eVal eMid
      rcases ho with e | e <;> (subst e; simp [hsO, memF])
  · rcases hf with e | e
    · have n := num (Or.inl e) (Or.inr ho)
      subst e
      rw [if_neg (by decide), if_neg (by decide), if_neg (by decide), if_neg (by decide), if_neg (by decide), if_pos rfl, n]
    · have n := num (Or.inr e) (Or.inr ho)
      subst e
      rw [if_neg (by decide), if_neg (by decide), if_neg (by decide), if_neg (by decide), if_neg (by decide), if_neg (by decide), if_pos rfl, n]
  · rw [if_neg (by decide), if_pos rfl, h2 (by decide), p0, cv_of]
    unfold enc eLead eOp eVal eMid
    rcases ho with e | e | e <;> (subst e; simp [hsO, memF])
  · rcases hf with e | e
    · subst e
      rw [if_neg (by decide), if_pos rfl, h2 (by decide), p0, cv_of]
      unfold enc eLead eOp eVal eMid
      simp [hsO, memF]
    · subst e
      rw [if_neg (by decide), if_neg (by decide), if_neg (by decide), if_neg (by decide), if_neg (by decide), if_neg (by decide), if_neg (by decide), if_neg (by decide), if_pos rfl, mes_eq, cl_of, h5 (by decide)]
      unfold Mo_encode_B351
      rw [p0, cv_of, p0, cv_of, mes_eq, cl_of, mes_eq, cl_of, p1, cv_of, p1, cv_of, m_four (by simp), cv_of, m_four (by simp), cv_of]
      unfold enc eLead eOp eVal eMid
      by_cases hs : smI i
      · simp only [if_pos hs]; simp [hsO, memF, isSh, smI, hs.1, hs.2]
      · simp only [if_neg hs]
        rw [if_neg (show ¬ (isSh 19 ∨ (¬ (19 : Int32) = 8 ∧ smI i)) from fun z => by rcases z with z | z; exact absurd z (by decide); exact hs z.2)]
        simp [hsO]
  · rw [if_pos rfl, p0, p0, cv_of, cv_of]
    unfold enc eLead eOp eVal eMid
    rcases ho with e | e <;> (subst e; simp [hsO, memF])
end
