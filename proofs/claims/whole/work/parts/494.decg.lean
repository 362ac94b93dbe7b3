section
variable {row : Nat → Int32} {n p : Nat} {op fm r x d i : Int32}
theorem sdL1 : ∀ j, j < 8 → sd (bt (8 * nI j + 1)) = (1, nI j, 0, 0, 0) ∧ ¬ bt (8 * nI j + 1) = 15 := by decide +kernel
theorem sdL3 : ∀ j, j < 8 → sd (bt (8 * nI j + 3)) = (2, nI j, 0, 0, 0) ∧ ¬ bt (8 * nI j + 3) = 15 := by decide +kernel
theorem sdM : ∀ j, j < 8 → sd (bt (184 + nI j)) = (0, 8, 5, nI j, 4) ∧ ¬ bt (184 + nI j) = 15 := by decide +kernel
theorem sdI17 : ∀ j, j < 8 → sd (bt ((64 + 8 * (17 - 17)) + nI j)) = (0, 17, 1, nI j, 0) ∧ ¬ bt ((64 + 8 * (17 - 17)) + nI j) = 15 := by decide +kernel
theorem sdI18 : ∀ j, j < 8 → sd (bt ((64 + 8 * (18 - 17)) + nI j)) = (0, 18, 1, nI j, 0) ∧ ¬ bt ((64 + 8 * (18 - 17)) + nI j) = 15 := by decide +kernel
theorem sdI20 : ∀ j, j < 8 → sd (bt ((64 + 8 * (20 - 17)) + nI j)) = (0, 20, 1, nI j, 0) ∧ ¬ bt ((64 + 8 * (20 - 17)) + nI j) = 15 := by decide +kernel
theorem sdI19 : ∀ j, j < 8 → sd (bt (80 + nI j)) = (0, 19, 1, nI j, 0) ∧ ¬ bt (80 + nI j) = 15 := by decide +kernel
/-- what is told of one piece -/
def DcP (row : Nat → Int32) (n p e : Nat) : Prop := ∃ o f r x d i, dc row n p = some (o, f, r, x, d, i, e) ∧ PlO o
theorem inR_nI {v : Int32} (h : inR v) : ∃ k, k < 8 ∧ v = nI k := to_nI (m := 8) h.1 8 rfl (by decide) h.2
theorem pl_lo : ∀ j, j < 23 → PlO (nI j) := by decide +kernel
theorem enc_dc (P : POK op fm r x i) (H : Hld row p (enc op fm r x d i)) (hn : p + (enc op fm r x d i).length ≤ n) : DcP row n p (p + (enc op fm r x d i).length) := by
  obtain ⟨hop, pr, px, pm, _⟩ := P
  -- how an operand in a register, one in memory, none is told
  have fR : ∀ (l os o f0 r0 vs o' f' r' x'' : Int32) (k e : Nat) (val : List Int32), enc op fm r x d i = (l :: [bt ((192 + 8 * nI k) + nI e)]) ++ val → k < 8 → e < 8 → ¬ l = 15 → sd l = (os, o, f0, r0, vs) → ¬ os = 9 → ¬ os = 0 → gf l os o vs (nI k) (nI e) 1 0 = some (o', f', r', x'') → VO vs val.length → PlO o' → DcP row n p (p + (enc op fm r x d i).length) := by
    intro l os o f0 r0 vs o' f' r' x'' k e val he hk he' h15 hs h9 h0 hg hv hP
    rw [he] at H hn ⊢
    have hl : ((l :: [bt ((192 + 8 * nI k) + nI e)]) ++ val).length = 2 + val.length := by simp; omega
    rw [hl] at hn ⊢
    obtain ⟨v1, t, _⟩ := dcR hk he' H hn h15 hs h9 h0 hg hv
    exact ⟨_, _, _, _, _, _, t, hP⟩
  have fM : ∀ (l os o f0 r0 vs o' : Int32) (k : Nat) (val : List Int32), enc op fm r x d i = (l :: eMem (nI k) x d) ++ val → memF fm → k < 8 → ¬ l = 15 → sd l = (os, o, f0, r0, vs) → ¬ os = 9 → ¬ os = 0 → (∀ lo x', ∃ f' r' x'', gf l os o vs (nI k) lo 0 x' = some (o', f', r', x'')) → VO vs val.length → PlO o' → DcP row n p (p + (enc op fm r x d i).length) := by
    intro l os o f0 r0 vs o' k val he hm hk h15 hs h9 h0 hg hv hP
    rw [he] at H hn ⊢
    have hl : ((l :: eMem (nI k) x d) ++ val).length = 1 + (eMem (nI k) x d).length + val.length := by simp; omega
    rw [hl] at hn ⊢
    obtain ⟨m1, m2, _⟩ := pm hm
    obtain ⟨_, _, _, _, _, t⟩ := dcM m1 m2 hk H hn h15 hs h9 h0 hg hv
    exact ⟨_, _, _, _, _, _, t, hP⟩
  have fN : ∀ (l o f r0 vs : Int32) (val : List Int32), enc op fm r x d i = l :: val → ¬ l = 15 → sd l = (0, o, f, r0, vs) → VO vs val.length → PlO o → DcP row n p (p + (enc op fm r x d i).length) := by
    intro l o f r0 vs val he h15 hs hv hP
    rw [he] at H hn ⊢
    have hl : (l :: val).length = 1 + val.length := by simp; omega
    rw [hl] at hn ⊢
    obtain ⟨v1, t, _⟩ := dcN H hn h15 hs hv
    exact ⟨_, _, _, _, _, _, t, hP⟩
  rcases hop with ⟨o0, o9, f2, f7⟩ | ⟨rfl, hf⟩ | ⟨rfl, rfl⟩ | ⟨rfl, hf⟩ | ⟨ho, hf⟩ | ⟨ho, hf⟩ | ⟨ho, rfl⟩ | ⟨rfl, hf⟩ | ⟨ho, rfl⟩
  · obtain ⟨j, hj, rfl⟩ := to_nI (m := 9) o0 9 rfl (by decide) o9
    have hfm : fm = 2 ∨ fm = 3 ∨ fm = 4 ∨ fm = 5 ∨ fm = 6 := by
      obtain ⟨k, hk, rfl⟩ := to_nI (m := 7) (nlt_of f2 (by decide)) 7 rfl (by decide) f7
      have : ∀ k, k < 7 → ¬ nI k < 2 → (nI k = 2 ∨ nI k = 3 ∨ nI k = 4 ∨ nI k = 5 ∨ nI k = 6) := by decide +kernel
      exact this k hk f2
    have o11 : ¬ nI j = 11 := ne_lt o9 (by decide)
    have pj : PlO (nI j) := pl_lo j (by omega)
    -- the first byte where I isn't told
    have ld1 : (fm = 2 ∨ fm = 4) → ∃ l, eLead (nI j) fm r i = [l] ∧ ¬ l = 15 ∧ sd l = (1, nI j, 0, 0, 0) := by
      intro hf
      by_cases j8 : j = 8
      · subst j8
        refine ⟨bt 137, ?_, by decide, by decide⟩
        unfold eLead; rw [if_pos (by decide)]
        rcases hf with e | e <;> rw [e] <;> rfl
      · have h8 : nI j < 8 := lf_lt 8 8 j rfl (by omega) (by decide)
        refine ⟨bt (8 * nI j + 1), ?_, (sdL1 j (by omega)).2, (sdL1 j (by omega)).1⟩
        rw [eLead_lo h8]
        rcases hf with e | e <;> rw [e] <;> rfl
    have ld3 : fm = 3 → ∃ l, eLead (nI j) fm r i = [l] ∧ ¬ l = 15 ∧ sd l = (2, nI j, 0, 0, 0) := by
      intro e
      by_cases j8 : j = 8
      · subst j8
        refine ⟨bt 139, ?_, by decide, by decide⟩
        unfold eLead; rw [if_pos (by decide), e]; rfl
      · have h8 : nI j < 8 := lf_lt 8 8 j rfl (by omega) (by decide)
        refine ⟨bt (8 * nI j + 3), ?_, (sdL3 j (by omega)).2, (sdL3 j (by omega)).1⟩
        rw [eLead_lo h8, e]; rfl
    rcases hfm with e | e | e | e | e
    · obtain ⟨l, l1, l2, l3⟩ := ld1 (Or.inl e)
      obtain ⟨kr, hr, er⟩ := inR_nI (pr (by rw [e]; decide))
      obtain ⟨kx, hx, ex⟩ := inR_nI (px e)
      refine fR l 1 (nI j) 0 0 0 (nI j) 2 (nI kr) (nI kx) kx kr [] ?_ hx hr l2 l3 (by decide) (by decide) (by unfold gf; rw [if_pos rfl, if_neg (by decide)]) (Or.inl ⟨rfl, rfl⟩) pj
      unfold enc
      rw [l1]
      unfold eOp eVal eMid
      subst e
      simp [hsO, memF, o11, er, ex]
    · obtain ⟨l, l1, l2, l3⟩ := ld3 e
      obtain ⟨kr, hr, er⟩ := inR_nI (pr (by rw [e]; decide))
      refine fM l 2 (nI j) 0 0 0 (nI j) kr [] ?_ (by rw [e]; decide) hr l2 l3 (by decide) (by decide) (fun lo x' => ⟨3, nI kr, x', by unfold gf; rw [if_neg (by decide), if_pos rfl, if_pos rfl]⟩) (Or.inl ⟨rfl, rfl⟩) pj
      unfold enc
      rw [l1]
      unfold eOp eVal eMid
      subst e
      simp [hsO, memF, er]
    · obtain ⟨l, l1, l2, l3⟩ := ld1 (Or.inr e)
      obtain ⟨kr, hr, er⟩ := inR_nI (pr (by rw [e]; decide))
      refine fM l 1 (nI j) 0 0 0 (nI j) kr [] ?_ (by rw [e]; decide) hr l2 l3 (by decide) (by decide) (fun lo x' => ⟨4, nI kr, x', by unfold gf; rw [if_pos rfl, if_pos rfl]⟩) (Or.inl ⟨rfl, rfl⟩) pj
      unfold enc
      rw [l1]
      unfold eOp eVal eMid
      subst e
      simp [hsO, memF, er]
    · obtain ⟨kr, hr, er⟩ := inR_nI (pr (by rw [e]; decide))
      subst e
      by_cases j8 : j = 8
      · subst j8
        refine fN (bt (184 + nI kr)) 8 5 (nI kr) 4 (four i) ?_ (sdM kr hr).2 (sdM kr hr).1 (Or.inr (Or.inr ⟨rfl, rfl⟩)) (by decide)
        unfold enc eLead eOp eVal
        rw [if_pos (by decide), if_pos rfl, if_neg (by decide), if_pos (Or.inl rfl), if_neg (fun z => by rcases z with z | z; exact absurd z (by decide); exact z.1 (by decide)), er]
        rfl
      · have h8 : nI j < 8 := lf_lt 8 8 j rfl (by omega) (by decide)
        have n8 : ¬ nI j = 8 := ne_lt h8 (by decide)
        have nsh : ¬ isSh (nI j) := fun z => z.1 (lt_of h8 (by decide))
        have ev : enc (nI j) 5 r x d i = ((bt (if smI i then 131 else 129)) :: [bt ((192 + 8 * nI j) + nI kr)]) ++ (if smI i then [bt i] else four i) := by
          unfold enc eOp eVal
          rw [eLead_lo h8, if_pos (show (5 : Int32) = 5 ∨ (5 : Int32) = 6 from Or.inl rfl), if_pos (show hsO (nI j) 5 from Or.inr ⟨by decide, by decide, by decide, fun z => n8 z.2⟩), if_neg (show ¬ memF 5 by decide), if_pos (show (5 : Int32) = 5 ∨ (5 : Int32) = 6 ∨ (5 : Int32) = 8 from Or.inl rfl), eMid_lo h8 (by decide) (by decide) (by decide), if_neg (show ¬ ((5 : Int32) = 2 ∧ nI j = 11) from fun z => absurd z.1 (by decide)), er]
          by_cases hs : smI i
          · rw [if_pos hs, if_pos hs, if_pos (show isSh (nI j) ∨ (¬ nI j = 8 ∧ smI i) from Or.inr ⟨n8, hs⟩)]; rfl
          · rw [if_neg hs, if_neg hs, if_neg (show ¬ (isSh (nI j) ∨ (¬ nI j = 8 ∧ smI i)) from fun z => by rcases z with z | z; exact nsh z; exact hs z.2)]; rfl
        have jm : ¬ nI j = -1 := fun z => nI_pos (n := j) (by omega) (by rw [z]; decide)
        by_cases hs : smI i
        · rw [if_pos hs, if_pos hs] at ev
          exact fR (bt 131) 3 0 0 0 1 (nI j) 5 (nI kr) 0 j kr [bt i] ev (by omega) hr (by decide) (by decide) (by decide) (by decide) (by unfold gf gop; rw [if_neg (by decide), if_neg (by decide)]; simp only [show ¬ bt 131 = 193 by decide, show ¬ bt 131 = 199 by decide, show ¬ bt 131 = 247 by decide, show ¬ bt 131 = 255 by decide, if_false, jm, show ¬ (1 : Int32) = 0 by decide]) (Or.inr (Or.inl ⟨Or.inl rfl, rfl⟩)) pj
        · rw [if_neg hs, if_neg hs] at ev
          exact fR (bt 129) 3 0 0 0 4 (nI j) 5 (nI kr) 0 j kr (four i) ev (by omega) hr (by decide) (by decide) (by decide) (by decide) (by unfold gf gop; rw [if_neg (by decide), if_neg (by decide)]; simp only [show ¬ bt 129 = 193 by decide, show ¬ bt 129 = 199 by decide, show ¬ bt 129 = 247 by decide, show ¬ bt 129 = 255 by decide, if_false, jm, show ¬ (1 : Int32) = 0 by decide, show ¬ (4 : Int32) = 0 by decide]) (Or.inr (Or.inr ⟨rfl, rfl⟩)) pj
    · subst e
      by_cases j8 : j = 8
      · subst j8
        refine fM (bt 199) 3 8 0 0 4 8 0 (four i) ?_ (by decide) (by decide) (by decide) (by decide) (by decide) (by decide) (fun lo x' => ⟨6, 0, x', ?_⟩) (Or.inr (Or.inr ⟨rfl, rfl⟩)) (by decide)
        · have a1 : eLead (nI 8) 6 r i = [bt 199] := by unfold eLead; rw [if_pos (show nI 8 = (8 : Int32) from rfl), if_neg (by decide), if_pos rfl]
          have a2 : eOp (nI 8) 6 r x d = eMem (nI 0) x d := by
            unfold eOp eMid
            rw [if_pos (show hsO (nI 8) 6 by decide), if_pos (show memF 6 by decide), if_neg (by decide), if_neg (by decide), if_pos (show nI 8 = (8 : Int32) from rfl)]; rfl
          have a3 : eVal (nI 8) 6 i = four i := by
            unfold eVal
            rw [if_pos (show (6 : Int32) = 5 ∨ (6 : Int32) = 6 ∨ (6 : Int32) = 8 from Or.inr (Or.inl rfl)), if_neg (show ¬ (isSh (nI 8) ∨ (¬ nI 8 = 8 ∧ smI i)) from fun z => by rcases z with z | z; exact absurd z (by decide); exact z.1 rfl)]
          unfold enc
          rw [a1, a2, a3]; rfl
        · unfold gf gop
          rw [if_neg (by decide), if_neg (by decide)]; simp only [show ¬ bt 199 = 193 by decide, show bt 199 = 199 by decide, if_true, if_false, show nI 0 = (0 : Int32) by decide, show ¬ (8 : Int32) = -1 by decide, show ¬ (199 : Int32) = 193 by decide, show ¬ (4 : Int32) = 0 by decide]
      · have h8 : nI j < 8 := lf_lt 8 8 j rfl (by omega) (by decide)
        have n8 : ¬ nI j = 8 := ne_lt h8 (by decide)
        have nsh : ¬ isSh (nI j) := fun z => z.1 (lt_of h8 (by decide))
        have ev : enc (nI j) 6 r x d i = ((bt (if smI i then 131 else 129)) :: eMem (nI j) x d) ++ (if smI i then [bt i] else four i) := by
          unfold enc eOp eVal
          rw [eLead_lo h8, if_pos (show (6 : Int32) = 5 ∨ (6 : Int32) = 6 from Or.inr rfl), if_pos (show hsO (nI j) 6 from Or.inr ⟨by decide, by decide, by decide, fun z => n8 z.2⟩), if_pos (show memF 6 by decide), if_pos (show (6 : Int32) = 5 ∨ (6 : Int32) = 6 ∨ (6 : Int32) = 8 from Or.inr (Or.inl rfl)), eMid_lo h8 (by decide) (by decide) (by decide)]
          by_cases hs : smI i
          · rw [if_pos hs, if_pos hs, if_pos (show isSh (nI j) ∨ (¬ nI j = 8 ∧ smI i) from Or.inr ⟨n8, hs⟩)]; rfl
          · rw [if_neg hs, if_neg hs, if_neg (show ¬ (isSh (nI j) ∨ (¬ nI j = 8 ∧ smI i)) from fun z => by rcases z with z | z; exact nsh z; exact hs z.2)]; rfl
        have jm : ¬ nI j = -1 := fun z => nI_pos (n := j) (by omega) (by rw [z]; decide)
        by_cases hs : smI i
        · rw [if_pos hs, if_pos hs] at ev
          exact fM (bt 131) 3 0 0 0 1 (nI j) j [bt i] ev (by decide) (by omega) (by decide) (by decide) (by decide) (by decide) (fun lo x' => ⟨6, 0, x', by unfold gf gop; rw [if_neg (by decide), if_neg (by decide)]; simp only [show ¬ bt 131 = 193 by decide, show ¬ bt 131 = 199 by decide, show ¬ bt 131 = 247 by decide, show ¬ bt 131 = 255 by decide, if_false, if_true, jm, show ¬ (1 : Int32) = 0 by decide]⟩) (Or.inr (Or.inl ⟨Or.inl rfl, rfl⟩)) pj
        · rw [if_neg hs, if_neg hs] at ev
          exact fM (bt 129) 3 0 0 0 4 (nI j) j (four i) ev (by decide) (by omega) (by decide) (by decide) (by decide) (by decide) (fun lo x' => ⟨6, 0, x', by unfold gf gop; rw [if_neg (by decide), if_neg (by decide)]; simp only [show ¬ bt 129 = 193 by decide, show ¬ bt 129 = 199 by decide, show ¬ bt 129 = 247 by decide, show ¬ bt 129 = 255 by decide, if_false, if_true, jm, show ¬ (4 : Int32) = 0 by decide]⟩) (Or.inr (Or.inr ⟨rfl, rfl⟩)) pj
  · rcases hf with e | e
    · obtain ⟨kr, hr, er⟩ := inR_nI (pr (by rw [e]; decide))
      obtain ⟨kx, hx, ex⟩ := inR_nI (px e)
      subst e
      exact fR (bt 133) 1 9 0 0 0 9 2 (nI kr) (nI kx) kx kr [] (by unfold enc eLead eOp eVal eMid; simp [hsO, memF, er, ex]) hx hr (by decide) (by decide) (by decide) (by decide) (by unfold gf; rw [if_pos rfl, if_neg (by decide)]) (Or.inl ⟨rfl, rfl⟩) (by decide)
    · obtain ⟨kr, hr, er⟩ := inR_nI (pr (by rw [e]; decide))
      subst e
      exact fM (bt 133) 1 9 0 0 0 9 kr [] (by unfold enc eLead eOp eVal eMid; simp [hsO, memF, er]) (by decide) hr (by decide) (by decide) (by decide) (by decide) (fun lo x' => ⟨4, nI kr, x', by unfold gf; rw [if_pos rfl, if_pos rfl]⟩) (Or.inl ⟨rfl, rfl⟩) (by decide)
  · obtain ⟨kr, hr, er⟩ := inR_nI (pr (by decide))
    exact fM (bt 141) 2 10 0 0 0 10 kr [] (by unfold enc eLead eOp eVal eMid; simp [hsO, memF, er]) (by decide) hr (by decide) (by decide) (by decide) (by decide) (fun lo x' => ⟨3, nI kr, x', by unfold gf; rw [if_neg (by decide), if_pos rfl, if_pos rfl]⟩) (Or.inl ⟨rfl, rfl⟩) (by decide)
  · rcases hf with e | e
    · obtain ⟨kr, hr, er⟩ := inR_nI (pr (by rw [e]; decide))
      obtain ⟨kx, hx, ex⟩ := inR_nI (px e)
      subst e
      have ev : enc 11 2 r x d i = bt 15 :: bt 175 :: [bt ((192 + 8 * nI kr) + nI kx)] := by unfold enc eLead eOp eVal eMid; simp [hsO, memF, er, ex]
      rw [ev] at H hn ⊢
      obtain ⟨_, _, _, _, _, t⟩ := dc15R hr hx H hn
      exact ⟨_, _, _, _, _, _, t, by decide⟩
    · obtain ⟨kr, hr, er⟩ := inR_nI (pr (by rw [e]; decide))
      subst e
      have ev : enc 11 3 r x d i = bt 15 :: bt 175 :: eMem (nI kr) x d := by unfold enc eLead eOp eVal eMid; simp [hsO, memF, er]
      rw [ev] at H hn ⊢
      have hl : (bt 15 :: bt 175 :: eMem (nI kr) x d).length = 2 + (eMem (nI kr) x d).length := by simp; omega
      rw [hl] at hn ⊢
      obtain ⟨m1, m2, _⟩ := pm (by decide)
      obtain ⟨_, _, _, _, _, t⟩ := dc15M m1 m2 hr H hn
      exact ⟨_, _, _, _, _, _, t, by decide⟩
  · rcases hf with e | e
    · obtain ⟨kr, hr, er⟩ := inR_nI (pr (by rw [e]; decide))
      subst e
      rcases ho with e | e
      · subst e
        exact fR (bt 247) 3 12 0 0 0 12 1 (nI kr) 0 2 kr [] (by unfold enc eLead eOp eVal eMid; simp [hsO, memF, er]; rfl) (by decide) hr (by decide) (by decide) (by decide) (by decide) (by unfold gf; rw [if_neg (by decide), if_neg (by decide), show gop (bt 247) (nI 2) 1 = 12 from by decide, if_neg (by decide), if_neg (by decide), if_pos rfl]) (Or.inl ⟨rfl, rfl⟩) (by decide)
      · subst e
        exact fR (bt 247) 3 12 0 0 0 13 1 (nI kr) 0 3 kr [] (by unfold enc eLead eOp eVal eMid; simp [hsO, memF, er]; rfl) (by decide) hr (by decide) (by decide) (by decide) (by decide) (by unfold gf; rw [if_neg (by decide), if_neg (by decide), show gop (bt 247) (nI 3) 1 = 13 from by decide, if_neg (by decide), if_neg (by decide), if_pos rfl]) (Or.inl ⟨rfl, rfl⟩) (by decide)
    · subst e
      rcases ho with e | e
      · subst e
        exact fM (bt 247) 3 12 0 0 0 12 2 [] (by unfold enc eLead eOp eVal eMid; simp [hsO, memF]; rfl) (by decide) (by decide) (by decide) (by decide) (by decide) (by decide) (fun lo x' => ⟨7, 0, x', by unfold gf; rw [if_neg (by decide), if_neg (by decide), show gop (bt 247) (nI 2) 0 = 12 from by decide, if_neg (by decide), if_pos rfl, if_pos rfl]⟩) (Or.inl ⟨rfl, rfl⟩) (by decide)
      · subst e
        exact fM (bt 247) 3 12 0 0 0 13 3 [] (by unfold enc eLead eOp eVal eMid; simp [hsO, memF]; rfl) (by decide) (by decide) (by decide) (by decide) (by decide) (by decide) (fun lo x' => ⟨7, 0, x', by unfold gf; rw [if_neg (by decide), if_neg (by decide), show gop (bt 247) (nI 3) 0 = 13 from by decide, if_neg (by decide), if_pos rfl, if_pos rfl]⟩) (Or.inl ⟨rfl, rfl⟩) (by decide)
  · have sh : ∀ (k : Nat), k < 8 → ∀ o, (o = 14 ∧ k = 4 ∨ o = 15 ∧ k = 5 ∨ o = 16 ∧ k = 7) → op = o → DcP row n p (p + (enc op fm r x d i).length) := by
      intro k hk o ho' eo
      have gp : ∀ ir : Int32, gop (bt 193) (nI k) ir = o ∧ ¬ o = -1 := by
        intro ir
        unfold gop
        rw [if_pos (by decide)]
        rcases ho' with ⟨rfl, rfl⟩ | ⟨rfl, rfl⟩ | ⟨rfl, rfl⟩ <;> decide
      have po : PlO o := by rcases ho' with ⟨rfl, _⟩ | ⟨rfl, _⟩ | ⟨rfl, _⟩ <;> decide
      rcases hf with e | e
      · obtain ⟨kr, hr, er⟩ := inR_nI (pr (by rw [e]; decide))
        refine fR (bt 193) 3 14 0 0 2 o 5 (nI kr) 0 k kr [bt i] ?_ hk hr (by decide) (by decide) (by decide) (by decide) (by unfold gf; rw [if_neg (by decide), if_neg (by decide), (gp 1).1, if_neg (gp 1).2, if_neg (by decide), if_neg (by decide)]) (Or.inr (Or.inl ⟨Or.inr rfl, rfl⟩)) po
        unfold enc eLead eOp eVal eMid
        subst e
        rcases ho' with ⟨rfl, rfl⟩ | ⟨rfl, rfl⟩ | ⟨rfl, rfl⟩ <;> (subst eo; simp [hsO, memF, isSh, er]; try rfl)
      · refine fM (bt 193) 3 14 0 0 2 o k [bt i] ?_ (by rw [e]; decide) hk (by decide) (by decide) (by decide) (by decide) (fun lo x' => ⟨6, 0, x', by unfold gf; rw [if_neg (by decide), if_neg (by decide), (gp 0).1, if_neg (gp 0).2, if_pos rfl, if_neg (by decide)]⟩) (Or.inr (Or.inl ⟨Or.inr rfl, rfl⟩)) po
        unfold enc eLead eOp eVal eMid
        subst e
        rcases ho' with ⟨rfl, rfl⟩ | ⟨rfl, rfl⟩ | ⟨rfl, rfl⟩ <;> (subst eo; simp [hsO, memF, isSh]; try rfl)
    rcases ho with e | e | e
    · exact sh 4 (by decide) 14 (Or.inl ⟨rfl, rfl⟩) e
    · exact sh 5 (by decide) 15 (Or.inr (Or.inl ⟨rfl, rfl⟩)) e
    · exact sh 7 (by decide) 16 (Or.inr (Or.inr ⟨rfl, rfl⟩)) e
  · obtain ⟨kr, hr, er⟩ := inR_nI (pr (by decide))
    have t1 := sdI17 kr hr
    have t2 := sdI18 kr hr
    have t3 := sdI20 kr hr
    rcases ho with e | e | e
    · subst e
      exact fN _ 17 1 (nI kr) 0 [] (by unfold enc eLead eOp eVal; simp [hsO, er]) t1.2 t1.1 (Or.inl ⟨rfl, rfl⟩) (by decide)
    · subst e
      exact fN _ 18 1 (nI kr) 0 [] (by unfold enc eLead eOp eVal; simp [hsO, er]) t2.2 t2.1 (Or.inl ⟨rfl, rfl⟩) (by decide)
    · subst e
      exact fN _ 20 1 (nI kr) 0 [] (by unfold enc eLead eOp eVal; simp [hsO, er]) t3.2 t3.1 (Or.inl ⟨rfl, rfl⟩) (by decide)
  · rcases hf with e | e
    · obtain ⟨kr, hr, er⟩ := inR_nI (pr (by rw [e]; decide))
      have t4 := sdI19 kr hr
      subst e
      exact fN _ 19 1 (nI kr) 0 [] (by unfold enc eLead eOp eVal; simp [hsO, er]) t4.2 t4.1 (Or.inl ⟨rfl, rfl⟩) (by decide)
    · subst e
      have ev : enc 19 8 r x d i = (bt (if smI i then 106 else 104)) :: (if smI i then [bt i] else four i) := by
        have a1 : eLead 19 8 r i = [bt (if smI i then 106 else 104)] := by
          unfold eLead
          rw [if_neg (show ¬ (19 : Int32) = 8 by decide), if_neg (show ¬ (19 : Int32) = 9 by decide), if_neg (show ¬ (19 : Int32) = 10 by decide), if_neg (show ¬ (19 : Int32) = 11 by decide), if_neg (show ¬ ((19 : Int32) = 12 ∨ (19 : Int32) = 13) by decide), if_neg (show ¬ ((19 : Int32) = 14 ∨ (19 : Int32) = 15 ∨ (19 : Int32) = 16) by decide), if_neg (show ¬ ((19 : Int32) = 17 ∨ (19 : Int32) = 18 ∨ (19 : Int32) = 20) by decide), if_pos rfl, if_neg (show ¬ (8 : Int32) = 1 by decide)]
        have a2 : eOp 19 8 r x d = [] := by unfold eOp; rw [if_neg (show ¬ hsO 19 8 by decide)]
        have a3 : eVal 19 8 i = if smI i then [bt i] else four i := by
          unfold eVal
          rw [if_pos (show (8 : Int32) = 5 ∨ (8 : Int32) = 6 ∨ (8 : Int32) = 8 from Or.inr (Or.inr rfl))]
          by_cases hs : smI i
          · rw [if_pos hs, if_pos (show isSh 19 ∨ (¬ (19 : Int32) = 8 ∧ smI i) from Or.inr ⟨by decide, hs⟩)]
          · rw [if_neg hs, if_neg (show ¬ (isSh 19 ∨ (¬ (19 : Int32) = 8 ∧ smI i)) from fun z => by rcases z with z | z; exact absurd z (by decide); exact hs z.2)]
        unfold enc
        rw [a1, a2, a3]; rfl
      by_cases hs : smI i
      · rw [if_pos hs, if_pos hs] at ev
        exact fN (bt 106) 19 8 0 1 [bt i] ev (by decide) (by decide) (Or.inr (Or.inl ⟨Or.inl rfl, rfl⟩)) (by decide)
      · rw [if_neg hs, if_neg hs] at ev
        exact fN (bt 104) 19 8 0 4 (four i) ev (by decide) (by decide) (Or.inr (Or.inr ⟨rfl, rfl⟩)) (by decide)
  · rcases ho with e | e
    · subst e
      exact fN (bt 144) 21 0 0 0 [] (by unfold enc eLead eOp eVal; simp [hsO]) (by decide) (by decide) (Or.inl ⟨rfl, rfl⟩) (by decide)
    · subst e
      exact fN (bt 244) 22 0 0 0 [] (by unfold enc eLead eOp eVal; simp [hsO]) (by decide) (by decide) (Or.inl ⟨rfl, rfl⟩) (by decide)
end
