abbrev chW (fm : Int32) : Prop := fm = 4 ∨ fm = 6 ∨ fm = 7
def Inst (σ : St) (f : Nat) (op fm r x d i : Int32) : Prop := σ f 0 = op ∧ σ f 1 = fm ∧ σ f 2 = r ∧ σ f 3 = x ∧ σ f 4 = d ∧ σ f 5 = i
def Nrm (τ : St) (op fm r x d i : Int32) : Prop := τ 67 56 = op ∧ τ 67 57 = fm ∧ (hsR fm → τ 67 58 = r) ∧ (fm = 2 ∨ memF fm → τ 67 59 = x) ∧ (memF fm → τ 67 60 = d) ∧ (hsI fm → τ 67 61 = i)
def PW (op fm r x : Int32) : Prop := opF op fm ∧ (hsR fm → inR r) ∧ (fm = 2 → inR x) ∧ (memF fm → memX x)
abbrev lk (op fm : Int32) (g4 a : Int32) : Prop := (op = 19 ∧ ¬ inW (g4 - 4)) ∨ (op = 20 ∧ ¬ inW g4) ∨ (¬ op = 19 ∧ ¬ op = 20 ∧ memF fm ∧ ¬ op = 10 ∧ ¬ inW a)
section
variable {M F G B w f : Nat} {σ τ : St} {op fm r x d i : Int32}
theorem c_lacks (H : MC M F G B) (I : Inst σ f op fm r x d i) (a : Int32) : Machine_lacksWord M f a σ = some (if lk op fm (σ G 4) a then 1 else 0, σ) := by
  obtain ⟨i0, i1, i2, i3, i4, i5⟩ := I
  unfold Machine_lacksWord
  rw [i0, i1, c_canPush H, c_canPop H, hmf_eq, cl_of, cl_of, cl_of]
  simp only [i0, hw_eq, cl_of]
  by_cases c19 : op = 19
  · subst c19
    rw [if_neg (by decide)]
    by_cases q : inW (σ G 4 - 4)
    · rw [if_pos q, if_pos (by decide), if_neg]
      rintro (⟨_, k⟩ | ⟨k, _⟩ | ⟨k, _⟩)
      · exact k q
      · exact absurd k (by decide)
      · exact k rfl
    · rw [if_neg q, if_neg (by decide), if_pos (Or.inl ⟨rfl, q⟩)]
  · rw [if_pos c19]
    by_cases c20 : op = 20
    · subst c20
      rw [if_neg (by decide)]
      by_cases q : inW (σ G 4)
      · rw [if_pos q, if_pos (by decide), if_neg]
        rintro (⟨k, _⟩ | ⟨_, k⟩ | ⟨_, k, _⟩)
        · exact absurd k (by decide)
        · exact k q
        · exact k rfl
      · rw [if_neg q, if_neg (by decide), if_pos (Or.inr (Or.inl ⟨rfl, q⟩))]
    · rw [if_pos c20]
      by_cases cm : memF fm
      · rw [if_pos cm, if_neg (by decide)]
        by_cases c10 : op = 10
        · rw [if_pos c10, if_neg]
          rintro (⟨k, _⟩ | ⟨k, _⟩ | ⟨_, _, _, k, _⟩)
          · exact c19 k
          · exact c20 k
          · exact k c10
        · rw [if_neg c10]
          by_cases q : inW a
          · rw [if_pos q, if_pos (by decide), if_neg]
            rintro (⟨k, _⟩ | ⟨k, _⟩ | ⟨_, _, _, _, k⟩)
            · exact c19 k
            · exact c20 k
            · exact k q
          · rw [if_neg q, if_neg (by decide), if_pos (Or.inr (Or.inr ⟨c19, c20, cm, c10, q⟩))]
      · rw [if_neg cm, if_pos rfl, if_neg]
        rintro (⟨k, _⟩ | ⟨k, _⟩ | ⟨_, _, k, _⟩)
        · exact c19 k
        · exact c20 k
        · exact cm k
theorem m_onMem (N : Nrm τ op fm r x d i) : Mo_isOnMemory 67 τ = some (if memF fm then 1 else 0, τ) := by
  unfold Mo_isOnMemory
  rw [N.2.1]
  exact mmf_eq fm τ
/-- the address of an INSTRUCTION on DATA -/
def atA (σ : St) (G : Nat) (fm x d : Int32) : Int32 := if memF fm then adr σ G x d else 0
theorem atA_m {σ : St} {G : Nat} {fm x d : Int32} (h : memF fm) : atA σ G fm x d = adr σ G x d := if_pos h
theorem atA_n {σ : St} {G : Nat} {fm x d : Int32} (h : ¬ memF fm) : atA σ G fm x d = 0 := if_neg h
theorem m_place (V : Vr M F G B w σ τ) (N : Nrm τ op fm r x d i) (hm : memF fm) (hx : memX x) : Mo_place1 67 (τ 67 59) (τ 67 60) τ = some (atA σ G fm x d, τ) := by
  rw [N.2.2.2.1 (Or.inr hm), N.2.2.2.2.1 hm, m_addr V hx, atA_m hm]
theorem m_wants (V : Vr M F G B w σ τ) (N : Nrm τ op fm r x d i) (hx : memF fm → memX x) (h3 : ¬ op = 23 ∧ ¬ op = 26 ∧ ¬ op = 28) : Mo_wants 67 τ = some (if lk op fm (σ G 4) (atA σ G fm x d) then 1 else 0, τ) := by
  have b27 : Mo_wants_B27 67 τ = some (if inW (σ G 4 - 4) then 0 else 1, τ) := by
    unfold Mo_wants_B27
    rw [m_reg V r4, cl_of, rgv_4, mt_eq, cl_of]
    by_cases q : inW (σ G 4 - 4)
    · rw [if_pos q, if_pos q, if_pos (by decide)]
    · rw [if_neg q, if_neg q, if_neg (by decide)]
  have b64 : Mo_wants_B64 67 τ = some (if inW (σ G 4) then 0 else 1, τ) := by
    unfold Mo_wants_B64
    rw [m_reg V r4, cl_of, rgv_4, mt_eq, cl_of]
    by_cases q : inW (σ G 4)
    · rw [if_pos q, if_pos q, if_pos (by decide)]
    · rw [if_neg q, if_neg q, if_neg (by decide)]
  unfold Mo_wants
  rw [b27, b64, N.1, m_onMem N, cl_of]
  by_cases c19 : op = 19
  · subst c19
    rw [if_pos rfl]
    by_cases q : inW (σ G 4 - 4)
    · rw [if_pos q, if_neg]
      rintro (⟨_, k⟩ | ⟨k, _⟩ | ⟨k, _⟩)
      · exact k q
      · exact absurd k (by decide)
      · exact k rfl
    · rw [if_neg q, if_pos (Or.inl ⟨rfl, q⟩)]
  · rw [if_neg c19, if_neg h3.2.1, if_pos h3.2.2]
    by_cases c20 : op = 20
    · subst c20
      rw [if_pos rfl]
      by_cases q : inW (σ G 4)
      · rw [if_pos q, if_neg]
        rintro (⟨k, _⟩ | ⟨_, k⟩ | ⟨_, k, _⟩)
        · exact absurd k (by decide)
        · exact k q
        · exact k rfl
      · rw [if_neg q, if_pos (Or.inr (Or.inl ⟨rfl, q⟩))]
    · rw [if_neg c20, if_pos h3.1]
      by_cases cm : memF fm
      · rw [if_pos (c := memF fm) cm, if_neg (by decide), N.1]
        by_cases c10 : op = 10
        · rw [if_pos c10, if_neg]
          rintro (⟨k, _⟩ | ⟨k, _⟩ | ⟨_, _, _, k, _⟩)
          · exact c19 k
          · exact c20 k
          · exact k c10
        · rw [if_neg c10, m_place V N cm (hx cm), cl_of, mt_eq, cl_of]
          by_cases q : inW (atA σ G fm x d)
          · rw [if_pos q, if_pos (by decide), if_neg]
            rintro (⟨k, _⟩ | ⟨k, _⟩ | ⟨_, _, _, _, k⟩)
            · exact c19 k
            · exact c20 k
            · exact k q
          · rw [if_neg q, if_neg (by decide), if_pos (Or.inr (Or.inr ⟨c19, c20, cm, c10, q⟩))]
      · rw [if_neg (c := memF fm) cm, if_pos rfl, if_neg]
        rintro (⟨k, _⟩ | ⟨k, _⟩ | ⟨_, _, k, _⟩)
        · exact c19 k
        · exact c20 k
        · exact cm k
theorem c_chW (I : Inst σ f op fm r x d i) : Machine_changesWord f σ = some (if chW fm then 1 else 0, σ) := by
  unfold Machine_changesWord
  rw [I.2.1]
  by_cases c4 : fm = 4
  · simp [c4]
  · by_cases c6 : fm = 6
    · simp [c6]
    · by_cases c7 : fm = 7 <;> simp [c4, c6, c7]
def lfv (σ : St) (G B : Nat) (fm r : Int32) (a : Nat) : Int32 := if chW fm then wrd σ B a else rgv σ G r
def rtv (σ : St) (G B : Nat) (fm r x i : Int32) (a : Nat) : Int32 := if fm = 2 then rgv σ G x else if fm = 3 then wrd σ B a else if fm = 4 then rgv σ G r else i
theorem lfv_w {σ : St} {G B a : Nat} {fm r : Int32} (h : chW fm) : lfv σ G B fm r a = wrd σ B a := if_pos h
theorem lfv_r {σ : St} {G B a : Nat} {fm r : Int32} (h : ¬ chW fm) : lfv σ G B fm r a = rgv σ G r := if_neg h
theorem rtv_2 {σ : St} {G B a : Nat} {fm r x i : Int32} (h : fm = 2) : rtv σ G B fm r x i a = rgv σ G x := if_pos h
theorem rtv_3 {σ : St} {G B a : Nat} {fm r x i : Int32} (h : fm = 3) : rtv σ G B fm r x i a = wrd σ B a := by unfold rtv; rw [if_neg (by rw [h]; decide), if_pos h]
theorem rtv_4 {σ : St} {G B a : Nat} {fm r x i : Int32} (h : fm = 4) : rtv σ G B fm r x i a = rgv σ G r := by unfold rtv; rw [if_neg (by rw [h]; decide), if_neg (by rw [h]; decide), if_pos h]
theorem rtv_e {σ : St} {G B a : Nat} {fm r x i : Int32} (h2 : ¬ fm = 2) (h3 : ¬ fm = 3) (h4 : ¬ fm = 4) : rtv σ G B fm r x i a = i := by unfold rtv; rw [if_neg h2, if_neg h3, if_neg h4]
theorem c_left (H : MC M F G B) (I : Inst σ f op fm r x d i) {a : Nat} (ha : a ≤ 1020) : Machine_leftOf M f (nI a) σ = some (lfv σ G B fm r a, σ) := by
  unfold Machine_leftOf
  rw [c_chW I, cl_of]
  by_cases c : chW fm
  · rw [if_pos c, if_neg (by decide), c_word H ha, cl_of, lfv_w c]
  · rw [if_neg c, if_pos rfl, I.2.2.1, c_reg H, cl_of, lfv_r c]
theorem c_right (H : MC M F G B) (I : Inst σ f op fm r x d i) {a : Nat} (ha : a ≤ 1020) : Machine_rightOf M f (nI a) σ = some (rtv σ G B fm r x i a, σ) := by
  unfold Machine_rightOf
  rw [nm_of, I.2.1]
  by_cases c2 : fm = 2
  · rw [if_pos c2, I.2.2.2.1, c_reg H, cl_of, rtv_2 c2]
  · rw [if_neg c2]
    by_cases c3 : fm = 3
    · rw [if_pos c3, c_word H ha, cl_of, rtv_3 c3]
    · rw [if_neg c3]
      by_cases c4 : fm = 4
      · rw [if_pos c4, I.2.2.1, c_reg H, cl_of, rtv_4 c4]
      · rw [if_neg c4, I.2.2.2.2.2, rtv_e c2 c3 c4]
/-- the reference's does(), up to where it reckons -/
theorem m_does (V : Vr M F G B w σ τ) (N : Nrm τ op fm r x d i) (P : PW op fm r x) {a : Nat} (ha : a ≤ 1020) (ea : atA σ G fm x d = nI a) (hop : ¬ op = 19 ∧ ¬ op = 20 ∧ ¬ op = 10 ∧ op < 21) : Mo_does 67 τ = Mo_does_B237 67 (if chW fm then 1 else 0) (nI a) (lfv σ G B fm r a) (if fm = 2 ∨ fm = 3 ∨ fm = 4 then rtv σ G B fm r x i a else τ 67 61) τ := by
  obtain ⟨p1, p2, p3, p4⟩ := P
  have fmr : ¬ chW fm → hsR fm := by
    intro c
    obtain ⟨_, f1, f2⟩ := opF_op p1
    have hfm : fm = 0 ∨ fm = 1 ∨ fm = 2 ∨ fm = 3 ∨ fm = 4 ∨ fm = 5 ∨ fm = 6 ∨ fm = 7 ∨ fm = 8 := by
      obtain ⟨k, hk, rfl⟩ := to_nI (m := 9) f1 9 rfl (by decide) f2
      have : ∀ k, k < 9 → (nI k = 0 ∨ nI k = 1 ∨ nI k = 2 ∨ nI k = 3 ∨ nI k = 4 ∨ nI k = 5 ∨ nI k = 6 ∨ nI k = 7 ∨ nI k = 8) := by decide +kernel
      exact this k hk
    rcases hfm with e | e | e | e | e | e | e | e | e
    · exfalso; subst e; revert p1 hop
      rintro ⟨h1, h2, h3, h4⟩ (⟨_, _, k, _⟩ | ⟨_, k | k⟩ | ⟨_, k⟩ | ⟨_, k | k⟩ | ⟨_, k | k⟩ | ⟨_, k | k⟩ | ⟨_, k⟩ | ⟨_, k | k⟩ | ⟨k, _⟩)
      · exact k (by decide)
      all_goals first | exact absurd k (by decide) | (rcases k with rfl | rfl <;> exact absurd h4 (by decide))
    · subst e; decide
    · subst e; decide
    · subst e; decide
    · exact absurd (Or.inl e) c
    · subst e; decide
    · exact absurd (Or.inr (Or.inl e)) c
    · exact absurd (Or.inr (Or.inr e)) c
    · exfalso; subst e; revert p1 hop
      rintro ⟨h1, h2, h3, h4⟩ (⟨_, _, _, k⟩ | ⟨_, k | k⟩ | ⟨_, k⟩ | ⟨_, k | k⟩ | ⟨_, k | k⟩ | ⟨_, k | k⟩ | ⟨_, k⟩ | ⟨k, _⟩ | ⟨_, k⟩)
      · exact absurd k (by decide)
      all_goals first | exact absurd k (by decide) | exact h1 k
  have b178 : ∀ (cw : Int32) (l : Int32), Mo_does_B178 67 cw (nI a) l τ = Mo_does_B237 67 cw (nI a) l (if fm = 2 ∨ fm = 3 ∨ fm = 4 then rtv σ G B fm r x i a else τ 67 61) τ := by
    intro cw l
    unfold Mo_does_B178
    rw [N.2.1]
    by_cases c2 : fm = 2
    · have : inR x := p3 c2
      rw [if_neg (not_not_intro c2), N.2.2.2.1 (Or.inl c2), m_reg V this, cl_of, if_pos (Or.inl c2), rtv_2 c2]
    · rw [if_pos c2]
      by_cases c3 : fm = 3
      · rw [if_neg (not_not_intro c3), m_word V ha, cl_of, if_pos (Or.inr (Or.inl c3)), rtv_3 c3]
      · rw [if_pos c3]
        by_cases c4 : fm = 4
        · have h4 : hsR fm := by rw [c4]; decide
          rw [if_neg (not_not_intro c4), N.2.2.1 h4, m_reg V (p2 h4), cl_of, if_pos (Or.inr (Or.inr c4)), rtv_4 c4]
        · rw [if_pos c4, if_neg (fun k => by rcases k with k | k | k; exact c2 k; exact c3 k; exact c4 k)]
  have b157 : ∀ cw : Int32, cw = (if chW fm then 1 else 0) → Mo_does_B157 67 cw (nI a) τ = Mo_does_B237 67 cw (nI a) (lfv σ G B fm r a) (if fm = 2 ∨ fm = 3 ∨ fm = 4 then rtv σ G B fm r x i a else τ 67 61) τ := by
    intro cw hc
    unfold Mo_does_B157
    by_cases c : chW fm
    · rw [if_pos c] at hc
      rw [hc, if_neg (by decide), m_word V ha, cl_of, b178, lfv_w c]
    · rw [if_neg c] at hc
      rw [hc, if_pos rfl, N.2.2.1 (fmr c), m_reg V (p2 (fmr c)), cl_of, b178, lfv_r c]
  have b133 : ∀ cw : Int32, cw = (if chW fm then 1 else 0) → Mo_does_B133 67 cw τ = Mo_does_B237 67 cw (nI a) (lfv σ G B fm r a) (if fm = 2 ∨ fm = 3 ∨ fm = 4 then rtv σ G B fm r x i a else τ 67 61) τ := by
    intro cw hc
    unfold Mo_does_B133
    rw [m_onMem N, cl_of]
    by_cases c : memF fm
    · rw [if_pos c, if_neg (by decide), m_place V N c (p4 c), cl_of, ea, b157 cw hc]
    · have e0 : nI a = 0 := by rw [← ea, atA_n c]
      rw [if_neg c, if_pos rfl, ← e0, b157 cw hc]
  unfold Mo_does
  rw [N.1, N.2.1, if_pos hop.1, if_pos hop.2.1, if_pos (show op ≤ 20 by rw [le_lt 20 21 rfl]; exact hop.2.2.2), if_pos hop.2.2.1]
  by_cases c4 : fm = 4
  · rw [if_pos c4, b133 1 (by rw [if_pos (Or.inl c4)]), if_pos (show chW fm from Or.inl c4)]
  · rw [if_neg c4]
    by_cases c6 : fm = 6
    · rw [if_pos c6, b133 1 (by rw [if_pos (Or.inr (Or.inl c6))]), if_pos (show chW fm from Or.inr (Or.inl c6))]
    · rw [if_neg c6]
      by_cases c7 : fm = 7
      · rw [if_neg (not_not_intro c7), b133 1 (by rw [if_pos (Or.inr (Or.inr c7))]), if_pos (show chW fm from Or.inr (Or.inr c7))]
      · have n : ¬ chW fm := fun k => by rcases k with k | k | k; exact c4 k; exact c6 k; exact c7 k
        rw [if_pos c7, b133 0 (by rw [if_neg n]), if_neg n]
end
