/-! ===== the law's loop ===== -/
theorem st_one {F G K : St → Option (Int32 × St)} (h : TS F G) (hF : ∀ σ r, F σ = some r → Fr inC σ r.2) (hG : ∀ σ r, G σ = some r → Fr inM σ r.2) (hK : ∀ σ, R σ σ → ∃ σ', K σ = some (1, σ')) {σ : St} (hR : R σ σ) : ∃ σ', (cl (F σ) fun x σ1 => cl (G σ1) fun y σ2 => if x = y then K σ2 else some (0, σ2)) = some (1, σ') := by
  obtain ⟨a, σ1, σ2, e1, e2, hR2⟩ := ts_one h hF hG hR
  obtain ⟨σ', e3⟩ := hK σ2 hR2
  exact ⟨σ', by rw [e1, cl_of, e2, cl_of, if_pos rfl, e3]⟩
theorem st_tt {F : St → Option ((Nat × Int32) × St)} {G K : St → Option (Int32 × St)} {j1 j2 : Nat} (h : TT F G) (hF : ∀ σ r, F σ = some r → Fr inC σ r.2 ∧ (r.1.1 = 0 ∨ r.1.1 = j1 ∨ r.1.1 = j2)) (hG : ∀ σ r, G σ = some r → Fr inM σ r.2) (hj : (j1 = 1 ∧ j2 = 0) ∨ (j1 = 2 ∧ j2 = 3)) (hK : ∀ σ, R σ σ → ∃ σ', K σ = some (1, σ')) {σ : St} (hR : R σ σ) : ∃ σ', (cl (lh j1 j2 (F σ) 97) fun x σ1 => cl (G σ1) fun y σ2 => cl (Mo_thrown 67 σ2) fun t σ3 => if t = x then (if ¬ x = 0 then K σ3 else ld σ3 97 1 0 fun w => if lg_cmp (Int32.toInt64 w) (Int32.toInt64 y) = 0 then K σ3 else some (0, σ3)) else some (0, σ3)) = some (1, σ') := by
  obtain ⟨j, v, σ1, _, _, e1, _⟩ := h σ σ hR
  obtain ⟨f1, f2⟩ := hF σ _ e1
  have f2 : j = 0 ∨ j = j1 ∨ j = j2 := f2
  have f1 : Fr inC σ σ1 := f1
  have lq : lh j1 j2 (F σ) 97 = if j = 0 then sa σ1 97 1 0 v (fun σ => some (0, σ)) else if j = j1 then some (1, σ1) else if j = j2 then some (2, σ1) else none := by
    unfold lh; rw [e1]
  have go : ∀ (x : Int32) (σ1' : St), (∀ c, c ≠ 97 → σ1' c = σ1 c) → lh j1 j2 (F σ) 97 = some (x, σ1') → x = tc j → (j = 0 → σ1' 97 0 = v) → ∃ σ', (cl (lh j1 j2 (F σ) 97) fun x σ1 => cl (G σ1) fun y σ2 => cl (Mo_thrown 67 σ2) fun t σ3 => if t = x then (if ¬ x = 0 then K σ3 else ld σ3 97 1 0 fun w => if lg_cmp (Int32.toInt64 w) (Int32.toInt64 y) = 0 then K σ3 else some (0, σ3)) else some (0, σ3)) = some (1, σ') := by
    intro x σ1' g1 g2 g3 g4
    have hR1 : R σ σ1' := R_c (fun _ _ => rfl) (fun c h1 h2 => by rw [g1 c (by omega)]; exact f1 c (by show ¬ c < 67; omega)) hR
    obtain ⟨j', v', σ2', b, τ', e1', e2, hR2, _, e4, e5⟩ := h σ σ1' hR1
    rw [e1] at e1'
    cases e1'
    have f3 := hG σ1' _ e2
    have f3 : Fr inM σ1' τ' := f3
    have hR3 : R τ' τ' := R_c (fun c h1 => by rw [f3 c (by show ¬ (67 ≤ c ∧ c < 97); omega), g1 c (by omega)]) (fun _ _ _ => rfl) hR2
    obtain ⟨σ'', hk⟩ := hK τ' hR3
    refine ⟨σ'', ?_⟩
    rw [g2, cl_of, e2, cl_of]
    unfold Mo_thrown
    rw [cl_of, e4, if_pos g3.symm]
    by_cases z : j = 0
    · have x0 : x = 0 := by rw [g3, z]; rfl
      have t97 : τ' 97 0 = v := by rw [f3 97 (by decide)]; exact g4 z
      rw [x0, if_neg (not_not_intro rfl), ld_L 0 0 rfl (by decide) (by decide), t97, e5 z, if_pos ((lg_cmp_eq _ _).mpr rfl)]
      exact hk
    · have xn : ¬ x = 0 := by
        rw [g3]
        show ¬ (if j = 0 then (0 : Int32) else if j = 3 then 2 else 1) = 0
        rw [if_neg z]
        split <;> decide
      rw [if_pos xn]
      exact hk
  by_cases z : j = 0
  · refine go 0 (s2 σ1 97 0 v) (fun c hc => s2_ne hc) ?_ (by rw [z]; rfl) (fun _ => by rw [s2_row, upd_s])
    rw [lq, if_pos z, sa_L 0 0 rfl (by decide) (by decide)]
  · by_cases z1 : j = j1
    · refine go 1 σ1 (fun _ _ => rfl) (by rw [lq, if_neg z, if_pos z1]) ?_ (fun y => absurd y z)
      rcases hj with ⟨y, _⟩ | ⟨y, _⟩ <;> (rw [z1, y]; rfl)
    · have z2 : j = j2 := by
        rcases f2 with y | y | y
        · exact absurd y z
        · exact absurd y z1
        · exact y
      refine go 2 σ1 (fun _ _ => rfl) (by rw [lq, if_neg z, if_neg z1, if_pos z2]) ?_ (fun y => absurd y z)
      rcases hj with ⟨_, y⟩ | ⟨_, y⟩
      · exact absurd (z2.trans y) z
      · rw [z2, y]; rfl
section
variable {p a w : Int32} {σ : St} {r : (Nat × Int32) × St}
theorem ft_decoded (h : House_decoded 0 p a σ = some r) : Fr inC σ r.2 ∧ (r.1.1 = 0 ∨ r.1.1 = 1 ∨ r.1.1 = 0) := by
  unfold House_decoded at h
  rcases ite_some h with ⟨_, h⟩ | ⟨_, h⟩
  · rw [← Option.some.inj h]; exact ⟨Fr.refl, Or.inr (Or.inl rfl)⟩
  · rcases ite_some h with ⟨_, h⟩ | ⟨_, h⟩
    · obtain ⟨x2, σ1, e1, h⟩ := cl_some h
      have f1 : Fr inC σ σ1 := fr_Reader_read (P := inC) (by decide) (by decide) e1
      rcases ite_some h with ⟨_, h⟩ | ⟨_, h⟩
      · rcases ite_some h with ⟨_, h⟩ | ⟨_, h⟩
        · obtain ⟨x4, σ3, e2, h⟩ := cl_some h
          have f2 : Fr inC σ1 σ3 := fr_Instruction_part (P := inC) e2
          rw [← Option.some.inj h]; exact ⟨Fr.trans f1 f2, Or.inl rfl⟩
        · obtain ⟨x4, σ3, e2, h⟩ := cl_some h
          have f2 : Fr inC σ1 σ3 := fr_Strip_markAt (P := inC) e2
          rw [← Option.some.inj h]; exact ⟨Fr.trans f1 f2, Or.inl rfl⟩
      · rw [← Option.some.inj h]; exact ⟨f1, Or.inr (Or.inl rfl)⟩
    · rw [← Option.some.inj h]; exact ⟨Fr.refl, Or.inr (Or.inl rfl)⟩
theorem ft_output (h : House_output 0 w a σ = some r) : Fr inC σ r.2 ∧ (r.1.1 = 0 ∨ r.1.1 = 1 ∨ r.1.1 = 0) := by
  have g : ∀ t, House_output_B15 a t σ = some r → Fr inC σ r.2 ∧ (r.1.1 = 0 ∨ r.1.1 = 1 ∨ r.1.1 = 0) := by
    intro t h
    unfold House_output_B15 at h
    rcases ite_some h with ⟨_, h⟩ | ⟨_, h⟩
    · rw [← Option.some.inj h]; exact ⟨Fr.refl, Or.inr (Or.inl rfl)⟩
    · obtain ⟨x2, σ1, e1, h⟩ := cl_some h
      have f1 : Fr inC σ σ1 := fr_Machine_hasOutput (P := inC) e1
      rcases ite_some h with ⟨_, h⟩ | ⟨_, h⟩
      · obtain ⟨x4, σ3, e2, h⟩ := cl_some h
        have f2 : Fr inC σ1 σ3 := fr_Machine_outputAt (P := inC) e2
        rw [← Option.some.inj h]; exact ⟨Fr.trans f1 f2, Or.inl rfl⟩
      · rw [← Option.some.inj h]; exact ⟨f1, Or.inr (Or.inl rfl)⟩
  unfold House_output at h
  rcases ite_some h with ⟨_, h⟩ | ⟨_, h⟩
  · exact g _ h
  · exact g _ h
theorem ft_state (h : House_state 0 w a σ = some r) : Fr inC σ r.2 ∧ (r.1.1 = 0 ∨ r.1.1 = 1 ∨ r.1.1 = 0) := by
  have g : ∀ t, House_state_B15 a t σ = some r → Fr inC σ r.2 ∧ (r.1.1 = 0 ∨ r.1.1 = 1 ∨ r.1.1 = 0) := by
    intro t h
    unfold House_state_B15 at h
    rcases ite_some h with ⟨_, h⟩ | ⟨_, h⟩
    · rw [← Option.some.inj h]; exact ⟨Fr.refl, Or.inr (Or.inl rfl)⟩
    · rcases ite_some h with ⟨_, h⟩ | ⟨_, h⟩
      · rw [← Option.some.inj h]; exact ⟨Fr.refl, Or.inr (Or.inl rfl)⟩
      · rcases ite_some h with ⟨_, h⟩ | ⟨_, h⟩
        · obtain ⟨x2, σ1, e1, h⟩ := cl_some h
          have f1 : Fr inC σ σ1 := fr_Machine_part (P := inC) e1
          rw [← Option.some.inj h]; exact ⟨f1, Or.inl rfl⟩
        · rw [← Option.some.inj h]; exact ⟨Fr.refl, Or.inr (Or.inl rfl)⟩
  unfold House_state at h
  rcases ite_some h with ⟨_, h⟩ | ⟨_, h⟩
  · exact g _ h
  · exact g _ h
theorem ft_run (h : House_run 0 a σ = some r) : Fr inC σ r.2 ∧ (r.1.1 = 0 ∨ r.1.1 = 2 ∨ r.1.1 = 3) := by
  unfold House_run at h
  rcases ite_some h with ⟨_, h⟩ | ⟨_, h⟩
  · rcases ite_some h with ⟨_, h⟩ | ⟨_, h⟩
    · rw [← Option.some.inj h]; exact ⟨Fr.refl, Or.inr (Or.inr rfl)⟩
    · rcases ite_some h with ⟨_, h⟩ | ⟨_, h⟩
      · obtain ⟨σ1, e1, h⟩ := cv_some h
        have f1 : Fr inC σ σ1 := by apply fr_Machine_beginAs (P := inC) (h := e1) <;> decide
        obtain ⟨x3, σ2, e2, h⟩ := cl_some h
        have f2 : Fr inC σ1 σ2 := by apply fr_Runner_goOn (P := inC) (h := e2) <;> decide
        rw [← Option.some.inj h]; exact ⟨Fr.trans f1 f2, Or.inl rfl⟩
      · rw [← Option.some.inj h]; exact ⟨Fr.refl, Or.inr (Or.inr rfl)⟩
  · rw [← Option.some.inj h]; exact ⟨Fr.refl, Or.inr (Or.inl rfl)⟩
theorem ft_walk (h : House_walk 0 a σ = some r) : Fr inC σ r.2 ∧ (r.1.1 = 0 ∨ r.1.1 = 2 ∨ r.1.1 = 3) := by
  unfold House_walk at h
  rcases ite_some h with ⟨_, h⟩ | ⟨_, h⟩
  · rcases ite_some h with ⟨_, h⟩ | ⟨_, h⟩
    · rw [← Option.some.inj h]; exact ⟨Fr.refl, Or.inr (Or.inr rfl)⟩
    · rcases ite_some h with ⟨_, h⟩ | ⟨_, h⟩
      · obtain ⟨σ1, e1, h⟩ := cv_some h
        have f1 : Fr inC σ σ1 := by apply fr_Machine_beginAs (P := inC) (h := e1) <;> decide
        obtain ⟨x3, σ2, e2, h⟩ := cl_some h
        have f2 : Fr inC σ1 σ2 := by apply fr_Walker_goOn (P := inC) (h := e2) <;> decide
        rw [← Option.some.inj h]; exact ⟨Fr.trans f1 f2, Or.inl rfl⟩
      · rw [← Option.some.inj h]; exact ⟨Fr.refl, Or.inr (Or.inr rfl)⟩
  · rw [← Option.some.inj h]; exact ⟨Fr.refl, Or.inr (Or.inl rfl)⟩
end
theorem lx_at {β : Type} {L : Nat} {xs : Nat → Int32} {j : Nat} (hj : j < L) (hL : L < 2 ^ 31) (f : Int32 → Option β) : lx L xs (nI j) f = f (xs j) := by
  unfold lx
  rw [nI_clamp (by omega), if_neg]
  rintro (h | h)
  · exact nI_pos (n := j) (by omega) h
  · omega
theorem lw_loop {L : Nat} {xs : Nat → Int32} (hL : L ≤ 3584) : ∀ (e N p : Nat) (σ : St), L < p + 7 * e + 7 → p ≤ L + 7 → e < N → R σ σ → ∃ σ', Law_law_B23 L xs N 0 67 97 (nI p) σ = some (1, σ') := by
  have stop : ∀ p, p ≤ L + 7 → L < p + 7 → nI L - 7 < nI p := by
    intro p h1 h2
    refine Int32.lt_iff_toInt_lt.mpr ?_
    rw [Int32.toInt_sub, nI_toInt (by omega), nI_toInt (by omega), show (7 : Int32).toInt = 7 from by decide, Int.bmod_eq_of_le (by omega) (by omega)]
    omega
  intro e
  induction e with
  | zero =>
    intro N p σ h1 h2 h3 hR
    obtain ⟨N, rfl⟩ : ∃ n, N = n + 1 := ⟨N - 1, by omega⟩
    exact ⟨σ, by rw [Law_law_B23, if_pos (stop p h2 (by omega))]⟩
  | succ e ih =>
    intro N p σ h1 h2 h3 hR
    obtain ⟨N, rfl⟩ : ∃ n, N = n + 1 := ⟨N - 1, by omega⟩
    by_cases c : L < p + 7
    · exact ⟨σ, by rw [Law_law_B23, if_pos (stop p h2 c)]⟩
    have hK : ∀ σ, R σ σ → ∃ σ', Law_law_B23 L xs N 0 67 97 (nI p + 7) σ = some (1, σ') := fun σ hR => by
      rw [show nI p + 7 = nI (p + 7) from nI_add p 7]
      exact ih N (p + 7) σ (by omega) (by omega) (by omega) hR
    have np : ¬ nI L - 7 < nI p := by
      rw [show (7 : Int32) = nI 7 from rfl, nI_sub (by omega) (by omega)]
      exact nI_nlt (by omega) (by omega)
    have x0 : ∀ {β : Type} (f : Int32 → Option β), lx L xs (nI p) f = f (xs p) := fun f => lx_at (by omega) (by omega) f
    have xj : ∀ (j : Nat), j < 7 → ∀ {β : Type} (f : Int32 → Option β), lx L xs (nI p + nI j) f = f (xs (p + j)) := fun j hj β f => by rw [nI_add]; exact lx_at (by omega) (by omega) f
    have x1 : ∀ {β : Type} (f : Int32 → Option β), lx L xs (nI p + 1) f = f (xs (p + 1)) := fun f => xj 1 (by decide) f
    have x2 : ∀ {β : Type} (f : Int32 → Option β), lx L xs (nI p + 2) f = f (xs (p + 2)) := fun f => xj 2 (by decide) f
    have x3 : ∀ {β : Type} (f : Int32 → Option β), lx L xs (nI p + 3) f = f (xs (p + 3)) := fun f => xj 3 (by decide) f
    have x4 : ∀ {β : Type} (f : Int32 → Option β), lx L xs (nI p + 4) f = f (xs (p + 4)) := fun f => xj 4 (by decide) f
    have x5 : ∀ {β : Type} (f : Int32 → Option β), lx L xs (nI p + 5) f = f (xs (p + 5)) := fun f => xj 5 (by decide) f
    have x6 : ∀ {β : Type} (f : Int32 → Option β), lx L xs (nI p + 6) f = f (xs (p + 6)) := fun f => xj 6 (by decide) f
    rw [Law_law_B23, if_neg np]
    simp only [x0, x1, x2, x3, x4, x5, x6, nm_of, Law_decoded, Law_run, Law_walk, Law_state, Law_output]
    by_cases c0 : xs p &&& 31 = 0
    · rw [if_pos c0]
      exact st_one (ts_feed _ _ _ _ _) (fun σ r h => by apply fr_House_feed (P := inC) (h := h) <;> decide) (fun σ r h => by apply fr_Mo_feed (P := inM) (h := h) <;> decide) hK hR
    rw [if_neg c0]
    by_cases c1 : xs p &&& 31 = 1
    · rw [if_pos c1]
      exact st_one (ts_end _) (fun σ r h => by apply fr_House_end (P := inC) (h := h) <;> decide) (fun σ r h => by apply fr_Mo_end (P := inM) (h := h) <;> decide) hK hR
    rw [if_neg c1]
    by_cases c2 : xs p &&& 31 = 2
    · rw [if_pos c2]
      exact st_one (ts_check) (fun σ r h => by apply fr_House_check (P := inC) (h := h) <;> decide) (fun σ r h => by apply fr_Mo_check (P := inM) (h := h) <;> decide) hK hR
    rw [if_neg c2]
    by_cases c3 : xs p &&& 31 = 3
    · rw [if_pos c3]
      exact st_one (ts_fault _) (fun σ r h => by apply fr_House_fault (P := inC) (h := h) <;> decide) (fun σ r h => by apply fr_Mo_fault (P := inM) (h := h) <;> decide) hK hR
    rw [if_neg c3]
    by_cases c4 : xs p &&& 31 = 4
    · rw [if_pos c4]
      exact st_one (ts_plain _ _ _ _ _ _) (fun σ r h => by apply fr_House_plain (P := inC) (h := h) <;> decide) (fun σ r h => by apply fr_Mo_plain (P := inM) (h := h) <;> decide) hK hR
    rw [if_neg c4]
    by_cases c5 : xs p &&& 31 = 5
    · rw [if_pos c5]
      exact st_one (ts_flow _ _ _) (fun σ r h => by apply fr_House_flow (P := inC) (h := h) <;> decide) (fun σ r h => by apply fr_Mo_flow (P := inM) (h := h) <;> decide) hK hR
    rw [if_neg c5]
    by_cases c6 : xs p &&& 31 = 6
    · rw [if_pos c6]
      exact st_one (ts_clear) (fun σ r h => by apply fr_House_clear (P := inC) (h := h) <;> decide) (fun σ r h => by apply fr_Mo_clear (P := inM) (h := h) <;> decide) hK hR
    rw [if_neg c6]
    by_cases c7 : xs p &&& 31 = 7
    · rw [if_pos c7]
      exact st_one (ts_build) (fun σ r h => by apply fr_House_build (P := inC) (h := h) <;> decide) (fun σ r h => by apply fr_Mo_build (P := inM) (h := h) <;> decide) hK hR
    rw [if_neg c7]
    by_cases c8 : xs p &&& 31 = 8
    · rw [if_pos c8]
      exact st_one (ts_size) (fun σ r h => by apply fr_House_size (P := inC) (h := h) <;> decide) (fun σ r h => by apply fr_Mo_size (P := inM) (h := h) <;> decide) hK hR
    rw [if_neg c8]
    by_cases c9 : xs p &&& 31 = 9
    · rw [if_pos c9]
      exact st_one (ts_code _) (fun σ r h => by apply fr_House_code (P := inC) (h := h) <;> decide) (fun σ r h => by apply fr_Mo_code (P := inM) (h := h) <;> decide) hK hR
    rw [if_neg c9]
    by_cases c10 : xs p &&& 31 = 10
    · rw [if_pos c10]
      exact st_tt (tt_decoded _ _) (fun σ r h => ft_decoded h) (fun σ r h => by apply fr_Mo_decoded (P := inM) (h := h) <;> decide) (Or.inl ⟨rfl, rfl⟩) hK hR
    rw [if_neg c10]
    by_cases c11 : xs p &&& 31 = 11
    · rw [if_pos c11]
      exact st_one (ts_place _ _) (fun σ r h => by apply fr_House_place (P := inC) (h := h) <;> decide) (fun σ r h => by apply fr_Mo_place (P := inM) (h := h) <;> decide) hK hR
    rw [if_neg c11]
    by_cases c12 : xs p &&& 31 = 12
    · rw [if_pos c12]
      exact st_one (ts_set _ _ _) (fun σ r h => by apply fr_House_set (P := inC) (h := h) <;> decide) (fun σ r h => by apply fr_Mo_set (P := inM) (h := h) <;> decide) hK hR
    rw [if_neg c12]
    by_cases c13 : xs p &&& 31 = 13
    · rw [if_pos c13]
      exact st_tt (tt_run _) (fun σ r h => ft_run h) (fun σ r h => by apply fr_Mo_run (P := inM) (h := h) <;> decide) (Or.inr ⟨rfl, rfl⟩) hK hR
    rw [if_neg c13]
    by_cases c14 : xs p &&& 31 = 14
    · rw [if_pos c14]
      exact st_tt (tt_walk _) (fun σ r h => ft_walk h) (fun σ r h => by apply fr_Mo_walk (P := inM) (h := h) <;> decide) (Or.inr ⟨rfl, rfl⟩) hK hR
    rw [if_neg c14]
    by_cases c15 : xs p &&& 31 = 15
    · rw [if_pos c15]
      by_cases z : xs (p + 1) = 0
      · simp only [if_pos z]
        exact st_tt (tt_state _ _) (fun σ r h => ft_state h) (fun σ r h => by apply fr_Mo_state (P := inM) (h := h) <;> decide) (Or.inl ⟨rfl, rfl⟩) hK hR
      · simp only [if_neg z]
        exact st_tt (tt_state _ _) (fun σ r h => ft_state h) (fun σ r h => by apply fr_Mo_state (P := inM) (h := h) <;> decide) (Or.inl ⟨rfl, rfl⟩) hK hR
    rw [if_neg c15]
    by_cases c16 : xs p &&& 31 = 16
    · rw [if_pos c16]
      by_cases z : xs (p + 1) = 0
      · simp only [if_pos z]
        exact st_one (ts_data _ _) (fun σ r h => by apply fr_House_data (P := inC) (h := h) <;> decide) (fun σ r h => by apply fr_Mo_data (P := inM) (h := h) <;> decide) hK hR
      · simp only [if_neg z]
        exact st_one (ts_data _ _) (fun σ r h => by apply fr_House_data (P := inC) (h := h) <;> decide) (fun σ r h => by apply fr_Mo_data (P := inM) (h := h) <;> decide) hK hR
    rw [if_neg c16]
    by_cases c17 : xs p &&& 31 = 17
    · rw [if_pos c17]
      by_cases z : xs (p + 1) = 0
      · simp only [if_pos z]
        exact st_tt (tt_output _ _) (fun σ r h => ft_output h) (fun σ r h => by apply fr_Mo_output (P := inM) (h := h) <;> decide) (Or.inl ⟨rfl, rfl⟩) hK hR
      · simp only [if_neg z]
        exact st_tt (tt_output _ _) (fun σ r h => ft_output h) (fun σ r h => by apply fr_Mo_output (P := inM) (h := h) <;> decide) (Or.inl ⟨rfl, rfl⟩) hK hR
    rw [if_neg c17]
    exact hK σ hR
theorem lw_pure {L : Nat} {xs : Nat → Int32} (hL : L ≤ 3584) {σ : St} (hR : R σ σ) : ∃ σ', Law_law_B23 L xs 513 0 67 97 0 σ = some (1, σ') := lw_loop hL 512 513 0 σ (by omega) (by omega) (by omega) hR
