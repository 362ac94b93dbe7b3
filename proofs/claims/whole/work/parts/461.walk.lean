/-! ===== a WALK: past LABELS, landings ===== -/
def pst (s : Nat → Int32) (m : Nat) : Nat → Nat → Nat
  | 0, q => q
  | k + 1, q => if m ≤ q then q else if s q = 0 then pst s m k (q + 1) else q
theorem pst_le {s : Nat → Int32} {m : Nat} : ∀ (k q : Nat), q ≤ m → q ≤ pst s m k q ∧ pst s m k q ≤ m := by
  intro k
  induction k with
  | zero => intro q h; exact ⟨Nat.le_refl _, h⟩
  | succ k ih =>
    intro q h
    rw [pst]
    by_cases c : m ≤ q
    · rw [if_pos c]; omega
    · rw [if_neg c]
      by_cases d : s q = 0
      · rw [if_pos d]; have := ih (q + 1) (by omega); omega
      · rw [if_neg d]; omega
theorem pst_ns {s : Nat → Int32} {m : Nat} : ∀ (k q : Nat), m ≤ q + k → pst s m k q < m → ¬ s (pst s m k q) = 0 := by
  intro k
  induction k with
  | zero => intro q h h2; rw [pst] at h2; omega
  | succ k ih =>
    intro q h h2
    rw [pst] at h2 ⊢
    by_cases c : m ≤ q
    · rw [if_pos c] at h2; omega
    · rw [if_neg c] at h2 ⊢
      by_cases d : s q = 0
      · rw [if_pos d] at h2 ⊢; exact ih (q + 1) (by omega) h2
      · rw [if_neg d]; exact d
theorem pst_f {s : Nat → Int32} {m : Nat} : ∀ (k k' q : Nat), m ≤ q + k → m ≤ q + k' → pst s m k q = pst s m k' q := by
  intro k
  induction k with
  | zero =>
    intro k' q h h'
    cases k' with
    | zero => rfl
    | succ k' => rw [pst, pst, if_pos (by omega)]
  | succ k ih =>
    intro k' q h h'
    cases k' with
    | zero => rw [pst, pst, if_pos (by omega)]
    | succ k' =>
      rw [pst, pst]
      by_cases c : m ≤ q
      · rw [if_pos c, if_pos c]
      · rw [if_neg c, if_neg c]
        by_cases d : s q = 0
        · rw [if_pos d, if_pos d]; exact ih k' (q + 1) (by omega) (by omega)
        · rw [if_neg d, if_neg d]
theorem pst_eq {s : Nat → Int32} {m : Nat} (hm : m ≤ 120) {q w : Nat} (h1 : q ≤ w) (h2 : w ≤ m) (hl : ∀ k, q ≤ k → k < w → s k = 0) : pst s m 120 q = pst s m 120 w := by
  have key : ∀ d q, q + d = w → (∀ k, q ≤ k → k < w → s k = 0) → pst s m 120 q = pst s m 120 w := by
    intro d
    induction d with
    | zero => intro q h _; rw [show q = w by omega]
    | succ d ih =>
      intro q h hl
      rw [← ih (q + 1) (by omega) (fun k a b => hl k (by omega) b)]
      rw [pst_f 120 121 q (by omega) (by omega)]
      show pst s m (120 + 1) q = _
      rw [pst, if_neg (by omega), if_pos (hl q (by omega) (by omega))]
  exact key (w - q) q (by omega) hl
section
variable {m : Nat} {σ τ : St}
theorem c_past (hc : σ 33 4 = nI m) (hm : m ≤ 120) : ∀ (k N q : Nat), m ≤ q + k → q ≤ m → k < N → Program_pastLabels_B6 N 33 (nI q) σ = some (nI (pst (σ 34) m k q), σ) := by
  intro k
  induction k with
  | zero =>
    intro N q h1 h2 h3
    obtain ⟨N, rfl⟩ : ∃ N', N = N' + 1 := ⟨N - 1, by omega⟩
    rw [Program_pastLabels_B6, hc, if_pos ((nI_le' (by omega) (by omega)).mpr (by omega)), pst]
  | succ k ih =>
    intro N q h1 h2 h3
    obtain ⟨N, rfl⟩ : ∃ N', N = N' + 1 := ⟨N - 1, by omega⟩
    rw [Program_pastLabels_B6, hc, pst]
    by_cases c : m ≤ q
    · rw [if_pos ((nI_le' (by omega) (by omega)).mpr c), if_pos c]
    · rw [if_neg (fun x => c ((nI_le' (by omega) (by omega)).mp x)), if_neg c, if_neg (lf_nle 120 120 q rfl (by omega) (by decide)), cc_33_0, ld_nI (by omega) (by decide)]
      by_cases d : σ 34 q = 0
      · rw [if_neg (not_not_intro d), if_pos d, nm_of, nI_1]; exact ih N (q + 1) (by omega) (by omega) (by omega)
      · rw [if_pos d, if_neg d]
theorem c_pastL (hc : σ 33 4 = nI m) (hm : m ≤ 120) {q : Nat} (hq : q ≤ m) : Program_pastLabels 33 (nI q) σ = some (nI (pst (σ 34) m 120 q), σ) := by
  unfold Program_pastLabels mx
  rw [nm_of, if_neg (nI_pos (by omega))]
  exact c_past hc hm 120 FU q (by omega) hq (FU_big (by omega))
theorem m_past {s : Nat → Int32} (hc : τ 67 9 = nI m) (hm : m ≤ 120) (hs : ∀ k, k < m → τ 71 (120 + k) = s k) : ∀ (k N q : Nat), m ≤ q + k → q ≤ m → k < N → Mo_passed_B2 N 67 (nI q) τ = some (nI (pst s m k q), τ) := by
  intro k
  induction k with
  | zero =>
    intro N q h1 h2 h3
    obtain ⟨N, rfl⟩ : ∃ N', N = N' + 1 := ⟨N - 1, by omega⟩
    rw [Mo_passed_B2, hc, if_pos ((nI_le' (by omega) (by omega)).mpr (by omega)), pst]
  | succ k ih =>
    intro N q h1 h2 h3
    obtain ⟨N, rfl⟩ : ∃ N', N = N' + 1 := ⟨N - 1, by omega⟩
    rw [Mo_passed_B2, hc, pst]
    by_cases c : m ≤ q
    · rw [if_pos ((nI_le' (by omega) (by omega)).mpr c), if_pos c]
    · rw [if_neg (fun x => c ((nI_le' (by omega) (by omega)).mp x)), if_neg c, cc_67_11, show (120 : Int32) + nI q = nI (120 + q) from nI_add 120 q, ld_nI (by omega) (by decide), hs q (by omega)]
      by_cases d : s q = 0
      · rw [if_neg (not_not_intro d), if_pos d, nm_of, nI_1]; exact ih N (q + 1) (by omega) (by omega) (by omega)
      · rw [if_pos d, if_neg d]
theorem m_passL {s : Nat → Int32} (hc : τ 67 9 = nI m) (hm : m ≤ 120) (hs : ∀ k, k < m → τ 71 (120 + k) = s k) {q : Nat} (hq : q ≤ m) : Mo_passed 67 (nI q) τ = some (nI (pst s m 120 q), τ) := by
  unfold Mo_passed
  exact m_past hc hm hs 120 FU q (by omega) hq (FU_big (by omega))
/-- the WALK's PROGRAM on both sides -/
def PrS (m T : Nat) (pl : Nat → Nat) (σ τ : St) : Prop := m ≤ 120 ∧ σ 33 4 = nI m ∧ τ 67 9 = nI m ∧ T < 1024 ∧ σ 33 5 = nI T ∧ τ 67 55 = nI T ∧ Itms 120 m (σ 34) (σ 35) (σ 36) (σ 38) (σ 39) (σ 40) (σ 41) (σ 42) (σ 43) (τ 71) (τ 72) (τ 73) (τ 74) (τ 75) (τ 76) (τ 77) ∧ (∀ k, k < m → σ 37 k = nI (pl k) ∧ τ 78 (120 + k) = nI (pl k) ∧ pl k < 1024) ∧ Lay m (σ 34) (σ 35) (σ 36) (σ 44) (σ 45) (τ 80) (τ 79) pl
theorem prs_s {T : Nat} {pl : Nat → Nat} (P : PrS m T pl σ τ) : ∀ k, k < m → τ 71 (120 + k) = σ 34 k := fun k hk => (P.2.2.2.2.2.2.1 k hk).1
/-- ITEM q is where address a leads, to w -/
def Mt (s b : Nat → Int32) (pl : Nat → Nat) (a q w : Nat) : Prop := (s q = 0 ∧ b q = 1 ∧ a = 256 + pl q ∧ w = q) ∨ ((s q = 3 ∨ s q = 4 ∨ s q = 6) ∧ a = 256 + pl q + 5 ∧ w = q + 1)
theorem ld_loop {T : Nat} {pl : Nat → Nat} (P : PrS m T pl σ τ) {A : Int32} : ∀ (k N q : Nat), m ≤ q + k → q ≤ m → k < N →
    (∃ q' w a, q' < m ∧ A = nI a ∧ a < 2 ^ 31 ∧ Mt (σ 34) (σ 36) pl a q' w ∧ Mo_leads_B16 N 67 A (nI q) τ = some (nI (pst (σ 34) m 120 w), τ)) ∨
    (Mo_leads_B16 N 67 A (nI q) τ = some (-100, τ) ∧ ∀ q' w a, q ≤ q' → q' < m → A = nI a → a < 2 ^ 31 → ¬ Mt (σ 34) (σ 36) pl a q' w) := by
  obtain ⟨hm, c1, c2, c3, c4, c5, it, plq, lay⟩ := id P
  have hs := prs_s P
  intro k
  induction k with
  | zero =>
    intro N q h1 h2 h3
    obtain ⟨N, rfl⟩ : ∃ N', N = N' + 1 := ⟨N - 1, by omega⟩
    right
    rw [Mo_leads_B16, c2, if_pos ((nI_le' (by omega) (by omega)).mpr (by omega))]
    exact ⟨rfl, fun q' w a x1 x2 => by omega⟩
  | succ k ih =>
    intro N q h1 h2 h3
    obtain ⟨N, rfl⟩ : ∃ N', N = N' + 1 := ⟨N - 1, by omega⟩
    rw [Mo_leads_B16, c2]
    by_cases c : m ≤ q
    · right
      rw [if_pos ((nI_le' (by omega) (by omega)).mpr c)]
      exact ⟨rfl, fun q' w a x1 x2 => by omega⟩
    · have hq : q < m := by omega
      obtain ⟨p1, p2, p3⟩ := plq q hq
      have ix : ∀ c : Nat, ∀ f : Int32 → Option (Int32 × St), ld τ c 240 (120 + nI q) f = f (τ c (120 + q)) := fun c f => by rw [show (120 : Int32) + nI q = nI (120 + q) from nI_add 120 q, ld_nI (by omega) (by decide)]
      have nx := ih N (q + 1) (by omega) (by omega) (by omega)
      have nxt : (∀ w a, A = nI a → a < 2 ^ 31 → ¬ Mt (σ 34) (σ 36) pl a q w) → ((∃ q' w a, q' < m ∧ A = nI a ∧ a < 2 ^ 31 ∧ Mt (σ 34) (σ 36) pl a q' w ∧ Mo_leads_B16 N 67 A (nI (q + 1)) τ = some (nI (pst (σ 34) m 120 w), τ)) ∨ (Mo_leads_B16 N 67 A (nI (q + 1)) τ = some (-100, τ) ∧ ∀ q' w a, q ≤ q' → q' < m → A = nI a → a < 2 ^ 31 → ¬ Mt (σ 34) (σ 36) pl a q' w)) := by
        intro hno
        rcases nx with y | ⟨y1, y2⟩
        · exact Or.inl y
        · refine Or.inr ⟨y1, fun q' w a x1 x2 x3 x4 => ?_⟩
          by_cases e : q' = q
          · rw [e]; exact hno w a x3 x4
          · exact y2 q' w a (by omega) x2 x3 x4
      have hx : σ 34 q = 0 → τ 75 (120 + q) = σ 36 q := by
        intro z
        rcases (it q hq).2 with ⟨e, _⟩ | ⟨_, _, _, e⟩
        · rw [z] at e; exact absurd e (by decide)
        · rw [e, if_pos (Or.inl z)]
      have b90 : (σ 34 q = 3 ∨ σ 34 q = 4 ∨ σ 34 q = 6) → (∃ q' w a, q' < m ∧ A = nI a ∧ a < 2 ^ 31 ∧ Mt (σ 34) (σ 36) pl a q' w ∧ Mo_leads_B90 (Mo_leads_B16 N) 67 A (nI q) τ = some (nI (pst (σ 34) m 120 w), τ)) ∨ (Mo_leads_B90 (Mo_leads_B16 N) 67 A (nI q) τ = some (-100, τ) ∧ ∀ q' w a, q ≤ q' → q' < m → A = nI a → a < 2 ^ 31 → ¬ Mt (σ 34) (σ 36) pl a q' w) := by
        intro hp
        unfold Mo_leads_B90
        rw [cc_67_18, ix, p2, show ((256 : Int32) + nI (pl q)) + 5 = nI (256 + pl q + 5) by rw [show (256 : Int32) = nI 256 from rfl, nI_add, show (5 : Int32) = nI 5 from rfl, nI_add]]
        by_cases e : A = nI (256 + pl q + 5)
        · left
          rw [if_neg (not_not_intro e), nI_1, m_passL c2 hm hs (by omega), cl_of]
          exact ⟨q, q + 1, 256 + pl q + 5, hq, e, by omega, Or.inr ⟨hp, rfl, rfl⟩, rfl⟩
        · rw [if_pos e, nm_of, nI_1]
          refine nxt fun w a x3 x4 => ?_
          rintro (⟨y, _⟩ | ⟨_, y, _⟩)
          · rcases hp with z | z | z <;> (rw [z] at y; exact absurd y (by decide))
          · exact e (by rw [x3, y])
      have b74 : (σ 34 q = 0 → ∀ w a, A = nI a → a < 2 ^ 31 → ¬ Mt (σ 34) (σ 36) pl a q w) → (∃ q' w a, q' < m ∧ A = nI a ∧ a < 2 ^ 31 ∧ Mt (σ 34) (σ 36) pl a q' w ∧ Mo_leads_B74 (Mo_leads_B16 N) 67 A (nI q) (σ 34 q) τ = some (nI (pst (σ 34) m 120 w), τ)) ∨ (Mo_leads_B74 (Mo_leads_B16 N) 67 A (nI q) (σ 34 q) τ = some (-100, τ) ∧ ∀ q' w a, q ≤ q' → q' < m → A = nI a → a < 2 ^ 31 → ¬ Mt (σ 34) (σ 36) pl a q' w) := by
        intro h0
        unfold Mo_leads_B74
        by_cases d3 : σ 34 q = 3
        · rw [if_pos d3]; exact b90 (Or.inl d3)
        · rw [if_neg d3]
          by_cases d4 : σ 34 q = 4
          · rw [if_pos d4]; exact b90 (Or.inr (Or.inl d4))
          · rw [if_neg d4]
            by_cases d6 : σ 34 q = 6
            · rw [if_neg (not_not_intro d6)]; exact b90 (Or.inr (Or.inr d6))
            · rw [if_pos d6, nm_of, nI_1]
              refine nxt fun w a x3 x4 => ?_
              by_cases z : σ 34 q = 0
              · exact h0 z w a x3 x4
              · rintro (⟨y, _⟩ | ⟨y, _⟩)
                · exact z y
                · rcases y with y | y | y
                  · exact d3 y
                  · exact d4 y
                  · exact d6 y
      rw [if_neg (fun x => c ((nI_le' (by omega) (by omega)).mp x)), cc_67_11, ix, hs q hq]
      by_cases z : σ 34 q = 0
      · rw [if_neg (not_not_intro z), cc_67_15, ix, hx z]
        by_cases z1 : σ 36 q = 1
        · rw [if_neg (not_not_intro z1), cc_67_18, ix, p2, show (256 : Int32) + nI (pl q) = nI (256 + pl q) from nI_add 256 _]
          by_cases e : A = nI (256 + pl q)
          · left
            rw [if_neg (not_not_intro e), m_passL c2 hm hs (by omega), cl_of]
            exact ⟨q, q, 256 + pl q, hq, e, by omega, Or.inl ⟨z, z1, rfl, rfl⟩, rfl⟩
          · rw [if_pos e]
            refine b74 fun _ w a x3 x4 => ?_
            rintro (⟨_, _, y, _⟩ | ⟨y, _⟩)
            · exact e (by rw [x3, y])
            · rcases y with y | y | y <;> (rw [z] at y; exact absurd y (by decide))
        · rw [if_pos z1]
          refine b74 fun _ w a x3 x4 => ?_
          rintro (⟨_, y, _⟩ | ⟨y, _⟩)
          · exact z1 y
          · rcases y with y | y | y <;> (rw [z] at y; exact absurd y (by decide))
      · rw [if_pos z]
        exact b74 fun y => absurd y z
end
