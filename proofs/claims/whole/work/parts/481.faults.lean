section
variable {m : Nat} {s a b op fm r x d i : Nat → Int32}
theorem m_fl28 : ∀ (k N : Nat) (τ : St), k ≤ m → k < N → MT0 m s a b op fm r x d i τ → (∀ l, l < 40 → FLr k m s a l (τ 80 l)) → ∃ τ', Mo_firstWrong_B28 N 67 (nI k - 1) τ = Mo_firstWrong_B61 FU 67 0 τ' ∧ (∀ c, c ≠ 80 → τ' c = τ c) ∧ (∀ l, l < 40 → FLr 0 m s a l (τ' 80 l)) ∧ ∀ l, 40 ≤ l → τ' 80 l = τ 80 l := by
  intro k
  induction k with
  | zero =>
    intro N τ h1 h2 D h
    obtain ⟨N, rfl⟩ : ∃ n, N = n + 1 := ⟨N - 1, by omega⟩
    rw [Mo_firstWrong_B28, if_pos (by decide)]
    exact ⟨τ, rfl, fun _ _ => rfl, h, fun _ _ => rfl⟩
  | succ k ih =>
    intro N τ h1 h2 D h
    obtain ⟨N, rfl⟩ : ∃ n, N = n + 1 := ⟨N - 1, by omega⟩
    have hm := D.1
    have c : k < m := by omega
    have ek : nI (k + 1) - 1 = nI k := by rw [show nI (k + 1) - 1 = nI (k + 1 - 1) from nI_sub (b := 1) (by omega) (by omega)]; rfl
    have em : nI k + -1 = nI k - 1 := by rw [Int32.sub_eq_add_neg]
    rw [Mo_firstWrong_B28, ek, if_neg (nI_pos (by omega)), cc_67_11, cc_67_14, cc_67_20, mt_s D c, nm_of, em]
    by_cases z : s k = 0
    · obtain ⟨l, hl, ea⟩ := fok_l (mt_fok D c (by rw [z]; decide)) (Or.inl z)
      rw [if_neg (not_not_intro z), mt_a D c (by rw [z]; decide) (by rw [z]; decide), ea, sa_nI (by omega) (by decide), nm_of]
      obtain ⟨τ', e1, e2, e3, e4⟩ := ih N (s2 τ 80 l (nI k)) (by omega) (by omega) (mt_c D (fun c x1 x2 => s2_ne (by omega)) (by rw [s2_ne (by decide)])) (fun l' hl' => by
        have := fl_dn c (h l' hl')
        rw [s2_row, upd_at]
        by_cases e : l' = l
        · subst e; rw [if_pos ⟨z, ea⟩] at this; rw [if_pos rfl]; exact this
        · rw [if_neg (show ¬ (s k = 0 ∧ a k = nI l') from fun y => e ((nI_inj (by omega) (by omega)).mp (y.2.symm.trans ea)))] at this
          rw [if_neg e]; exact this)
      exact ⟨τ', e1, fun c hc => by rw [e2 c hc, s2_ne hc], e3, fun l' hl' => by rw [e4 l' hl', s2_row, upd_ne (by omega)]⟩
    · rw [if_pos z]
      exact ih N τ (by omega) (by omega) D (fun l hl => by
        have := fl_dn c (h l hl)
        rw [if_neg (show ¬ (s k = 0 ∧ a k = nI l) from fun y => z y.1)] at this
        exact this)
theorem m_fl2 : ∀ (e N k : Nat) (τ : St), 40 ≤ k + e → k ≤ 40 → e < N → MT0 m s a b op fm r x d i τ → (∀ l, l < k → τ 80 l = -1) → ∃ τ', Mo_firstWrong_B2 N 67 (nI k) τ = Mo_firstWrong_B61 FU 67 0 τ' ∧ (∀ c, c ≠ 80 → τ' c = τ c) ∧ (∀ l, l < 40 → FLr 0 m s a l (τ' 80 l)) ∧ ∀ l, 40 ≤ l → τ' 80 l = τ 80 l := by
  have fin : ∀ τ : St, MT0 m s a b op fm r x d i τ → (∀ l, l < 40 → τ 80 l = -1) → ∃ τ', Mo_firstWrong_B28 FU 67 (nI m - 1) τ = Mo_firstWrong_B61 FU 67 0 τ' ∧ (∀ c, c ≠ 80 → τ' c = τ c) ∧ (∀ l, l < 40 → FLr 0 m s a l (τ' 80 l)) ∧ ∀ l, 40 ≤ l → τ' 80 l = τ 80 l := fun τ D h => m_fl28 m FU τ (Nat.le_refl _) (FU_big (by have := D.1; omega)) D (fun l hl => Or.inl ⟨h l hl, fun j x y => by omega⟩)
  intro e
  induction e with
  | zero =>
    intro N k τ h1 h2 h3 D h
    obtain ⟨N, rfl⟩ : ∃ n, N = n + 1 := ⟨N - 1, by omega⟩
    rw [Mo_firstWrong_B2, if_pos (lf_le 40 40 k rfl (by omega) (by omega)), nm_of, D.2.1]
    exact fin τ D (fun l hl => h l (by omega))
  | succ e ih =>
    intro N k τ h1 h2 h3 D h
    obtain ⟨N, rfl⟩ : ∃ n, N = n + 1 := ⟨N - 1, by omega⟩
    rw [Mo_firstWrong_B2]
    by_cases c : 40 ≤ k
    · rw [if_pos (lf_le 40 40 k rfl c (by omega)), nm_of, D.2.1]
      exact fin τ D (fun l hl => h l (by omega))
    · rw [if_neg (lf_nle 40 40 k rfl (by omega) (by decide)), cc_67_20, sa_nI (by omega) (by decide), nm_of, nI_1]
      obtain ⟨τ', e1, e2, e3, e4⟩ := ih N (k + 1) (s2 τ 80 k (-1)) (by omega) (by omega) (by omega) (mt_c D (fun c x1 x2 => s2_ne (by omega)) (by rw [s2_ne (by decide)])) (fun l hl => by
        rw [s2_row, upd_at]
        by_cases e : l = k
        · rw [if_pos e]
        · rw [if_neg e]; exact h l (by omega))
      exact ⟨τ', e1, fun c hc => by rw [e2 c hc, s2_ne hc], e3, fun l' hl' => by rw [e4 l' hl', s2_row, upd_ne (by omega)]⟩
/-- the FIRST of the reference's ITEMS that is wrong -/
theorem m_fw {lb : Nat → Int32} (hF : ∀ l, l < 40 → FLr 0 m s a l (lb l)) : ∀ (e N k : Nat) (τ : St), m ≤ k + e → k ≤ m → e < N → MT0 m s a b op fm r x d i τ → (∀ l, l < 40 → τ 80 l = lb l) → (∀ j, j < k → flt s a b lb j = 0) → (∃ j f, j < m ∧ (∀ j', j' < j → flt s a b lb j' = 0) ∧ flt s a b lb j = nI f ∧ 0 < f ∧ f < 4 ∧ Mo_firstWrong_B61 N 67 (nI k) τ = some (nI (1000 * f + j), τ)) ∨ ((∀ j, j < m → flt s a b lb j = 0) ∧ Mo_firstWrong_B61 N 67 (nI k) τ = some (0, τ)) := by
  intro e
  induction e with
  | zero =>
    intro N k τ h1 h2 h3 D hl h
    obtain ⟨N, rfl⟩ : ∃ n, N = n + 1 := ⟨N - 1, by omega⟩
    have hm := D.1
    rw [Mo_firstWrong_B61, D.2.1, if_pos ((nI_le' (by omega) (by omega)).mpr (by omega))]
    exact Or.inr ⟨fun j hj => h j (by omega), rfl⟩
  | succ e ih =>
    intro N k τ h1 h2 h3 D hl h
    obtain ⟨N, rfl⟩ : ∃ n, N = n + 1 := ⟨N - 1, by omega⟩
    have hm := D.1
    rw [Mo_firstWrong_B61, D.2.1]
    by_cases c : k < m
    · rw [if_neg (fun x => absurd ((nI_le' (by omega) (by omega)).mp x) (by omega)), cc_67_11, mt_s D c]
      have nxt : flt s a b lb k = 0 → (∃ j f, j < m ∧ (∀ j', j' < j → flt s a b lb j' = 0) ∧ flt s a b lb j = nI f ∧ 0 < f ∧ f < 4 ∧ Mo_firstWrong_B61 N 67 (nI (k + 1)) τ = some (nI (1000 * f + j), τ)) ∨ ((∀ j, j < m → flt s a b lb j = 0) ∧ Mo_firstWrong_B61 N 67 (nI (k + 1)) τ = some (0, τ)) := fun h0 => ih N (k + 1) τ (by omega) (by omega) (by omega) D hl (fun j hj => by
        by_cases e : j = k
        · rw [e]; exact h0
        · exact h j (by omega))
      have bad : ∀ f : Nat, 0 < f → f < 4 → flt s a b lb k = nI f → (∃ j f', j < m ∧ (∀ j', j' < j → flt s a b lb j' = 0) ∧ flt s a b lb j = nI f' ∧ 0 < f' ∧ f' < 4 ∧ some (nI (1000 * f + k), τ) = some (nI (1000 * f' + j), τ)) ∨ ((∀ j, j < m → flt s a b lb j = 0) ∧ some (nI (1000 * f + k), τ) = some (0, τ)) := fun f h1 h2 h3 => Or.inl ⟨k, f, c, h, h3, h1, h2, rfl⟩
      have l80 : ∀ (l : Nat), l < 40 → ∀ f : Int32 → Option (Int32 × St), ld τ 80 80 (nI l) f = f (lb l) := fun l h' f => by rw [ld_nI (by omega) (by decide), hl l h']
      by_cases z0 : s k = 0
      · obtain ⟨l, hl', ea⟩ := fok_l (mt_fok D c (by rw [z0]; decide)) (Or.inl z0)
        rw [if_neg (not_not_intro z0), cc_67_14, cc_67_20, mt_a D c (by rw [z0]; decide) (by rw [z0]; decide), ea, l80 l hl']
        have ef : flt s a b lb k = if lb l = nI k then 0 else 1 := by unfold flt; rw [if_pos z0, ea, nI_clamp (by omega)]
        by_cases y : lb l = nI k
        · rw [if_pos y]
          unfold Mo_firstWrong_B101 Mo_firstWrong_B127 Mo_firstWrong_B153
          rw [if_neg (by rw [z0]; decide), if_neg (by rw [z0]; decide), if_neg (by rw [z0]; decide), if_pos (by rw [z0]; decide), if_pos rfl, if_pos (by rw [z0]; decide), nm_of, nI_1]
          exact nxt (by rw [ef, if_pos y])
        · rw [if_neg y, show (1000 : Int32) + nI k = nI (1000 * 1 + k) from nI_add 1000 k]
          exact bad 1 (by omega) (by omega) (by rw [ef, if_neg y]; rfl)
      · rw [if_pos z0]
        have b153 : ¬ s k = 8 → flt s a b lb k = 0 → (∃ j f, j < m ∧ (∀ j', j' < j → flt s a b lb j' = 0) ∧ flt s a b lb j = nI f ∧ 0 < f ∧ f < 4 ∧ Mo_firstWrong_B153 (Mo_firstWrong_B61 N) 67 (nI k) (s k) τ = some (nI (1000 * f + j), τ)) ∨ ((∀ j, j < m → flt s a b lb j = 0) ∧ Mo_firstWrong_B153 (Mo_firstWrong_B61 N) 67 (nI k) (s k) τ = some (0, τ)) := fun n8 h0 => by
          unfold Mo_firstWrong_B153
          rw [if_pos n8, nm_of, nI_1]; exact nxt h0
        by_cases zn : s k = 1 ∨ s k = 2 ∨ s k = 3 ∨ s k = 8
        · have hn9 : ¬ s k = 9 ∧ ¬ s k = 7 := by rcases zn with e | e | e | e <;> rw [e] <;> decide
          obtain ⟨l, hl', ea⟩ := fok_l (mt_fok D c hn9.1) (Or.inr zn)
          have e101 : Mo_firstWrong_B101 (Mo_firstWrong_B61 N) 67 (nI k) (s k) τ = if ¬ lb l = -1 then Mo_firstWrong_B153 (Mo_firstWrong_B61 N) 67 (nI k) (s k) τ else some (2000 + nI k, τ) := by
            have e127 : Mo_firstWrong_B127 (Mo_firstWrong_B61 N) 67 (nI k) (s k) 1 τ = if ¬ lb l = -1 then Mo_firstWrong_B153 (Mo_firstWrong_B61 N) 67 (nI k) (s k) τ else some (2000 + nI k, τ) := by
              unfold Mo_firstWrong_B127
              rw [if_neg (by decide), cc_67_14, cc_67_20, mt_a D c hn9.1 hn9.2, ea, l80 l hl']
            unfold Mo_firstWrong_B101
            rw [e127]
            rcases zn with e | e | e | e
            · rw [if_pos e]
            · rw [if_neg (show ¬ s k = 1 by rw [e]; decide), if_pos e]
            · rw [if_neg (show ¬ s k = 1 by rw [e]; decide), if_neg (show ¬ s k = 2 by rw [e]; decide), if_pos e]
            · rw [if_neg (show ¬ s k = 1 by rw [e]; decide), if_neg (show ¬ s k = 2 by rw [e]; decide), if_neg (show ¬ s k = 3 by rw [e]; decide), if_neg (not_not_intro e)]
          rw [e101]
          have ef : flt s a b lb k = if lb l = -1 then 2 else if s k = 8 then (if b (lb l).toNatClampNeg = 1 then 0 else 3) else 0 := by
            unfold flt
            rw [if_neg z0, ea, nI_clamp (by omega)]
            by_cases z3 : s k = 1 ∨ s k = 2 ∨ s k = 3
            · rw [if_pos z3]
              by_cases y : lb l = -1
              · rw [if_pos y, if_pos y]
              · rw [if_neg y, if_neg y, if_neg (by rcases z3 with e | e | e <;> rw [e] <;> decide)]
            · have z8 : s k = 8 := by rcases zn with e | e | e | e; exact absurd (Or.inl e) z3; exact absurd (Or.inr (Or.inl e)) z3; exact absurd (Or.inr (Or.inr e)) z3; exact e
              rw [if_neg z3, if_pos z8, if_pos z8]
          by_cases y : lb l = -1
          · rw [if_neg (not_not_intro y), show (2000 : Int32) + nI k = nI (1000 * 2 + k) from nI_add 2000 k]
            exact bad 2 (by omega) (by omega) (by rw [ef, if_pos y]; rfl)
          · rw [if_pos y]
            by_cases z8 : s k = 8
            · rcases hF l hl' with ⟨e1, _⟩ | ⟨j, _, hj, e1, e2, e3, _⟩
              · exact absurd e1 y
              · unfold Mo_firstWrong_B153
                rw [if_neg (not_not_intro z8), cc_67_14, cc_67_20, cc_67_15, mt_a D c hn9.1 hn9.2, ea, l80 l hl', e1, mt_b D hj (Or.inl e2)]
                rw [if_neg y, if_pos z8, e1, nI_clamp (by omega)] at ef
                have hb : isB (b j) := by
                  rcases mt_fok D hj (by rw [e2]; decide) with ⟨_, _, w⟩ | ⟨w, _⟩ | ⟨w, _⟩ | ⟨w, _⟩ | ⟨w, _⟩ | w | ⟨w, _⟩
                  · exact w
                  · rw [e2] at w; exact absurd w (by decide)
                  · rw [e2] at w; exact absurd w (by decide)
                  · rw [e2] at w; exact absurd w (by decide)
                  · rw [e2] at w; exact absurd w (by decide)
                  · rw [e2] at w; exact absurd w (by decide)
                  · rw [e2] at w; exact absurd w (by decide)
                rcases hb with w | w
                · rw [if_neg (not_not_intro w), show (3000 : Int32) + nI k = nI (1000 * 3 + k) from nI_add 3000 k]
                  exact bad 3 (by omega) (by omega) (by rw [ef, w]; rfl)
                · rw [if_pos (by rw [w]; decide), nm_of, nI_1]
                  exact nxt (by rw [ef, if_pos w])
            · exact b153 z8 (by rw [ef, if_neg y, if_neg z8])
        · have n1 : ¬ s k = 1 := fun e => zn (Or.inl e)
          have n2 : ¬ s k = 2 := fun e => zn (Or.inr (Or.inl e))
          have n3 : ¬ s k = 3 := fun e => zn (Or.inr (Or.inr (Or.inl e)))
          have n8 : ¬ s k = 8 := fun e => zn (Or.inr (Or.inr (Or.inr e)))
          unfold Mo_firstWrong_B101 Mo_firstWrong_B127
          rw [if_neg n1, if_neg n2, if_neg n3, if_pos n8, if_pos rfl]
          refine b153 n8 ?_
          unfold flt
          rw [if_neg z0, if_neg (fun y => by rcases y with y | y | y; exact n1 y; exact n2 y; exact n3 y), if_neg n8]
    · rw [if_pos ((nI_le' (by omega) (by omega)).mpr (by omega))]
      exact Or.inr ⟨fun j hj => h j (by omega), rfl⟩
end
