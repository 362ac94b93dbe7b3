section
variable {w : Nat}
/-- a row of the reference at w -/
theorem fx_w {τ : St} {c j : Nat} {v : Int32} (hj : (c = 88 ∧ 8 * w ≤ j ∧ j < 8 * w + 8) ∨ (c = 89 ∧ 4 * w ≤ j ∧ j < 4 * w + 4) ∨ (c = 90 ∧ 1024 * w ≤ j ∧ j < 1024 * w + 1024)) : FX w τ (s2 τ c j v) := by
  have n : ∀ d, d ≠ c → s2 τ c j v d = τ d := fun d hd => s2_ne hd
  have e : ∀ d i, (d ≠ c ∨ i ≠ j) → s2 τ c j v d i = τ d i := fun d i h => by
    rw [s2_at]
    by_cases q : d = c
    · rw [if_pos q, if_neg (by omega)]
    · rw [if_neg q]
  exact ⟨fun d x y => n d (by omega), fun i x y z u v => e 67 i (by omega), fun i x => e 88 i (by omega), fun i x => e 89 i (by omega), fun i x => e 90 i (by omega), fun i x => e 91 i (by omega), fun i x => ⟨e 92 i (by omega), e 93 i (by omega), e 94 i (by omega), e 95 i (by omega)⟩, fun x => e 67 40 (by omega), fun x => e 67 39 (by omega)⟩
theorem fx_40 {τ : St} {v : Int32} (hw : w = 1) : FX w τ (s2 τ 67 40 v) := by
  have n : ∀ d, d ≠ 67 → s2 τ 67 40 v d = τ d := fun d hd => s2_ne hd
  have e : ∀ j, j ≠ 40 → s2 τ 67 40 v 67 j = τ 67 j := fun j hj => by rw [s2_row, upd_ne hj]
  exact ⟨fun d x y => n d x, fun j x y z u v => e j y, fun j x => by rw [n 88 (by decide)], fun j x => by rw [n 89 (by decide)], fun j x => by rw [n 90 (by decide)], fun j x => by rw [n 91 (by decide)], fun j x => ⟨by rw [n 92 (by decide)], by rw [n 93 (by decide)], by rw [n 94 (by decide)], by rw [n 95 (by decide)]⟩, fun x => by omega, fun x => e 39 (by decide)⟩
def BG78 (w p : Nat) (τ τ' : St) : Prop := (∀ j, j < 4 → τ' 89 (4 * w + j) = if p ≤ j then 0 else τ 89 (4 * w + j)) ∧ τ' 92 w = 0 ∧ τ' 94 w = 0 ∧ τ' 95 w = 0 ∧ τ' 67 41 = 0 ∧ (w = 0 → τ' 67 39 = 0) ∧ (w = 1 → τ' 67 40 = 0) ∧ τ' 67 42 = τ 67 42 ∧ τ' 88 = τ 88 ∧ τ' 90 = τ 90 ∧ FX w τ τ'
theorem bg_78 (hw : w < 2) : ∀ (k N p : Nat) (τ : St), 4 ≤ p + k → p ≤ 4 → k < N → wv (Mo_begin_B78 N 67 (nI w) (nI p) τ) (BG78 w p τ) := by
  have fin : ∀ (τ : St) (p : Nat), 4 ≤ p → wv (sa τ (ch 67 35) 2 (nI w) 0 fun σ1 => sa σ1 (ch 67 37) 2 (nI w) 0 fun σ2 => sa σ2 (ch 67 38) 2 (nI w) 0 fun σ3 => nm (s2 σ3 67 41 0) fun σ4 => if ¬ nI w = 1 then nm (s2 σ4 67 39 0) fun σ5 => some σ5 else nm (s2 σ4 67 40 0) fun σ6 => some σ6) (BG78 w p τ) := by
    intro τ p hp
    rw [cc_67_35, cc_67_37, cc_67_38, sa_nI hw (by decide), sa_nI hw (by decide), sa_nI hw (by decide), nm_of]
    have ew : (nI w = 1) ↔ w = 1 := nI_inj (b := 1) (by omega) (by decide)
    have X : FX w τ (s2 (s2 (s2 (s2 τ 92 w 0) 94 w 0) 95 w 0) 67 41 0) := fx_tr (fx_tr (fx_tr (fx_s (by simp)) (fx_s (by simp))) (fx_s (by simp))) (fx_f (Or.inl rfl))
    by_cases q : w = 1
    · rw [if_neg (not_not_intro (ew.mpr q)), nm_of]
      refine wv_some.mpr ⟨fun j hj => ?_, ?_, ?_, ?_, ?_, fun h => by omega, fun _ => ?_, ?_, ?_, ?_, fx_tr X (fx_40 q)⟩
      · rw [if_neg (by omega)]; simp only [s2_ne, s2_at, up_ne, up_at, ne_eq, not_false_eq_true, not_true_eq_false, if_true, if_false, Nat.reduceEqDiff, Nat.reduceLT, true_or, or_true, reduceIte]
      all_goals simp only [s2_ne, s2_at, up_ne, up_at, ne_eq, not_false_eq_true, not_true_eq_false, if_true, if_false, Nat.reduceEqDiff, Nat.reduceLT, true_or, or_true, reduceIte]
    · rw [if_pos (fun h => q (ew.mp h)), nm_of]
      refine wv_some.mpr ⟨fun j hj => ?_, ?_, ?_, ?_, ?_, fun _ => ?_, fun h => absurd h q, ?_, ?_, ?_, fx_tr X (fx_f (by omega))⟩
      · rw [if_neg (by omega)]; simp only [s2_ne, s2_at, up_ne, up_at, ne_eq, not_false_eq_true, not_true_eq_false, if_true, if_false, Nat.reduceEqDiff, Nat.reduceLT, true_or, or_true, reduceIte]
      all_goals simp only [s2_ne, s2_at, up_ne, up_at, ne_eq, not_false_eq_true, not_true_eq_false, if_true, if_false, Nat.reduceEqDiff, Nat.reduceLT, true_or, or_true, reduceIte]
  intro k
  induction k with
  | zero =>
    intro N p τ h1 h2 h3
    obtain ⟨N, rfl⟩ : ∃ m, N = m + 1 := ⟨N - 1, by omega⟩
    rw [Mo_begin_B78, if_pos (lf_le 4 4 p rfl (by omega) (by omega))]
    exact fin τ p (by omega)
  | succ k ih =>
    intro N p τ h1 h2 h3
    obtain ⟨N, rfl⟩ : ∃ m, N = m + 1 := ⟨N - 1, by omega⟩
    rw [Mo_begin_B78]
    by_cases hp : 4 ≤ p
    · rw [if_pos (lf_le 4 4 p rfl hp (by omega))]
      exact fin τ p hp
    · rw [if_neg (lf_nle 4 4 p rfl (by omega) (by decide)), cc_67_32, show (4 : Int32) * nI w + nI p = nI (4 * w + p) by rw [show (4 : Int32) = nI 4 from rfl, nI_mul, nI_add], sa_nI (by omega) (by decide), nm_of, nI_1]
      refine wv_mono (ih N (p + 1) _ (by omega) (by omega) (by omega)) fun τ' hh => ?_
      obtain ⟨a1, a2, a3, a4, a5, a6, a7, a8, a9, a10, a11⟩ := hh
      refine ⟨fun j hj => ?_, a2, a3, a4, a5, a6, a7, by rw [a8, s2_ne (by decide)], by rw [a9, s2_ne (by decide)], by rw [a10, s2_ne (by decide)], fx_tr (fx_w (by omega)) a11⟩
      rw [a1 j hj, s2_at, if_pos rfl]
      by_cases e1 : p + 1 ≤ j
      · rw [if_pos e1, if_pos (by omega)]
      · rw [if_neg e1]
        by_cases e2 : j = p
        · rw [if_pos (by omega), if_pos (by omega)]
        · rw [if_neg (by omega), if_neg (by omega)]
def BG45 (w p : Nat) (τ τ' : St) : Prop := (∀ j, j < 1024 → τ' 90 (1024 * w + j) = if p ≤ j then τ 85 j else τ 90 (1024 * w + j)) ∧ (∀ j, j < 4 → τ' 89 (4 * w + j) = 0) ∧ τ' 92 w = 0 ∧ τ' 94 w = 0 ∧ τ' 95 w = 0 ∧ τ' 67 41 = 0 ∧ (w = 0 → τ' 67 39 = 0) ∧ (w = 1 → τ' 67 40 = 0) ∧ τ' 67 42 = τ 67 42 ∧ τ' 88 = τ 88 ∧ FX w τ τ'
theorem bg_45 (hw : w < 2) : ∀ (k N p : Nat) (τ : St), 1024 ≤ p + k → p ≤ 1024 → k < N → wv (Mo_begin_B45 N 67 (nI w) (nI p) τ) (BG45 w p τ) := by
  have fin : ∀ (τ : St) (p : Nat), 1024 ≤ p → wv (Mo_begin_B78 FU 67 (nI w) 0 τ) (BG45 w p τ) := by
    intro τ p hp
    refine wv_mono (bg_78 hw 4 FU 0 τ (by omega) (by omega) (FU_big (by omega))) fun τ' hh => ?_
    obtain ⟨a1, a2, a3, a4, a5, a6, a7, a8, a9, a10, a11⟩ := hh
    exact ⟨fun j hj => by rw [a10, if_neg (by omega)], fun j hj => by rw [a1 j hj, if_pos (by omega)], a2, a3, a4, a5, a6, a7, a8, a9, a11⟩
  intro k
  induction k with
  | zero =>
    intro N p τ h1 h2 h3
    obtain ⟨N, rfl⟩ : ∃ m, N = m + 1 := ⟨N - 1, by omega⟩
    rw [Mo_begin_B45, if_pos (lf_le 1024 1024 p rfl (by omega) (by omega))]
    exact fin τ p (by omega)
  | succ k ih =>
    intro N p τ h1 h2 h3
    obtain ⟨N, rfl⟩ : ∃ m, N = m + 1 := ⟨N - 1, by omega⟩
    rw [Mo_begin_B45]
    by_cases hp : 1024 ≤ p
    · rw [if_pos (lf_le 1024 1024 p rfl hp (by omega))]
      exact fin τ p hp
    · rw [if_neg (lf_nle 1024 1024 p rfl (by omega) (by decide)), cc_67_27, ld_nI (by omega) (by decide), cc_67_33, show (1024 : Int32) * nI w + nI p = nI (1024 * w + p) by rw [show (1024 : Int32) = nI 1024 from rfl, nI_mul, nI_add], sa_nI (by omega) (by decide), nm_of, nI_1]
      refine wv_mono (ih N (p + 1) _ (by omega) (by omega) (by omega)) fun τ' hh => ?_
      obtain ⟨a1, a2, a3, a4, a5, a6, a7, a8, a9, a10, a11⟩ := hh
      refine ⟨fun j hj => ?_, a2, a3, a4, a5, a6, a7, a8, by rw [a9, s2_ne (by decide)], by rw [a10, s2_ne (by decide)], fx_tr (fx_w (by omega)) a11⟩
      rw [a1 j hj, s2_ne (show (85 : Nat) ≠ 90 by decide), s2_at, if_pos rfl]
      by_cases e1 : p + 1 ≤ j
      · rw [if_pos e1, if_pos (by omega)]
      · rw [if_neg e1]
        by_cases e2 : j = p
        · rw [if_pos (by omega), if_pos (by omega), e2]
        · rw [if_neg (by omega), if_neg (by omega)]
def BG14 (w p : Nat) (τ τ' : St) : Prop := (∀ j, j < 8 → τ' 88 (8 * w + j) = if p ≤ j then τ 84 j else τ 88 (8 * w + j)) ∧ (∀ j, j < 1024 → τ' 90 (1024 * w + j) = τ 85 j) ∧ (∀ j, j < 4 → τ' 89 (4 * w + j) = 0) ∧ τ' 92 w = 0 ∧ τ' 94 w = 0 ∧ τ' 95 w = 0 ∧ τ' 67 41 = 0 ∧ (w = 0 → τ' 67 39 = 0) ∧ (w = 1 → τ' 67 40 = 0) ∧ τ' 67 42 = τ 67 42 ∧ FX w τ τ'
theorem bg_14 (hw : w < 2) : ∀ (k N p : Nat) (τ : St), 8 ≤ p + k → p ≤ 8 → k < N → wv (Mo_begin_B14 N 67 (nI w) (nI p) τ) (BG14 w p τ) := by
  have fin : ∀ (τ : St) (p : Nat), 8 ≤ p → wv (Mo_begin_B45 FU 67 (nI w) 0 τ) (BG14 w p τ) := by
    intro τ p hp
    refine wv_mono (bg_45 hw 1024 FU 0 τ (by omega) (by omega) (FU_big (by omega))) fun τ' hh => ?_
    obtain ⟨a1, a2, a3, a4, a5, a6, a7, a8, a9, a10, a11⟩ := hh
    exact ⟨fun j hj => by rw [a10, if_neg (by omega)], fun j hj => by rw [a1 j hj, if_pos (by omega)], a2, a3, a4, a5, a6, a7, a8, a9, a11⟩
  intro k
  induction k with
  | zero =>
    intro N p τ h1 h2 h3
    obtain ⟨N, rfl⟩ : ∃ m, N = m + 1 := ⟨N - 1, by omega⟩
    rw [Mo_begin_B14, if_pos (lf_le 8 8 p rfl (by omega) (by omega))]
    exact fin τ p (by omega)
  | succ k ih =>
    intro N p τ h1 h2 h3
    obtain ⟨N, rfl⟩ : ∃ m, N = m + 1 := ⟨N - 1, by omega⟩
    rw [Mo_begin_B14]
    by_cases hp : 8 ≤ p
    · rw [if_pos (lf_le 8 8 p rfl hp (by omega))]
      exact fin τ p hp
    · rw [if_neg (lf_nle 8 8 p rfl (by omega) (by decide)), cc_67_26, ld_nI (by omega) (by decide), cc_67_31, show (8 : Int32) * nI w + nI p = nI (8 * w + p) by rw [show (8 : Int32) = nI 8 from rfl, nI_mul, nI_add], sa_nI (by omega) (by decide), nm_of, nI_1]
      refine wv_mono (ih N (p + 1) _ (by omega) (by omega) (by omega)) fun τ' hh => ?_
      obtain ⟨a1, a2, a3, a4, a5, a6, a7, a8, a9, a10, a11⟩ := hh
      refine ⟨fun j hj => ?_, fun j hj => by rw [a2 j hj, s2_ne (by decide)], a3, a4, a5, a6, a7, a8, a9, by rw [a10, s2_ne (by decide)], fx_tr (fx_w (by omega)) a11⟩
      rw [a1 j hj, s2_ne (show (84 : Nat) ≠ 88 by decide), s2_at, if_pos rfl]
      by_cases e1 : p + 1 ≤ j
      · rw [if_pos e1, if_pos (by omega)]
      · rw [if_neg e1]
        by_cases e2 : j = p
        · rw [if_pos (by omega), if_pos (by omega), e2]
        · rw [if_neg (by omega), if_neg (by omega)]
end
