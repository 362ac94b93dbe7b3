theorem hr_eq (k : Int32) (σ : St) : House_isRegister k σ = some (if inR k then 1 else 0, σ) := by
  unfold House_isRegister
  by_cases c1 : k < 0
  · rw [if_pos c1, if_neg (fun h => h.1 c1)]
  · rw [if_neg c1]
    by_cases c2 : k < 8
    · rw [if_neg (by rw [le_nlt]; exact not_not_intro c2), if_pos ⟨c1, c2⟩]
    · rw [if_pos (by rw [le_nlt]; exact c2), if_neg (fun h => c2 h.2)]
theorem mr_eq (k : Int32) (σ : St) : Mo_isRegister k σ = some (if inR k then 1 else 0, σ) := by
  unfold Mo_isRegister
  by_cases c1 : k < 0
  · rw [if_pos c1, if_neg (fun h => h.1 c1)]
  · rw [if_neg c1]
    by_cases c2 : k < 8
    · rw [if_neg (by rw [le_nlt]; exact not_not_intro c2), if_pos ⟨c1, c2⟩]
    · rw [if_pos (by rw [le_nlt]; exact c2), if_neg (fun h => c2 h.2)]
abbrev inW (a : Int32) : Prop := ¬ a < 0 ∧ a ≤ 1020
theorem hw_eq (k : Int32) (σ : St) : House_isWord k σ = some (if inW k then 1 else 0, σ) := by
  unfold House_isWord
  by_cases c1 : k < 0
  · rw [if_pos c1, if_neg (fun h => h.1 c1)]
  · rw [if_neg c1]
    by_cases c2 : k ≤ 1020
    · rw [if_neg (fun h => by rw [le_nlt] at c2; exact c2 h), if_pos ⟨c1, c2⟩]
    · rw [if_pos (by rw [le_nlt] at c2; exact Decidable.not_not.mp c2), if_neg (fun h => c2 h.2)]
theorem us_24' (v : Int32) : ushr v 24 = (shr v 24) &&& 255 := Int32.toBitVec_inj.mp (by
  show v.toBitVec >>> 24 = (v.toBitVec.sshiftRight 24) &&& 255#32
  rw [← bv_us v.toBitVec 24 (by decide)]
  apply BitVec.eq_of_getLsbD_eq
  intro i hi
  rw [BitVec.getLsbD_and, BitVec.getLsbD_ushiftRight]
  by_cases c : i < 8
  · have : ∀ i, i < 8 → (255#32).getLsbD i = true := by decide
    rw [this i c]; simp
  · rw [BitVec.getLsbD_of_ge _ _ (by omega)]; rfl)
theorem sh_0 (v : Int32) : shr v 0 = v := Int32.toBitVec_inj.mp (by
  show v.toBitVec.sshiftRight 0 = v.toBitVec
  simp)
/-- a WORD written -/
def wrw (row : Nat → Int32) (a : Nat) (v : Int32) : Nat → Int32 := upd (upd (upd (upd row a (v &&& 255)) (a + 1) ((shr v 8) &&& 255)) (a + 2) ((shr v 16) &&& 255)) (a + 3) ((shr v 24) &&& 255)
theorem wrw_at (row : Nat → Int32) (c : Nat) (v : Int32) (j : Nat) : wrw row c v j = if j = c + 3 then (shr v 24) &&& 255 else if j = c + 2 then (shr v 16) &&& 255 else if j = c + 1 then (shr v 8) &&& 255 else if j = c then v &&& 255 else row j := rfl
theorem wrw_by {n : Nat} {row : Nat → Int32} {c : Nat} (h : ∀ j, j < n → BY (row j)) {v : Int32} : ∀ j, j < n → BY (wrw row c v j) := by
  intro j hj
  rw [wrw_at]
  by_cases c3 : j = c + 3
  · rw [if_pos c3]; exact by_and (shr v 24)
  · by_cases c2 : j = c + 2
    · rw [if_neg c3, if_pos c2]; exact by_and (shr v 16)
    · by_cases c1 : j = c + 1
      · rw [if_neg c3, if_neg c2, if_pos c1]; exact by_and (shr v 8)
      · by_cases c0 : j = c
        · rw [if_neg c3, if_neg c2, if_neg c1, if_pos c0]; exact by_and v
        · rw [if_neg c3, if_neg c2, if_neg c1, if_neg c0]; exact h j hj
theorem wrw_eq {n o : Nat} {row row' : Nat → Int32} {c : Nat} (h : ∀ j, j < n → row j = row' (o + j)) {v : Int32} : ∀ j, j < n → wrw row c v j = wrw row' (o + c) v (o + j) := by
  intro j hj
  rw [wrw_at, wrw_at, h j hj]
  by_cases c3 : j = c + 3
  · rw [if_pos c3, if_pos (by omega)]
  · by_cases c2 : j = c + 2
    · rw [if_neg c3, if_pos c2, if_neg (by omega), if_pos (by omega)]
    · by_cases c1 : j = c + 1
      · rw [if_neg c3, if_neg c2, if_pos c1, if_neg (by omega), if_neg (by omega), if_pos (by omega)]
      · by_cases c0 : j = c
        · rw [if_neg c3, if_neg c2, if_neg c1, if_pos c0, if_neg (by omega), if_neg (by omega), if_neg (by omega), if_pos (by omega)]
        · rw [if_neg c3, if_neg c2, if_neg c1, if_neg c0, if_neg (by omega), if_neg (by omega), if_neg (by omega), if_neg (by omega)]
section
variable {M B : Nat} {σ : St}
theorem mg_word (hB : ch M 8 = B) {a : Nat} (ha : a ≤ 1020) (v : Int32) : Machine_giveWord M (nI a) v σ = some (va_up σ B (wrw (σ B) a v)) := by
  have e : inW (nI a) := ⟨nI_pos (by omega), (lf_leR 1020 1020 a rfl (by decide) (by omega)).mpr ha⟩
  unfold Machine_giveWord
  rw [hw_eq, if_pos e, cl_of, if_neg (by decide), hB, sa_nI (by omega) (by decide), nI_1, sa_nI (by omega) (by decide), show nI a + 2 = nI (a + 2) from nI_add a 2, sa_nI (by omega) (by decide), show nI a + 3 = nI (a + 3) from nI_add a 3, sa_nI (by omega) (by decide), us_8, us_16, us_24']
  congr 1
  funext c j
  rw [up_at]
  by_cases q : c = B
  · subst q; rw [if_pos rfl]; simp only [s2_row]; rfl
  · rw [if_neg q]; simp only [s2_ne q]
theorem mg_wordN {a : Int32} (ha : ¬ inW a) (v : Int32) : Machine_giveWord M a v σ = some σ := by
  unfold Machine_giveWord
  rw [hw_eq, if_neg ha, cl_of, if_pos rfl]
end
theorem sb_w (k : Nat) {σ : St} {a : Nat} (ha : a ≤ 1020) (v : Int32) : Mo_set_B70 (k + 1 + 1 + 1 + 1 + 1) 67 (nI a) v 0 σ = some (1, va_up σ 85 (wrw (σ 85) a v)) := by
  rw [Mo_set_B70, if_neg (by decide), cc_67_27, show nI a + 0 = nI (a + 0) from nI_add a 0, sa_nI (by omega) (by decide), nm_of]
  rw [Mo_set_B70, if_neg (by decide), cc_67_27, show nI a + (0 + 1) = nI (a + 1) from nI_add a 1, sa_nI (by omega) (by decide), nm_of]
  rw [Mo_set_B70, if_neg (by decide), cc_67_27, show nI a + (0 + 1 + 1) = nI (a + 2) from nI_add a 2, sa_nI (by omega) (by decide), nm_of]
  rw [Mo_set_B70, if_neg (by decide), cc_67_27, show nI a + (0 + 1 + 1 + 1) = nI (a + 3) from nI_add a 3, sa_nI (by omega) (by decide), nm_of]
  rw [Mo_set_B70, if_pos (by decide)]
  congr 2
  funext c j
  rw [up_at]
  by_cases q : c = 85
  · subst q; rw [if_pos rfl]; simp only [s2_row]; unfold wrw; rw [show shr v (8 * 0) = v from sh_0 v]; rfl
  · rw [if_neg q]; simp only [s2_ne q]
/-- rows made 0 -/
theorem fg_23 {M B : Nat} (hB : ch M 8 = B) (hM : B ≠ M) : ∀ (k N p : Nat) (σ : St), 1024 ≤ p + k → p ≤ 1024 → k < N → wv (Machine_forget_B23 N M (nI p) σ) (fun τ => (∀ j, j < 1024 → τ B j = if p ≤ j then 0 else σ B j) ∧ τ M = upd (σ M) 10 0 ∧ ∀ c, c ≠ M → c ≠ B → τ c = σ c) := by
  intro k
  induction k with
  | zero =>
    intro N p σ h1 h2 h3
    obtain ⟨N, rfl⟩ : ∃ N', N = N' + 1 := ⟨N - 1, by omega⟩
    rw [Machine_forget_B23, if_pos (lf_le 1024 1024 p rfl (by omega) (by omega)), nm_of]
    exact wv_some.mpr ⟨fun j hj => by rw [if_neg (by omega), s2_ne hM], s2_row _ _ _ _, fun c h1 _ => s2_ne h1⟩
  | succ k ih =>
    intro N p σ h1 h2 h3
    obtain ⟨N, rfl⟩ : ∃ N', N = N' + 1 := ⟨N - 1, by omega⟩
    rw [Machine_forget_B23]
    by_cases hp : 1024 ≤ p
    · rw [if_pos (lf_le 1024 1024 p rfl hp (by omega)), nm_of]
      exact wv_some.mpr ⟨fun j hj => by rw [if_neg (by omega), s2_ne hM], s2_row _ _ _ _, fun c h1 _ => s2_ne h1⟩
    · rw [if_neg (lf_nle 1024 1024 p rfl (by omega) (by decide)), hB, sa_nI (by omega) (by decide), nm_of, nI_1]
      refine wv_mono (ih N (p + 1) _ (by omega) (by omega) (by omega)) fun τ hh => ⟨fun j hj => ?_, by rw [hh.2.1, s2_ne hM.symm], fun c h1 h2 => by rw [hh.2.2 c h1 h2, s2_ne h2]⟩
      rw [hh.1 j hj, s2_at, if_pos rfl]
      by_cases e1 : p + 1 ≤ j
      · rw [if_pos e1, if_pos (by omega)]
      · rw [if_neg e1]
        by_cases e2 : j = p
        · rw [if_pos e2, if_pos (by omega)]
        · rw [if_neg e2, if_neg (by omega)]
theorem fs_164 : ∀ (k N p : Nat) (σ : St), 1024 ≤ p + k → p ≤ 1024 → k < N → wp (Mo_set_B164 N 67 (nI p) σ) (fun a τ => a = 1 ∧ (∀ j, j < 1024 → τ 85 j = if p ≤ j then 0 else σ 85 j) ∧ τ 67 = upd (σ 67) 29 0 ∧ ∀ c, c ≠ 67 → c ≠ 85 → τ c = σ c) := by
  intro k
  induction k with
  | zero =>
    intro N p σ h1 h2 h3
    obtain ⟨N, rfl⟩ : ∃ N', N = N' + 1 := ⟨N - 1, by omega⟩
    rw [Mo_set_B164, if_pos (lf_le 1024 1024 p rfl (by omega) (by omega)), nm_of]
    exact wp_some.mpr ⟨rfl, fun j hj => by rw [if_neg (by omega), s2_ne (by decide)], s2_row _ _ _ _, fun c h1 _ => s2_ne h1⟩
  | succ k ih =>
    intro N p σ h1 h2 h3
    obtain ⟨N, rfl⟩ : ∃ N', N = N' + 1 := ⟨N - 1, by omega⟩
    rw [Mo_set_B164]
    by_cases hp : 1024 ≤ p
    · rw [if_pos (lf_le 1024 1024 p rfl hp (by omega)), nm_of]
      exact wp_some.mpr ⟨rfl, fun j hj => by rw [if_neg (by omega), s2_ne (by decide)], s2_row _ _ _ _, fun c h1 _ => s2_ne h1⟩
    · rw [if_neg (lf_nle 1024 1024 p rfl (by omega) (by decide)), cc_67_27, sa_nI (by omega) (by decide), nm_of, nI_1]
      refine wp_mono (ih N (p + 1) _ (by omega) (by omega) (by omega)) fun a τ hh => ⟨hh.1, fun j hj => ?_, by rw [hh.2.2.1, s2_ne (by decide)], fun c h1 h2 => by rw [hh.2.2.2 c h1 h2, s2_ne h2]⟩
      rw [hh.2.1 j hj, s2_at, if_pos rfl]
      by_cases e1 : p + 1 ≤ j
      · rw [if_pos e1, if_pos (by omega)]
      · rw [if_neg e1]
        by_cases e2 : j = p
        · rw [if_pos e2, if_pos (by omega)]
        · rw [if_neg e2, if_neg (by omega)]
