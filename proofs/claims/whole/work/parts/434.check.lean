theorem cp_full {β : Type} {σ : St} {c c' : Nat} (N : Nat) (k : Int32) (hk : nI N = k) (hN : N < 2 ^ 31) {f : St → Option β} : cp σ c N 0 c' N 0 k f = f (va_up σ c' (fun j => if j < N then σ c j else σ c' j)) := by
  subst hk
  unfold cp
  rw [nI_clamp hN, show (0 : Int32).toNatClampNeg = 0 from rfl, if_neg]
  · congr 2
    funext j
    unfold va_cpy
    by_cases h : j < N
    · simp [h]
    · simp [h]
  · rintro (h | h | h | h | h)
    · exact absurd h (by decide)
    · exact absurd h (by decide)
    · exact absurd h (nI_pos hN)
    · omega
    · omega
theorem sa_L {β : Type} {σ : St} {c n : Nat} (k : Int32) (m : Nat) (hk : nI m = k) {v : Int32} {f : St → Option β} (h : m < n) (hn : n < 2 ^ 31) : sa σ c n k v f = f (s2 σ c m v) := by subst hk; exact sa_nI h hn
theorem ld_L {β : Type} {σ : St} {c n : Nat} (k : Int32) (m : Nat) (hk : nI m = k) {f : Int32 → Option β} (h : m < n) (hn : n < 2 ^ 31) : ld σ c n k f = f (σ c m) := by subst hk; exact ld_nI h hn
theorem FU_big {k : Nat} (h : k ≤ 10000) : k < FU := by have : FU = 20000 := rfl; omega
section
variable {q n : Nat}
def BcP (q n p : Nat) (σ τ : St) : Prop := (∀ j, j < n → τ 69 j = if p ≤ j then σ q j else σ 69 j) ∧ (∀ j, j < n → τ 70 j = if p ≤ j then σ 96 j else σ 70 j) ∧ τ 87 0 = 0 ∧ τ 87 1 = 0 ∧ ∀ c, c ≠ 69 → c ≠ 70 → c ≠ 87 → τ c = σ c
theorem bc_loop (hq : kd q = 900) (ha : n ≤ al q) (hb : al q < 2 ^ 31) (h1 : q ≠ 69) (h2 : q ≠ 70) (h3 : q ≠ 87) (hn : n ≤ 1024) : ∀ (k N p : Nat) (σ : St), n ≤ p + k → p ≤ n → k < N → wv (Mo_becomes_B7 N 67 q (nI n) (nI p) σ) (BcP q n p σ) := by
  have fin : ∀ (σ : St) (p : Nat), n ≤ p → wv (sa σ (ch 67 30) 2 0 0 fun σ1 => sa σ1 (ch 67 30) 2 1 0 fun σ2 => some σ2) (BcP q n p σ) := by
    intro σ p hp
    rw [cc_67_30, sa_L 0 0 rfl (by decide) (by decide), sa_L 1 1 rfl (by decide) (by decide)]
    refine wv_some.mpr ⟨fun j hj => ?_, fun j hj => ?_, ?_, ?_, fun c c1 c2 c3 => ?_⟩
    · rw [if_neg (by omega), s2_ne (by decide), s2_ne (by decide)]
    · rw [if_neg (by omega), s2_ne (by decide), s2_ne (by decide)]
    · simp only [s2_ne, s2_at, up_ne, up_at, ne_eq, not_false_eq_true, not_true_eq_false, if_true, if_false, Nat.reduceEqDiff, Nat.reduceLT, true_or, or_true, reduceIte]
    · simp only [s2_ne, s2_at, up_ne, up_at, ne_eq, not_false_eq_true, not_true_eq_false, if_true, if_false, Nat.reduceEqDiff, Nat.reduceLT, true_or, or_true, reduceIte]
    · rw [s2_ne c3, s2_ne c3]
  intro k
  induction k with
  | zero =>
    intro N p σ g1 g2 g3
    obtain ⟨N, rfl⟩ : ∃ N', N = N' + 1 := ⟨N - 1, by omega⟩
    rw [Mo_becomes_B7, if_pos ((nI_le' (by omega) (by omega)).mpr (by omega))]
    exact fin σ p (by omega)
  | succ k ih =>
    intro N p σ g1 g2 g3
    obtain ⟨N, rfl⟩ : ∃ N', N = N' + 1 := ⟨N - 1, by omega⟩
    rw [Mo_becomes_B7]
    by_cases hp : n ≤ p
    · rw [if_pos ((nI_le' (by omega) (by omega)).mpr hp)]
      exact fin σ p hp
    · rw [if_neg (fun h => hp ((nI_le' (by omega) (by omega)).mp h)), lr_nI hq (by omega) hb, cc_67_5, sa_nI (by omega) (by decide), cc_67_54, ld_nI (by omega) (by decide), cc_67_7, sa_nI (by omega) (by decide), nm_of, nI_1]
      refine wv_mono (ih N (p + 1) _ (by omega) (by omega) (by omega)) fun τ hh => ?_
      obtain ⟨a1, a2, a3, a4, a5⟩ := hh
      refine ⟨fun j hj => ?_, fun j hj => ?_, a3, a4, fun c c1 c2 c3 => ?_⟩
      · rw [a1 j hj, s2_ne h2, s2_ne h1, s2_ne (by decide), s2_at, if_pos rfl]
        by_cases e1 : p + 1 ≤ j
        · rw [if_pos e1, if_pos (by omega)]
        · rw [if_neg e1]
          by_cases e2 : j = p
          · rw [if_pos e2, if_pos (by omega), e2]
          · rw [if_neg e2, if_neg (by omega)]
      · rw [a2 j hj, s2_ne (by decide), s2_ne (by decide), s2_at, if_pos rfl, s2_ne (by decide)]
        by_cases e1 : p + 1 ≤ j
        · rw [if_pos e1, if_pos (by omega)]
        · rw [if_neg e1]
          by_cases e2 : j = p
          · rw [if_pos e2, if_pos (by omega), e2]
          · rw [if_neg e2, if_neg (by omega)]
      · rw [a5 c c1 c2 c3, s2_ne c2, s2_ne c1]
theorem bc_all (hq : kd q = 900) (ha : n ≤ al q) (hb : al q < 2 ^ 31) (h1 : q ≠ 69) (h2 : q ≠ 70) (h3 : q ≠ 87) (h4 : q ≠ 67) (hn : n ≤ 1024) (σ : St) : wv (Mo_becomes 67 q (nI n) σ) (fun τ => (∀ j, j < n → τ 69 j = σ q j) ∧ (∀ j, j < n → τ 70 j = σ 96 j) ∧ τ 87 0 = 0 ∧ τ 87 1 = 0 ∧ τ 67 = upd (σ 67) 6 (nI n) ∧ ∀ c, c ≠ 67 → c ≠ 69 → c ≠ 70 → c ≠ 87 → τ c = σ c) := by
  unfold Mo_becomes
  rw [nm_of]
  refine wv_mono (bc_loop hq ha hb h1 h2 h3 hn n FU 0 _ (by omega) (by omega) (FU_big (by omega))) fun τ hh => ?_
  obtain ⟨a1, a2, a3, a4, a5⟩ := hh
  refine ⟨fun j hj => ?_, fun j hj => ?_, a3, a4, ?_, fun c c0 c1 c2 c3 => ?_⟩
  · rw [a1 j hj, if_pos (by omega), s2_ne h4]
  · rw [a2 j hj, if_pos (by omega), s2_ne (by decide)]
  · rw [a5 67 (by decide) (by decide) (by decide), s2_row]
  · rw [a5 c c1 c2 c3, s2_ne c0]
end
theorem PH4 : PH 4 1 5 6 2 3 := by unfold PH RH; decide
theorem PH10 : PH 10 7 11 12 8 9 := by unfold PH RH; decide
theorem KH68 {n : Nat} (h : n ≤ 1024) : KH 67 68 96 n := by
  refine ⟨⟨by decide, by decide, ?_, by decide, by omega, by decide⟩, by decide, by decide, by decide, ?_, by decide⟩
  · have : al 68 = 1100 := by decide
    omega
  · have : al 96 = 1024 := by decide
    omega
theorem ts_check : TS (House_check 0) (Mo_check 67) := by
  intro σ τ h
  obtain ⟨⟨n, t1, t2, t3, t4, t5⟩, hr⟩ := id h
  obtain ⟨a, σ1, e1, p1, p2, p3⟩ := pc_find PH4 t1 t2 rfl
  have f1 := fr_Policy_findFault (P := fun c => c = 3 ∨ c = 4 ∨ c = 5 ∨ c = 6) (by decide) (by decide) (by decide) (by decide) e1
  have g1 : ∀ c, c ≠ 3 → c ≠ 4 → c ≠ 5 → c ≠ 6 → σ1 c = σ c := fun c h3 h4 h5 h6 => f1 c (by simp [h3, h4, h5, h6])
  have hx : (s2 τ 67 0 0) 67 2 = nI n := by rw [s2_row, upd_at, if_neg (by decide), t3]
  have hB' : ∀ k, k < n → BY (τ 68 k) := fun k hk => by rw [← t5 k hk]; exact t4 k hk
  obtain ⟨b, τ1, e2, k1, k2, k3, k4, k5⟩ := kp_keeps (σ := s2 (s2 τ 67 0 0) 67 2 0) (row := τ 68) (fun h => KH68 h) t1 hB' (by rw [s2_ne (by decide), s2_ne (by decide)])
  have g2 : ∀ c, c ≠ 67 → c ≠ 96 → τ1 c = τ c := fun c h1 h2 => by rw [k1.1 c h1 h2, s2_ne h1, s2_ne h1]
  have g3 : ∀ k, k ≠ 0 → k ≠ 2 → k ≠ 3 → k ≠ 4 → (k < 43 ∨ 53 < k) → τ1 67 k = τ 67 k := fun k h0 h2 h3 h4 h5 => by rw [k1.2 k h3 h4 h5, s2_row, upd_at, if_neg h2, s2_row, upd_at, if_neg h0]
  have g67 : τ1 67 2 = 0 := by rw [k1.2 2 (by decide) (by decide) (by decide), s2_row, upd_at, if_pos rfl]
  rw [← pol_c t5] at k2 k3 k4 k5
  unfold House_check Mo_check
  rw [nm_of, nm_of, nm_of, hx, cc_0_0, cc_0_1, cc_67_1, cc_67_54, e1, e2, cl_of, cl_of]
  simp only [nm_of, s2_ne, s2_at, up_ne, up_at, ne_eq, not_false_eq_true, not_true_eq_false, if_true, if_false, Nat.reduceEqDiff, Nat.reduceLT, true_or, or_true, reduceIte]
  generalize hpo : pol (σ 2) n = o at *
  by_cases c0 : o.1 = 0
  · have ha : a = 0 := p1.trans c0
    have hb : b = 1 := by rw [k2, if_pos c0]
    subst ha
    subst hb
    obtain ⟨cod, pm⟩ := pol_ok t4 (by rw [hpo]; exact c0)
    rw [hpo] at cod pm
    have hI := p3.resolve_left (by decide)
    have hK := k5.resolve_left (by rw [c0]; decide)
    obtain ⟨c16, c1024, cm, cS, cT⟩ := id cod
    have a68 : al 68 = 1100 := by decide
    obtain ⟨τ2, e3, b1, b2, b3, b4, b5, b6⟩ := bc_all (q := 68) (n := n) (by decide) (by omega) (by decide) (by decide) (by decide) (by decide) (by decide) c1024 τ1
    rw [if_neg (not_not_intro rfl), if_pos (by decide), e3, cv_of]
    unfold Strip_copyFrom House_forgetRuns
    rw [cc_0_2, cc_7_0, cc_7_1, cc_1_0, cc_1_1, cp_full 1100 1100 rfl (by decide), cp_full 1100 1100 rfl (by decide)]
    simp only [nm_of, cv_of, cc_0_9, cc_0_10]
    refine ⟨_, _, s2 τ2 67 10 0, rfl, by simp only [s2_ne, s2_at, up_ne, up_at, ne_eq, not_false_eq_true, not_true_eq_false, if_true, if_false, Nat.reduceEqDiff, Nat.reduceLT, true_or, or_true, reduceIte], ?_⟩
    have u1 : ∀ k, k ≠ 6 → τ2 67 k = τ1 67 k := fun k hk => by rw [b5, upd_at, if_neg hk]
    unfold R at h ⊢
    simp only [s2_ne, s2_at, up_ne, up_at, ne_eq, not_false_eq_true, not_true_eq_false, if_true, if_false, Nat.reduceEqDiff, Nat.reduceLT, true_or, or_true, reduceIte, up_ne, up_row, g1, b6, g2, u1, g3, g67]
    refine ⟨⟨0, by omega, rfl, rfl, fun j hj => absurd hj (by omega), fun j hj => absurd hj (by omega)⟩, ⟨by rw [k3, c0], by rw [p2, k4]⟩, ⟨n, c1024, t2, ?_, ?_, ?_, ?_, Or.inr ?_⟩, h.2.2.2.1, ⟨rfl, Or.inl rfl, fun h => absurd h (by decide)⟩, h.2.2.2.2.2.1, ⟨⟨?_, Or.inl ?_, fun h => absurd h ?_⟩, ?_, ?_⟩, ⟨⟨?_, Or.inl ?_, fun h => absurd h ?_⟩, fun h => absurd h ?_, ?_⟩⟩
    · rw [b5, upd_at, if_pos rfl]
    · intro j hj; dsimp only; rw [if_pos (show j < 1100 by omega)]; exact t4 j hj
    · intro j hj; dsimp only; rw [if_pos (show j < 1100 by omega), b1 j hj, g2 68 (by decide) (by decide)]; exact t5 j hj
    · intro j hj; dsimp only; rw [if_pos (show j < 1100 by omega), b2 j hj, hI.2.2 j hj, hK.2 j hj]
    · exact Cod_c (fun j hj => by rw [if_pos (show j < 1100 by omega)]) (fun j hj => by rw [if_pos (show j < 1100 by omega), hI.2.2 j hj]) cod
    · rw [s2_at, b3]; simp
    · rw [s2_at]; simp
    · rw [s2_at]; simp
    · exact h.2.2.2.2.2.2.1.2.1
    · exact h.2.2.2.2.2.2.1.2.2
    · rw [s2_at, b4]; simp
    · rw [s2_at]; simp
    · rw [s2_at]; simp
    · decide
    · exact h.2.2.2.2.2.2.2.2.2
  · have ha : ¬ a = 0 := fun k => c0 (p1.symm.trans k)
    have hb : b = 0 := by rw [k2, if_neg c0]
    subst hb
    rw [if_pos ha, if_neg (by decide)]
    refine ⟨_, _, _, rfl, by rw [k3, ← p1], ?_⟩
    unfold R at h ⊢
    simp only [s2_ne, s2_at, up_ne, up_at, ne_eq, not_false_eq_true, not_true_eq_false, if_true, if_false, Nat.reduceEqDiff, Nat.reduceLT, true_or, or_true, reduceIte, g1, g2, g3, g67]
    exact ⟨⟨0, by omega, rfl, rfl, fun j hj => absurd hj (by omega), fun j hj => absurd hj (by omega)⟩, ⟨by rw [p1, k3], by rw [p2, k4]⟩, h.2.2⟩
