/-! ===== a build: labels, faults, lengths, places ===== -/
def elS (σ : St) (k : Nat) : Nat := (enc (σ 20 k) (σ 21 k) (σ 22 k) (σ 23 k) (σ 24 k) (σ 25 k)).length
/-- some ITEM is at fault -/
def BlF (m : Nat) (σ τ : St) : Prop := ∃ f j σ1 τ1, j < m ∧ 0 < f ∧ f < 4 ∧ Builder_findFault 28 σ = some (nI f, σ1) ∧ σ1 28 0 = nI j ∧ (∀ c, c ≠ 26 → c ≠ 28 → σ1 c = σ c) ∧
  Mo_build 67 τ = (cl (Mo_faults 67 (nI f) (nI j) τ1) fun _ σ4 => some (σ4 67 3, σ4)) ∧ (∀ c, c ≠ 67 → c ≠ 80 → τ1 c = τ c) ∧ (∀ j, j ≠ 0 → τ1 67 j = τ 67 j) ∧ ∀ l, 40 ≤ l → τ1 80 l = τ 80 l
/-- none is -/
def BlO (m : Nat) (σ τ : St) : Prop := ∃ (lb : Nat → Int32) (lg : Nat → Bool) (jl : Nat → Nat) (σ3 τ3 : St), JL m (σ 16) (σ 17) lb jl ∧ (∀ l, l < 40 → FLr 0 m (σ 16) (σ 17) l (lb l)) ∧ Builder_findFault 28 σ = Builder_findFault_B89 28 σ3 ∧ Mo_build 67 τ = mfin τ3 ∧
  (∀ c, c ≠ 15 → c ≠ 19 → c ≠ 26 → ¬ (28 ≤ c ∧ c ≤ 32) → σ3 c = σ c) ∧ (∀ j, j ≠ 5 → σ3 15 j = σ 15 j) ∧ σ3 28 0 = -1 ∧ σ3 26 = lb ∧
  (∀ c, c ≠ 67 → ¬ (78 ≤ c ∧ c ≤ 81) → c ≠ 83 → c ≠ 96 → τ3 c = τ c) ∧ (∀ j, j ≠ 0 → j ≠ 22 → j ≠ 25 → τ3 67 j = τ 67 j) ∧ (∀ j, 120 ≤ j → τ3 78 j = τ 78 j) ∧ (∀ l, 40 ≤ l → τ3 79 l = τ 79 l) ∧ (∀ l, 40 ≤ l → τ3 80 l = τ 80 l) ∧ (∀ l, l < 40 → τ3 80 l = lb l) ∧
  LE1 m (σ 16) (σ 17) (σ 18) (elS σ) jl lg σ3 τ3
section
variable {m : Nat} {σ τ : St}
theorem bl_it (D : MT0 m (σ 16) (σ 17) (σ 18) (σ 20) (σ 21) (σ 22) (σ 23) (σ 24) (σ 25) τ) : ItO m (σ 16) (σ 17) (σ 18) (σ 20) (σ 21) (σ 22) (σ 23) (σ 24) (σ 25) := fun k hk => by
  rcases (D.2.2 k hk).2 with ⟨z, P, _⟩ | ⟨z, f, _⟩
  · exact Or.inl ⟨z, P⟩
  · exact Or.inr ⟨z, f⟩
theorem bl_head (hm : m ≤ 120) (c15 : σ 15 4 = nI m) (D : MT0 m (σ 16) (σ 17) (σ 18) (σ 20) (σ 21) (σ 22) (σ 23) (σ 24) (σ 25) τ) : BlF m σ τ ∨ BlO m σ τ := by
  have hI := bl_it D
  have hS := it_srt hI
  have hK : ∀ k, k < m → ¬ σ 16 k = 9 → FOK (σ 16 k) (σ 17 k) (σ 18 k) := fun k hk z => mt_fok D hk z
  have hL : LbO m (σ 16) (σ 17) := fun k hk z => fok_l (hK k hk (by rw [z]; decide)) (Or.inl z)
  obtain ⟨σ1, e1, f1, F1⟩ := c_labels hL hm c15
  have D0 : MT0 m (σ 16) (σ 17) (σ 18) (σ 20) (σ 21) (σ 22) (σ 23) (σ 24) (σ 25) (s2 τ 67 0 0) := mt_c D (fun c x1 x2 => s2_ne (by omega)) (by rw [s2_row, upd_ne (by decide)])
  obtain ⟨τ1, e2, f2, F2, f3⟩ := m_fl2 40 FU 0 (s2 τ 67 0 0) (by omega) (by omega) (FU_big (by omega)) D0 (fun l hl => by omega)
  have D1 : MT0 m (σ 16) (σ 17) (σ 18) (σ 20) (σ 21) (σ 22) (σ 23) (σ 24) (σ 25) τ1 := mt_c D0 (fun c x1 x2 => f2 c (by omega)) (by rw [f2 67 (by decide)])
  have l80 : ∀ l, l < 40 → τ1 80 l = σ1 26 l := fun l hl => fl_un (F2 l hl) (F1 l hl)
  have c1 := c_ff9 hm m FU 0 σ1 (by omega) (by omega) (FU_big (by omega)) (by rw [f1 15 (by decide)]; exact c15) (by rw [f1 16 (by decide), f1 17 (by decide), f1 18 (by decide)]; exact hK) (by rw [f1 16 (by decide), f1 17 (by decide)]; exact F1) (fun j hj => by omega)
  rw [f1 16 (by decide), f1 17 (by decide), f1 18 (by decide)] at c1
  have m1 := m_fw F1 m FU 0 τ1 (by omega) (by omega) (FU_big (by omega)) D1 l80 (fun j hj => by omega)
  have eH : Builder_findFault 28 σ = Builder_findFault_B9 FU 28 (nI 0) σ1 := by
    unfold Builder_findFault; rw [cc_28_1, e1, cv_of]; rfl
  have eM : Mo_build 67 τ = (cl (Mo_firstWrong_B61 FU 67 (nI 0) τ1) fun x3 σ2 => if x3 ≤ 0 then Mo_build_B36 FU 67 0 σ2 else cl (Mo_faults 67 (x3 / 1000) (rem x3 1000) σ2) fun _ σ4 => some (σ4 67 3, σ4)) := by
    unfold Mo_build Mo_firstWrong
    rw [nm_of, show Mo_firstWrong_B2 FU 67 0 (s2 τ 67 0 0) = Mo_firstWrong_B61 FU 67 (nI 0) τ1 from e2]
  rcases c1 with ⟨j, hj, j1, j2, j3⟩ | ⟨z1, j3⟩
  · rcases m1 with ⟨j', f, hj', k1, k2, k3, k4, k5⟩ | ⟨z2, _⟩
    · have ej : j = j' := by
        rcases Nat.lt_trichotomy j j' with y | y | y
        · exact absurd (k1 j y) j2
        · exact y
        · have t := j1 j' y
          rw [k2] at t
          exact absurd ((nI_inj (b := 0) (by omega) (by decide)).mp t) (by omega)
      subst ej
      refine Or.inl ⟨f, j, s2 σ1 28 0 (nI j), τ1, hj, k3, k4, by rw [eH, j3, k2], by rw [s2_row, upd_s], fun c x1 x2 => by rw [s2_ne x2, f1 c x1], ?_, fun c x1 x2 => by rw [f2 c x2, s2_ne x1], fun j hj => by rw [f2 67 (by decide), s2_row, upd_ne hj], fun l hl => by rw [f3 l hl, s2_ne (by decide)]⟩
      have dv : nI (1000 * f + j) / 1000 = nI f := by
        rw [show (1000 : Int32) = nI 1000 from rfl, nI_div _ _ (by omega) (by decide), show (1000 * f + j) / 1000 = f by omega]
      have rm : rem (nI (1000 * f + j)) 1000 = nI j := by rw [rem_k _ (by omega), show (1000 * f + j) % 1000 = j by omega]
      rw [eM, k5, cl_of, if_neg (show ¬ nI (1000 * f + j) ≤ 0 from fun y => absurd ((nI_le' (a := 1000 * f + j) (b := 0) (by omega) (by decide)).mp y) (by omega)), dv, rm]
    · exact absurd (z2 j hj) j2
  · rcases m1 with ⟨j', f, hj', k1, k2, k3, k4, k5⟩ | ⟨z2, k5⟩
    · have t := z1 j' hj'
      rw [k2] at t
      exact absurd ((nI_inj (b := 0) (by omega) (by decide)).mp t) (by omega)
    · have g1 : ∀ c, c ≠ 26 → c ≠ 28 → (s2 σ1 28 0 (-1)) c = σ c := fun c x1 x2 => by rw [s2_ne x2, f1 c x1]
      have E : ELn m (σ 16) (σ 20) (σ 21) (σ 22) (σ 23) (σ 24) (σ 25) (elS σ) := fun k _ _ => rfl
      obtain ⟨σ2, e3, f4, f5⟩ := c_meas hm E hS m FU 0 (s2 σ1 28 0 (-1)) (by omega) (by omega) (FU_big (by omega)) (by rw [g1 15 (by decide) (by decide)]; exact c15) (g1 16 (by decide) (by decide)) (g1 20 (by decide) (by decide)) (g1 21 (by decide) (by decide)) (g1 22 (by decide) (by decide)) (g1 23 (by decide) (by decide)) (g1 24 (by decide) (by decide)) (g1 25 (by decide) (by decide))
      obtain ⟨τ2, e4, f6, f7⟩ := m_36 120 FU 0 τ1 (by omega) (by omega) (FU_big (by omega)) (fun j hj => by omega)
      have D2 : MT0 m (σ 16) (σ 17) (σ 18) (σ 20) (σ 21) (σ 22) (σ 23) (σ 24) (σ 25) τ2 := mt_c D1 (fun c x1 x2 => f6 c (by omega)) (by rw [f6 67 (by decide)])
      have G2 : LG m (fun _ => false) τ2 := fun k hk => by rw [f7 k (by omega)]; rfl
      have lbk : ∀ k, k < m → (σ 16 k = 1 ∨ σ 16 k = 2 ∨ σ 16 k = 3 ∨ σ 16 k = 8) → ∃ l j, l < 40 ∧ j < m ∧ σ 17 k = nI l ∧ σ1 26 l = nI j ∧ σ 16 j = 0 ∧ σ 17 j = nI l := by
        intro k hk h
        obtain ⟨l, hl, ea⟩ := fok_l (hK k hk (by rcases h with h | h | h | h <;> (rw [h]; decide))) (Or.inr h)
        have nz : ¬ σ1 26 l = -1 := by
          intro y
          have t := z1 k hk
          unfold flt at t
          rw [ea, nI_clamp (by omega), y] at t
          rcases h with h | h | h | h <;> simp [h] at t
        rcases F1 l hl with ⟨y, _⟩ | ⟨j, _, q2, q3, q4, q5, _⟩
        · exact absurd y nz
        · exact ⟨l, j, hl, q2, ea, q3, q4, q5⟩
      have J : JL m (σ 16) (σ 17) (σ1 26) (fun k => (σ1 26 (σ 17 k).toNatClampNeg).toNatClampNeg) := by
        intro k hk h
        obtain ⟨l, j, hl, hj, ea, eb, q4, q5⟩ := lbk k hk h
        have ej : (σ1 26 (σ 17 k).toNatClampNeg).toNatClampNeg = j := by rw [ea, nI_clamp (by omega), eb, nI_clamp (by omega)]
        refine ⟨l, hl, ea, ?_, ?_, ?_, ?_⟩
        · show σ1 26 l = nI (σ1 26 (σ 17 k).toNatClampNeg).toNatClampNeg
          rw [ej]; exact eb
        · show (σ1 26 (σ 17 k).toNatClampNeg).toNatClampNeg < m
          rw [ej]; exact hj
        · show σ 16 (σ1 26 (σ 17 k).toNatClampNeg).toNatClampNeg = 0
          rw [ej]; exact q4
        · show σ 17 (σ1 26 (σ 17 k).toNatClampNeg).toNatClampNeg = nI l
          rw [ej]; exact q5
      have U : Unq m (σ 16) (σ 17) := by
        intro j k hj hk zj zk e
        have u : ∀ k, k < m → σ 16 k = 0 → σ1 26 (σ 17 k).toNatClampNeg = nI k := by
          intro k hk z
          have t := z1 k hk
          unfold flt at t
          rw [if_pos z] at t
          by_cases y : σ1 26 (σ 17 k).toNatClampNeg = nI k
          · exact y
          · rw [if_neg y] at t; exact absurd t (by decide)
        have u1 := u j hj zj
        rw [e, u k hk zk] at u1
        exact ((nI_inj (by omega) (by omega)).mp u1).symm
      obtain ⟨lg, σ3, τ3, e5, e6, ⟨p1, p2, p3⟩, ⟨q1, q2, q3, q4⟩, L⟩ := lg_loop hm E J U hL m 0 FU FU (fun _ => false) σ2 τ2 (cnt_m _ _ m) (by omega) (FU_big (by omega)) (FU_big (by omega)) (by rw [f4 15 (by decide) (by decide) (by decide) (by decide), g1 15 (by decide) (by decide)]; exact c15) (by rw [f4 16 (by decide) (by decide) (by decide) (by decide), g1 16 (by decide) (by decide)]) (by rw [f4 17 (by decide) (by decide) (by decide) (by decide), g1 17 (by decide) (by decide)]) (by rw [f4 18 (by decide) (by decide) (by decide) (by decide), g1 18 (by decide) (by decide)]) (by rw [f4 26 (by decide) (by decide) (by decide) (by decide), s2_ne (by decide)]) (fun j hj => by rw [f5 j, if_pos ⟨by omega, hj⟩]) D2 G2
      refine Or.inr ⟨σ1 26, lg, _, σ3, τ3, J, F1, ?_, ?_, ?_, ?_, ?_, ?_, ?_, ?_, ?_, ?_, ?_, ?_, L⟩
      · rw [eH, j3, show Builder_measure 28 (s2 σ1 28 0 (-1)) = some σ2 from e3, cv_of]
        exact e5
      · rw [eM, k5, cl_of, if_pos (by decide)]
        exact e4.trans e6
      · intro c x1 x2 x3 x4
        rw [p1 c x1 x2 (by omega) (by omega), f4 c (by omega) (by omega) (by omega) (by omega), g1 c x3 (by omega)]
      · intro j hj
        rw [p2 j hj, f4 15 (by decide) (by decide) (by decide) (by decide), g1 15 (by decide) (by decide)]
      · rw [p3 0 (by decide), f4 28 (by decide) (by decide) (by decide) (by decide), s2_row, upd_s]
      · rw [p1 26 (by decide) (by decide) (by decide) (by decide), f4 26 (by decide) (by decide) (by decide) (by decide), s2_ne (by decide)]
      · intro c x1 x2 x3 x4
        rw [q1 c x1 (by omega) (by omega) (by omega) x3 x4, f6 c (by omega), f2 c (by omega), s2_ne x1]
      · intro j x1 x2 x3
        rw [q2 j x2 x3, f6 67 (by decide), f2 67 (by decide), s2_row, upd_ne x1]
      · intro j hj
        rw [q3 j (by omega), f6 78 (by decide), f2 78 (by decide), s2_ne (by decide)]
      · intro l hl
        rw [q4 l hl, f6 79 (by decide), f2 79 (by decide), s2_ne (by decide)]
      · intro l hl
        rw [q1 80 (by decide) (by decide) (by decide) (by decide) (by decide) (by decide), f6 80 (by decide), f3 l hl, s2_ne (by decide)]
      · intro l hl
        rw [q1 80 (by decide) (by decide) (by decide) (by decide) (by decide) (by decide), f6 80 (by decide), l80 l hl]
end
