section
variable {m n T : Nat} {s a b op fm r x d i : Nat → Int32} {lb : Nat → Int32} {el ln jl : Nat → Nat} {lg : Nat → Bool}
theorem c_whole {σ : St} (h : σ 15 5 = nI T) (hT : T < 2 ^ 20) : Builder_wholeSize 28 σ = some (nI (T / 16 * 16 + 16), σ) := by
  unfold Builder_wholeSize
  rw [cc_28_1, h, nI_d16 T (by omega), nI_1, show (16 : Int32) = nI 16 from rfl, nI_mul, show (T / 16 + 1) * 16 = T / 16 * 16 + 16 by omega]
theorem KH82 {n : Nat} (h : n ≤ 1024) : KH 67 82 96 n := by
  refine ⟨⟨by decide, by decide, ?_, by decide, by omega, by decide⟩, by decide, by decide, by decide, ?_, by decide⟩
  · have : al 82 = 6000 := by decide
    omega
  · have : al 96 = 1024 := by decide
    omega
/-- what a build has in hand -/
def Bld (m : Nat) (s a b op fm r x d i : Nat → Int32) (lb : Nat → Int32) (el ln jl : Nat → Nat) (lg : Nat → Bool) : Prop := m ≤ 120 ∧ ItO m s a b op fm r x d i ∧ ELn m s op fm r x d i el ∧ (∀ k, k < m → ln k = lnF s el lg k) ∧ JL m s a lb jl ∧ (∀ k, k < m → jmp s k → lg k = false → smI (dstF (plc s b ln) ln jl k))
theorem bd_pol (B : Bld m s a b op fm r x d i lb el ln jl lg) (hn : n = nx s b ln m / 16 * 16 + 16) (hn2 : n ≤ 1024) : (pol (wrA s a b op fm r x d i (plc s b ln) ln jl lg (flR (nx s b ln m)) m) n).1 = 0 := by
  obtain ⟨b1, b2, b3, b4, b5, b6⟩ := B
  exact pol_crt (crt_built b2 b3 b4 b5 b6 hn hn2 (fun _ _ => rfl))
theorem bd_by (j : Nat) : BY ((wrA s a b op fm r x d i (plc s b ln) ln jl lg (flR (nx s b ln m)) m) j) := by_built (fun j => by_flR _ j) m j
theorem bd_ldo (H : LnO m s ln) (hT : nx s b ln m < 1024) : LdO m s b (plc s b ln) := by
  intro k hk
  obtain ⟨g1, g2, g3, g4, g5, g6⟩ := sg (b := b) H hk
  have mo := nx_m (b := b) H (show k + 1 ≤ m from hk) (Nat.le_refl m)
  refine ⟨by omega, fun z => ?_, fun z => ?_⟩
  · have e : plc s b ln k = (nx s b ln k + 15) / 16 * 16 := by unfold plc lyP; rw [if_neg (by rw [z.1]; decide), if_pos z]
    omega
  · have := g5 z
    have := (H k hk).2.2.2.1 z
    omega
/-- the class writes THE BUILT CODE, looks it over and keeps THE PROGRAM -/
def CT (m n T : Nat) (W s b : Nat → Int32) (pl : Nat → Nat) (σ σ' : St) : Prop :=
  (∀ c, c ≠ 0 → (c < 7 ∨ (12 < c ∧ c < 27) ∨ c = 32 ∨ 45 < c) → c ≠ 52 → c ≠ 58 → σ' c = σ c) ∧ (∀ j, j ≠ 13 → σ' 0 j = σ 0 j) ∧ σ' 0 13 = 1 ∧ (∀ j, j ≠ 6 → σ' 52 j = σ 52 j) ∧ σ' 52 6 = 0 ∧ (∀ j, j ≠ 6 → σ' 58 j = σ 58 j) ∧ σ' 58 6 = 0 ∧
  σ' 7 2 = nI n ∧ Eqn n W (σ' 8) ∧ Eqn n (pol W n).2.2 (σ' 9) ∧ σ' 33 4 = nI m ∧ σ' 33 5 = nI T ∧
  (∀ j, j < 120 → σ' 34 j = σ 16 j ∧ σ' 35 j = σ 17 j ∧ σ' 36 j = σ 18 j ∧ σ' 37 j = σ 19 j ∧ σ' 38 j = σ 20 j ∧ σ' 39 j = σ 21 j ∧ σ' 40 j = σ 22 j ∧ σ' 41 j = σ 23 j ∧ σ' 42 j = σ 24 j ∧ σ' 43 j = σ 25 j) ∧ (∀ j, j < 40 → σ' 44 j = σ 26 j) ∧ LdI s b pl m (σ' 45)
theorem c_tail {σ : St} (B : Bld m s a b op fm r x d i lb el ln jl lg) (hn : n = nx s b ln m / 16 * 16 + 16) (hn2 : n ≤ 1024) (W : CWr m s a b op fm r x d i lb (plc s b ln) ln σ) (h5 : σ 15 5 = nI (nx s b ln m)) :
    ∃ σ', (cv (Builder_writeCode 28 σ) fun σ5 => cl (Policy_findFault 10 σ5) fun _ σ6 => cv (Program_copyFrom 33 15 σ6) fun σ8 => nm (s2 σ8 0 13 1) fun σ9 => cv (House_forgetRuns 0 σ9) fun σ10 => some (σ10 0 14, σ10)) = some (σ 0 14, σ') ∧ CT m n (nx s b ln m) (wrA s a b op fm r x d i (plc s b ln) ln jl lg (flR (nx s b ln m)) m) s b (plc s b ln) σ σ' := by
  have hpol := bd_pol B hn hn2
  obtain ⟨hm, b2, b3, b4, b5, b6⟩ := B
  have hS := it_srt b2
  have H : LnO m s ln := lnF_O hS b3 b4
  obtain ⟨_, c15, e16, e17, e18, e20, e21, e22, e23, e24, e25, e26, h19, h32⟩ := id W
  have hO : LdO m (σ 16) (σ 18) (plc s b ln) := by rw [e16, e18]; exact bd_ldo H (by omega)
  obtain ⟨σ1, a1, a2, a3⟩ := c_lands hm hO c15 h19
  rw [e16, e18] at a3
  have h5' : σ1 15 5 = nI (nx s b ln m) := by rw [a2 15 (by decide)]; exact h5
  obtain ⟨σ2, d1, d2, d3, d4⟩ := c_fill (σ := σ1) (n := n) (T := nx s b ln m) hn2 (by omega)
  have W2 : CWr m s a b op fm r x d i lb (plc s b ln) ln σ2 := cw_c W (fun c x1 x2 => by rw [d2 c (by omega) (by omega), a2 c (by omega)]) (by rw [d2 32 (by decide) (by decide), a2 32 (by decide)])
  obtain ⟨σ3, w1, w2, w3, w4⟩ := c_wr27 (el := el) b5 hS b4 (rm_built hS b3 b4 (by omega)) (σ2 8) m FU 0 σ2 (by omega) (by omega) (FU_big (by omega)) W2 rfl
  have eW : Builder_writeCode 28 σ = some σ3 := by
    unfold Builder_writeCode
    rw [cc_28_1, cc_28_2, a1, cv_of, c_whole h5' (by omega), cl_of, h5', ← hn, d1, cv_of]
    exact w1
  have q8 : Eqn n (σ3 8) (wrA s a b op fm r x d i (plc s b ln) ln jl lg (flR (nx s b ln m)) m) := by
    rw [w4]
    exact wrA_eqn (fun j hj => by rw [d4 j, if_pos hj]) m
  obtain ⟨v, σ4, p0, p1, p2, p3⟩ := pc_find (n := n) (σ := σ3) (row := σ3 8) PH10 (by omega) (by rw [w2 7 (by decide) (by decide) (by decide) (by decide) (by decide)]; exact d3) rfl
  rw [pol_c q8] at p1 p3
  have hP := p3.resolve_left (by rw [p1, hpol]; decide)
  have fr := fr_Policy_findFault (P := fun c => c = 9 ∨ c = 10 ∨ c = 11 ∨ c = 12) (by decide) (by decide) (by decide) (by decide) p0
  have g4 : ∀ c, c ≠ 9 → c ≠ 10 → c ≠ 11 → c ≠ 12 → σ4 c = σ3 c := fun c x1 x2 x3 x4 => fr c (by simp [x1, x2, x3, x4])
  obtain ⟨σ5, k0, k1, k2, k3, k4, k5, k6⟩ := c_copy (σ := σ4)
  have oth : ∀ c, c ≠ 7 → c ≠ 8 → c ≠ 27 → c ≠ 28 → c ≠ 29 → c ≠ 30 → c ≠ 31 → c ≠ 9 → c ≠ 10 → c ≠ 11 → c ≠ 12 → σ4 c = σ c := fun c x1 x2 x3 x4 x5 x6 x7 x8 x9 x10 x11 => by
    rw [g4 c x8 x9 x10 x11, w2 c x2 x4 x5 x6 x7, d2 c x1 x2, a2 c x3]
  have o0 : σ5 0 = σ 0 := by rw [k1 0 (by decide), oth 0 (by decide) (by decide) (by decide) (by decide) (by decide) (by decide) (by decide) (by decide) (by decide) (by decide) (by decide)]
  have o52 : σ5 52 = σ 52 := by rw [k1 52 (by decide), oth 52 (by decide) (by decide) (by decide) (by decide) (by decide) (by decide) (by decide) (by decide) (by decide) (by decide) (by decide)]
  have o58 : σ5 58 = σ 58 := by rw [k1 58 (by decide), oth 58 (by decide) (by decide) (by decide) (by decide) (by decide) (by decide) (by decide) (by decide) (by decide) (by decide) (by decide)]
  refine ⟨s2 (s2 (s2 σ5 0 13 1) 52 6 0) 58 6 0, ?_, ?_⟩
  · have x14 : (s2 (s2 (s2 σ5 0 13 1) 52 6 0) 58 6 0) 0 14 = σ 0 14 := by rw [s2_ne (by decide), s2_ne (by decide), s2_row, upd_ne (by decide), o0]
    rw [eW, cv_of, p0, cl_of, k0, cv_of, nm_of]
    unfold House_forgetRuns
    rw [cc_0_9, cc_0_10, nm_of, nm_of, cv_of, x14]
  · refine ⟨fun c x0 x1 x2 x3 => ?_, fun j hj => ?_, ?_, fun j hj => ?_, ?_, fun j hj => ?_, ?_, ?_, fun j hj => ?_, fun j hj => ?_, ?_, ?_, fun j hj => ?_, fun j hj => ?_, fun j hj => ?_⟩
    · rw [s2_ne x3, s2_ne x2, s2_ne x0, k1 c (by omega), oth c (by omega) (by omega) (by omega) (by omega) (by omega) (by omega) (by omega) (by omega) (by omega) (by omega) (by omega)]
    · rw [s2_ne (by decide), s2_ne (by decide), s2_row, upd_ne hj, o0]
    · rw [s2_ne (by decide), s2_ne (by decide), s2_row, upd_s]
    · rw [s2_ne (by decide), s2_row, upd_ne hj, s2_ne (by decide), o52]
    · rw [s2_ne (by decide), s2_row, upd_s]
    · rw [s2_row, upd_ne hj, s2_ne (by decide), s2_ne (by decide), o58]
    · rw [s2_row, upd_s]
    · rw [s2_ne (by decide), s2_ne (by decide), s2_ne (by decide), k1 7 (by decide), g4 7 (by decide) (by decide) (by decide) (by decide), w2 7 (by decide) (by decide) (by decide) (by decide) (by decide)]; exact d3
    · rw [s2_ne (by decide), s2_ne (by decide), s2_ne (by decide), k1 8 (by decide), g4 8 (by decide) (by decide) (by decide) (by decide), q8 j hj]
    · rw [s2_ne (by decide), s2_ne (by decide), s2_ne (by decide), k1 9 (by decide), hP.2.2 j hj]
    · rw [s2_ne (by decide), s2_ne (by decide), s2_ne (by decide), k2, oth 15 (by decide) (by decide) (by decide) (by decide) (by decide) (by decide) (by decide) (by decide) (by decide) (by decide) (by decide)]; exact c15
    · rw [s2_ne (by decide), s2_ne (by decide), s2_ne (by decide), k3, oth 15 (by decide) (by decide) (by decide) (by decide) (by decide) (by decide) (by decide) (by decide) (by decide) (by decide) (by decide)]; exact h5
    · have ks := k4 j hj
      have al1 : ∀ c, 15 ≤ c → c ≤ 26 → σ4 c = σ c := fun c x1 x2 => oth c (by omega) (by omega) (by omega) (by omega) (by omega) (by omega) (by omega) (by omega) (by omega) (by omega) (by omega)
      rw [al1 16 (by decide) (by decide), al1 17 (by decide) (by decide), al1 18 (by decide) (by decide), al1 19 (by decide) (by decide), al1 20 (by decide) (by decide), al1 21 (by decide) (by decide), al1 22 (by decide) (by decide), al1 23 (by decide) (by decide), al1 24 (by decide) (by decide), al1 25 (by decide) (by decide)] at ks
      have ot : ∀ c, 34 ≤ c → c ≤ 45 → s2 (s2 (s2 σ5 0 13 1) 52 6 0) 58 6 0 c = σ5 c := fun c x1 x2 => by rw [s2_ne (by omega), s2_ne (by omega), s2_ne (by omega)]
      rw [ot 34 (by decide) (by decide), ot 35 (by decide) (by decide), ot 36 (by decide) (by decide), ot 37 (by decide) (by decide), ot 38 (by decide) (by decide), ot 39 (by decide) (by decide), ot 40 (by decide) (by decide), ot 41 (by decide) (by decide), ot 42 (by decide) (by decide), ot 43 (by decide) (by decide)]
      exact ks
    · rw [s2_ne (by decide), s2_ne (by decide), s2_ne (by decide), k5 j hj, oth 26 (by decide) (by decide) (by decide) (by decide) (by decide) (by decide) (by decide) (by decide) (by decide) (by decide) (by decide)]
    · rw [s2_ne (by decide), s2_ne (by decide), s2_ne (by decide), k6 j hj, g4 27 (by decide) (by decide) (by decide) (by decide), w2 27 (by decide) (by decide) (by decide) (by decide) (by decide), d2 27 (by decide) (by decide)]
      exact a3 j hj
/-- the reference does the same -/
def MTl (m n T : Nat) (W : Nat → Int32) (τ τ' : St) : Prop :=
  (∀ c, c ≠ 67 → (c < 69 ∨ c = 81 ∨ (83 < c ∧ c < 96)) → c ≠ 87 → τ' c = τ c) ∧ (∀ c, 71 ≤ c → c ≤ 78 → τ' c = wrk (τ c) 120 (τ c) m) ∧ τ' 79 = wrk (τ 79) 40 (τ 79) 40 ∧ τ' 80 = wrk (τ 80) 40 (τ 80) 40 ∧ τ' 87 0 = 0 ∧ τ' 87 1 = 0 ∧
  Eqn n W (τ' 69) ∧ Eqn n (pol W n).2.2 (τ' 70) ∧ τ' 67 3 = 0 ∧ τ' 67 4 = -1 ∧ τ' 67 6 = nI n ∧ τ' 67 9 = nI m ∧ τ' 67 10 = 1 ∧ τ' 67 55 = nI T ∧
  (∀ j, j ≠ 3 → j ≠ 4 → j ≠ 6 → j ≠ 9 → j ≠ 10 → j ≠ 25 → j ≠ 55 → (j < 43 ∨ 53 < j) → τ' 67 j = τ 67 j)
theorem m_fin {τ : St} (h22 : τ 67 22 = nI T) (hT : T < 2 ^ 20) (hn : n = T / 16 * 16 + 16) : mfin τ = if n ≤ 1024 then Mo_build_B132 FU 67 (nI n) 0 τ else cl (Mo_faults 67 4 (-1) τ) fun _ σ2 => some (σ2 67 3, σ2) := by
  unfold mfin
  rw [h22, rem_16 T (by omega), nI_sub (by omega) (by omega), nI_16, show T - T % 16 + 16 = n by omega, nm_of]
  by_cases c : n ≤ 1024
  · rw [if_pos c, if_pos (show nI n ≤ 1024 from (nI_le' (b := 1024) (by omega) (by decide)).mpr c)]
  · rw [if_neg c, if_neg (show ¬ nI n ≤ 1024 from fun y => c ((nI_le' (b := 1024) (by omega) (by decide)).mp y))]
theorem m_tail {τ : St} (B : Bld m s a b op fm r x d i lb el ln jl lg) (hn : n = nx s b ln m / 16 * 16 + 16) (hn2 : n ≤ 1024) (D : MT0 m s a b op fm r x d i τ) (G : LG m lg τ) (h78 : ∀ j, j < m → τ 78 j = nI (plc s b ln j)) (h79 : ∀ j, j < m → s j = 0 → τ 79 (a j).toNatClampNeg = nI (plc s b ln j)) (h22 : τ 67 22 = nI (nx s b ln m)) :
    ∃ τ', mfin τ = some (0, τ') ∧ MTl m n (nx s b ln m) (wrA s a b op fm r x d i (plc s b ln) ln jl lg (flR (nx s b ln m)) m) τ τ' := by
  have hpol := bd_pol B hn hn2
  obtain ⟨hm, b2, b3, b4, b5, b6⟩ := B
  have hS := it_srt b2
  rw [m_fin h22 (by omega) hn, if_pos hn2]
  obtain ⟨τ1, a1, a2, a3⟩ := m_fill (n := n) (T := nx s b ln m) hn2 (by omega) n FU 0 τ (by omega) (by omega) (FU_big (by omega)) h22
  have D1 : MT0 m s a b op fm r x d i τ1 := mt_c D (fun c x1 x2 => a2 c (by omega)) (by rw [a2 67 (by decide)])
  obtain ⟨τ2, w1, w2, w3, w4⟩ := m_wr172 (el := el) b5 hS b4 (rm_built hS b3 b4 (by omega)) (τ1 82) (nI n) m FU 0 τ1 (by omega) (by omega) (FU_big (by omega)) D1 (by unfold LG; rw [a2 81 (by decide)]; exact G) (by rw [a2 78 (by decide)]; exact h78) (by rw [a2 79 (by decide)]; exact h79) rfl
  have q82 : Eqn n (τ2 82) (wrA s a b op fm r x d i (plc s b ln) ln jl lg (flR (nx s b ln m)) m) := by
    rw [w2]
    exact wrA_eqn (fun j hj => by rw [a3 j, if_pos ⟨by omega, hj⟩]) m
  obtain ⟨v, τ3, k0, k1, k2, k3, k4, k5⟩ := kp_keeps (n := n) (v0 := 67) (q := 82) (t := 96) (σ := τ2) (row := τ2 82) (fun h => KH82 h) (by omega) (fun k hk => by rw [q82 k hk]; exact bd_by k) rfl
  rw [pol_c q82] at k5
  have hK := k5.resolve_left (by rw [hpol]; decide)
  have a82 : al 82 = 6000 := by decide
  obtain ⟨τ4, e3, c1, c2, c3, c4, c5, c6⟩ := bc_all (q := 82) (n := n) (by decide) (by omega) (by decide) (by decide) (by decide) (by decide) (by decide) hn2 τ3
  have t67 : ∀ j, j ≠ 3 → j ≠ 4 → j ≠ 6 → j ≠ 25 → (j < 43 ∨ 53 < j) → τ4 67 j = τ 67 j := fun j x1 x2 x3 x4 x5 => by rw [c5, upd_ne x3, k1.2 j x1 x2 x5, w4 j x4, a2 67 (by decide)]
  have tc : ∀ c, c ≠ 67 → c ≠ 69 → c ≠ 70 → c ≠ 82 → c ≠ 83 → c ≠ 87 → c ≠ 96 → τ4 c = τ c := fun c x1 x2 x3 x4 x5 x6 x7 => by rw [c6 c x1 x2 x3 x6, k1.1 c x1 x7, w3 c x1 x4 x5, a2 c x4]
  have m8 : τ4 67 8 = nI m := by rw [t67 8 (by decide) (by decide) (by decide) (by decide) (by decide)]; exact D.2.1
  obtain ⟨τ5, g0, g1, g2, g3, g4, g5, g6, g7, g8⟩ := m_keep hm m8
  refine ⟨s2 (s2 τ5 67 3 0) 67 4 (-1), ?_, ?_⟩
  · refine Eq.trans a1 ?_
    refine Eq.trans w1 ?_
    unfold Mo_starting Mo_faults
    rw [cc_67_23, cc_67_54, k0, cl_of, cv_of, e3, cv_of, g0, cv_of, nm_of, nm_of, cl_of]
  · have o : ∀ c, c ≠ 67 → s2 (s2 τ5 67 3 0) 67 4 (-1) c = τ5 c := fun c hc => by rw [s2_ne hc, s2_ne hc]
    have o7 : ∀ j, j ≠ 3 → j ≠ 4 → s2 (s2 τ5 67 3 0) 67 4 (-1) 67 j = τ5 67 j := fun j x1 x2 => by rw [s2_row, upd_ne x2, s2_row, upd_ne x1]
    refine ⟨fun c x0 x1 x2 => ?_, fun c x1 x2 => ?_, ?_, ?_, ?_, ?_, fun j hj => ?_, fun j hj => ?_, ?_, ?_, ?_, ?_, ?_, ?_, fun j x1 x2 x3 x4 x5 x6 x7 x8 => ?_⟩
    · rw [o c x0, g1 c x0 (by omega), tc c x0 (by omega) (by omega) (by omega) (by omega) x2 (by omega)]
    · rw [o c (by omega), g2 c x1 x2, tc c (by omega) (by omega) (by omega) (by omega) (by omega) (by omega) (by omega)]
    · rw [o 79 (by decide), g3, tc 79 (by decide) (by decide) (by decide) (by decide) (by decide) (by decide) (by decide)]
    · rw [o 80 (by decide), g4, tc 80 (by decide) (by decide) (by decide) (by decide) (by decide) (by decide) (by decide)]
    · rw [o 87 (by decide), g1 87 (by decide) (by decide)]; exact c3
    · rw [o 87 (by decide), g1 87 (by decide) (by decide)]; exact c4
    · rw [o 69 (by decide), g1 69 (by decide) (by decide), c1 j hj, hK.1, q82 j hj]
    · rw [o 70 (by decide), g1 70 (by decide) (by decide), c2 j hj, hK.2 j hj]
    · rw [s2_row, upd_ne (by decide), s2_row, upd_s]
    · rw [s2_row, upd_s]
    · rw [o7 6 (by decide) (by decide), g8 6 (by decide) (by decide) (by decide), c5, upd_s]
    · rw [o7 9 (by decide) (by decide)]; exact g6
    · rw [o7 10 (by decide) (by decide)]; exact g5
    · rw [o7 55 (by decide) (by decide), g7, t67 22 (by decide) (by decide) (by decide) (by decide) (by decide)]; exact h22
    · rw [o7 j x1 x2, g8 j x4 x5 x7, t67 j x1 x2 x3 x6 x8]
end
