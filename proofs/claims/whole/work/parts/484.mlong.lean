section
variable {m : Nat} {s a b op fm r x d i lb : Nat → Int32} {el pl jl : Nat → Nat} {lg : Nat → Bool}
def b2i (v : Bool) : Int32 := if v then 1 else 0
theorem lgN_t {dst : Nat → Int32} {k : Nat} : lgN s dst lg k = true ↔ (lg k = true ∨ chg s dst lg k) := by
  unfold lgN chg
  rw [Bool.or_eq_true, decide_eq_true_iff]
  constructor
  · rintro (h | ⟨h1, h2⟩)
    · exact Or.inl h
    · by_cases h : lg k = true
      · exact Or.inl h
      · exact Or.inr ⟨h1, by cases g : lg k; rfl; exact absurd g h, h2⟩
  · rintro (h | ⟨h1, _, h2⟩)
    · exact Or.inl h
    · exact Or.inr ⟨h1, h2⟩
theorem m_far' {τ : St} (D : MT0 m s a b op fm r x d i τ) (E : ELn m s op fm r x d i el) (G : LG m lg τ) (J : JL m s a lb jl) (h78 : ∀ j, j < m → τ 78 j = nI (pl j)) (h79 : ∀ j, j < m → s j = 0 → τ 79 (a j).toNatClampNeg = nI (pl j)) {k : Nat} (hk : k < m) (h : jmp s k) : Mo_far 67 (nI k) τ = some (dstF pl (lnF s el lg) jl k, τ) := by
  have hm := D.1
  obtain ⟨l, hl, e1, e2, e3, e4, e5⟩ := J k hk (by rcases h with y | y; exact Or.inl y; exact Or.inr (Or.inl y))
  have n9 : ¬ s k = 9 ∧ ¬ s k = 7 := by rcases h with e | e <;> rw [e] <;> decide
  have hp := h79 _ e3 e4
  rw [e5, nI_clamp (by omega)] at hp
  have hsz : Mo_sizeOf 67 (nI k) τ = some (nI (lnF s el lg k), τ) := by
    have l81 : ∀ (f : Int32 → Option (Int32 × St)), ld τ 81 120 (nI k) f = f (if lg k then 1 else 0) := fun f => by rw [ld_nI (by omega) (by decide), G k hk]
    unfold Mo_sizeOf lnF
    rw [cc_67_11, cc_67_21, mt_s D hk, l81, l81]
    rcases h with e | e
    · rw [if_pos e, if_neg (show ¬ s k = 0 by rw [e]; decide), if_pos e]
      cases lg k <;> rfl
    · rw [if_neg (show ¬ s k = 1 by rw [e]; decide), if_pos e, if_neg (show ¬ s k = 0 by rw [e]; decide), if_neg (show ¬ s k = 1 by rw [e]; decide), if_pos e]
      cases lg k <;> rfl
  unfold Mo_far dstF
  rw [cc_67_14, cc_67_18, cc_67_19, mt_a D hk n9.1 n9.2, e1, ld_nI (by omega) (by decide), ld_nI (by omega) (by decide), hp, h78 k hk, hsz, cl_of]
  rw [Int32.sub_sub]
theorem m_len72 (hm : m ≤ 120) {dst : Nat → Int32} : ∀ (e N k : Nat) (acc : Int32) (τ : St), m ≤ k + e → k ≤ m → e < N → (acc = 0 ∨ acc = 1) → τ 67 8 = nI m → (∀ j, j < m → τ 81 j = if j < k then (if lgN s dst lg j then 1 else 0) else (if lg j then 1 else 0)) → (∀ j, j < m → (chg s dst lg j → τ 96 j = 1) ∧ (¬ chg s dst lg j → τ 96 j = 0)) → wp (Mo_lengthens_B72 N 67 acc (nI k) τ) (fun v τ' => v = acc ∧ (∀ c, c ≠ 81 → τ' c = τ c) ∧ ∀ j, j < m → τ' 81 j = if lgN s dst lg j then 1 else 0) := by
  have fin : ∀ (k : Nat) (acc : Int32) (τ : St), m ≤ k → (acc = 0 ∨ acc = 1) → (∀ j, j < m → τ 81 j = if j < k then (if lgN s dst lg j then 1 else 0) else (if lg j then 1 else 0)) → wp (zb acc <| some (acc, τ)) (fun v τ' => v = acc ∧ (∀ c, c ≠ 81 → τ' c = τ c) ∧ ∀ j, j < m → τ' 81 j = if lgN s dst lg j then 1 else 0) := by
    intro k acc τ hk ha h
    refine ⟨acc, τ, ?_, rfl, fun _ _ => rfl, fun j hj => by rw [h j hj, if_pos (by omega)]⟩
    rcases ha with rfl | rfl
    · rw [zb_0]
    · rw [zb_1]
  intro e
  induction e with
  | zero =>
    intro N k acc τ h1 h2 h3 ha hc h81 h96
    obtain ⟨N, rfl⟩ : ∃ n, N = n + 1 := ⟨N - 1, by omega⟩
    rw [Mo_lengthens_B72, hc, if_pos ((nI_le' (by omega) (by omega)).mpr (by omega))]
    exact fin k acc τ (by omega) ha h81
  | succ e ih =>
    intro N k acc τ h1 h2 h3 ha hc h81 h96
    obtain ⟨N, rfl⟩ : ∃ n, N = n + 1 := ⟨N - 1, by omega⟩
    rw [Mo_lengthens_B72, hc]
    by_cases c : k < m
    · rw [if_neg (fun x => absurd ((nI_le' (by omega) (by omega)).mp x) (by omega)), cc_67_21, cc_67_54, ld_nI (by omega) (by decide), ld_nI (by omega) (by decide), sa_nI (by omega) (by decide), sa_nI (by omega) (by decide)]
      simp only [nm_of, nI_1]
      have e81 : τ 81 k = if lg k then 1 else 0 := by rw [h81 k c]; simp
      have go : ∀ v : Int32, v = (if lgN s dst lg k then 1 else 0) → wp (Mo_lengthens_B72 N 67 acc (nI (k + 1)) (s2 τ 81 k v)) (fun v τ' => v = acc ∧ (∀ c, c ≠ 81 → τ' c = τ c) ∧ ∀ j, j < m → τ' 81 j = if lgN s dst lg j then 1 else 0) := by
        intro v hv
        obtain ⟨w, τ', e1, e2, e3, e4⟩ := ih N (k + 1) acc (s2 τ 81 k v) (by omega) (by omega) (by omega) ha (by rw [s2_ne (by decide)]; exact hc) (fun j hj => by
          rw [s2_row, upd_at]
          by_cases q : j = k
          · rw [if_pos q, if_pos (by omega), hv, q]
          · rw [if_neg q, h81 j hj]
            by_cases q2 : j < k
            · rw [if_pos q2, if_pos (show j < k + 1 by omega)]
            · rw [if_neg q2, if_neg (show ¬ j < k + 1 by omega)]) (fun j hj => by rw [s2_ne (by decide)]; exact h96 j hj)
        exact ⟨w, τ', e1, e2, fun c hc => by rw [e3 c hc, s2_ne hc], e4⟩
      cases hg : lg k
      · rw [hg] at e81
        have e81' : τ 81 k = 0 := e81
        rw [e81', if_neg (by decide)]
        by_cases hc' : chg s dst lg k
        · rw [(h96 k c).1 hc', if_neg (by decide)]
          exact go 1 (by rw [if_pos (lgN_t.mpr (Or.inr hc'))])
        · rw [(h96 k c).2 hc', if_pos (by decide)]
          exact go 0 (by rw [if_neg (fun y => by rcases lgN_t.mp y with z | z; rw [hg] at z; exact absurd z (by decide); exact hc' z)])
      · rw [hg] at e81
        have e81' : τ 81 k = 1 := e81
        rw [e81', if_pos (by decide)]
        exact go 1 (by rw [if_pos (lgN_t.mpr (Or.inl hg))])
    · rw [if_pos ((nI_le' (by omega) (by omega)).mpr (by omega))]
      exact fin k acc τ (by omega) ha h81
theorem m_len4 (E : ELn m s op fm r x d i el) (J : JL m s a lb jl) : ∀ (e N k : Nat) (acc : Int32) (τ : St), m ≤ k + e → k ≤ m → e < N → (acc = 0 ∨ acc = 1) → MT0 m s a b op fm r x d i τ → LG m lg τ → (∀ j, j < m → τ 78 j = nI (pl j)) → (∀ j, j < m → s j = 0 → τ 79 (a j).toNatClampNeg = nI (pl j)) → (∀ j, j < m → (j < k ∧ chg s (dstF pl (lnF s el lg) jl) lg j → τ 96 j = 1) ∧ (¬ (j < k ∧ chg s (dstF pl (lnF s el lg) jl) lg j) → τ 96 j = 0)) → wp (Mo_lengthens_B4 N 67 acc (nI k) τ) (fun v τ' => (∀ c, c ≠ 81 → c ≠ 96 → τ' c = τ c) ∧ (∀ j, j < m → τ' 81 j = if lgN s (dstF pl (lnF s el lg) jl) lg j then 1 else 0) ∧ Any s (dstF pl (lnF s el lg) jl) lg k m acc v) := by
  have fin : ∀ (k : Nat) (acc : Int32) (τ : St), m ≤ k → m ≤ 120 → (acc = 0 ∨ acc = 1) → τ 67 8 = nI m → LG m lg τ → (∀ j, j < m → (j < k ∧ chg s (dstF pl (lnF s el lg) jl) lg j → τ 96 j = 1) ∧ (¬ (j < k ∧ chg s (dstF pl (lnF s el lg) jl) lg j) → τ 96 j = 0)) → wp (Mo_lengthens_B72 FU 67 acc 0 τ) (fun v τ' => (∀ c, c ≠ 81 → c ≠ 96 → τ' c = τ c) ∧ (∀ j, j < m → τ' 81 j = if lgN s (dstF pl (lnF s el lg) jl) lg j then 1 else 0) ∧ Any s (dstF pl (lnF s el lg) jl) lg k m acc v) := by
    intro k acc τ hk hm ha hc G h96
    obtain ⟨v, τ', e1, e2, e3, e4⟩ := m_len72 (s := s) (lg := lg) hm (dst := dstF pl (lnF s el lg) jl) m FU 0 acc τ (by omega) (by omega) (FU_big (by omega)) ha hc (fun j hj => by rw [if_neg (by omega)]; exact G j hj) (fun j hj => ⟨fun y => (h96 j hj).1 ⟨by omega, y⟩, fun y => (h96 j hj).2 (fun z => y z.2)⟩)
    refine ⟨v, τ', e1, fun c x1 x2 => e3 c x1, e4, ?_⟩
    rw [e2]
    rcases ha with rfl | rfl
    · exact Or.inr ⟨rfl, rfl, fun j x y => by omega⟩
    · exact Or.inl ⟨rfl, Or.inl rfl⟩
  intro e
  induction e with
  | zero =>
    intro N k acc τ h1 h2 h3 ha D G h78 h79 h96
    obtain ⟨N, rfl⟩ : ∃ n, N = n + 1 := ⟨N - 1, by omega⟩
    have hm := D.1
    rw [Mo_lengthens_B4, D.2.1, if_pos ((nI_le' (by omega) (by omega)).mpr (by omega))]
    exact fin k acc τ (by omega) hm ha D.2.1 G h96
  | succ e ih =>
    intro N k acc τ h1 h2 h3 ha D G h78 h79 h96
    obtain ⟨N, rfl⟩ : ∃ n, N = n + 1 := ⟨N - 1, by omega⟩
    have hm := D.1
    rw [Mo_lengthens_B4, D.2.1]
    by_cases c : k < m
    · rw [if_neg (fun x => absurd ((nI_le' (by omega) (by omega)).mp x) (by omega)), cc_67_11, mt_s D c, mt_s D c]
      have same : ¬ chg s (dstF pl (lnF s el lg) jl) lg k → wp (Mo_lengthens_B4 N 67 acc (nI (k + 1)) τ) (fun v τ' => (∀ c, c ≠ 81 → c ≠ 96 → τ' c = τ c) ∧ (∀ j, j < m → τ' 81 j = if lgN s (dstF pl (lnF s el lg) jl) lg j then 1 else 0) ∧ Any s (dstF pl (lnF s el lg) jl) lg k m acc v) := by
        intro hn
        obtain ⟨v, τ', e1, e2, e3, e4⟩ := ih N (k + 1) acc τ (by omega) (by omega) (by omega) ha D G h78 h79 (fun j hj => ⟨fun y => (h96 j hj).1 ⟨by
          have : j ≠ k := fun z => hn (z ▸ y.2)
          omega, y.2⟩, fun y => (h96 j hj).2 (fun z => y ⟨by omega, z.2⟩)⟩)
        exact ⟨v, τ', e1, e2, e3, any_s hn e4⟩
      have b32 : jmp s k → wp (Mo_lengthens_B32 (Mo_lengthens_B4 N) 67 acc (nI k) τ) (fun v τ' => (∀ c, c ≠ 81 → c ≠ 96 → τ' c = τ c) ∧ (∀ j, j < m → τ' 81 j = if lgN s (dstF pl (lnF s el lg) jl) lg j then 1 else 0) ∧ Any s (dstF pl (lnF s el lg) jl) lg k m acc v) := by
        intro hj
        unfold Mo_lengthens_B32
        rw [cc_67_21, cc_67_54, ld_nI (by omega) (by decide)]
        simp only [nm_of, nI_1]
        have e81 := G k c
        cases hg : lg k
        · rw [hg] at e81
          have e81' : τ 81 k = 0 := e81
          rw [e81', if_neg (by decide), m_far' D E G J h78 h79 c hj, cl_of, mes_eq, cl_of]
          by_cases hs : smI (dstF pl (lnF s el lg) jl k)
          · rw [if_pos hs, if_neg (by decide)]
            exact same (fun y => y.2.2 hs)
          · have hc' : chg s (dstF pl (lnF s el lg) jl) lg k := ⟨hj, hg, hs⟩
            rw [if_neg hs, if_pos rfl, sa_nI (by omega) (by decide)]
            obtain ⟨v, τ', e1, e2, e3, e4⟩ := ih N (k + 1) 1 (s2 τ 96 k 1) (by omega) (by omega) (by omega) (Or.inr rfl) (mt_c D (fun c x1 x2 => s2_ne (by omega)) (by rw [s2_ne (by decide)])) (fun j hj => by rw [s2_ne (by decide)]; exact G j hj) (fun j hj => by rw [s2_ne (by decide)]; exact h78 j hj) (fun j hj h0 => by rw [s2_ne (by decide)]; exact h79 j hj h0) (fun j hj => by
              rw [s2_row, upd_at]
              by_cases q : j = k
              · subst q
                rw [if_pos rfl]
                exact ⟨fun _ => rfl, fun y => absurd ⟨by omega, hc'⟩ y⟩
              · rw [if_neg q]
                exact ⟨fun y => (h96 j hj).1 ⟨by omega, y.2⟩, fun y => (h96 j hj).2 (fun z => y ⟨by omega, z.2⟩)⟩)
            exact ⟨v, τ', e1, fun c x1 x2 => by rw [e2 c x1 x2, s2_ne x2], e3, any_c c hc' e4⟩
        · rw [hg] at e81
          have e81' : τ 81 k = 1 := e81
          rw [e81', if_pos (by decide)]
          exact same (fun y => by have y2 := y.2.1; rw [hg] at y2; exact absurd y2 (by decide))
      by_cases y1 : s k = 1
      · rw [if_pos y1]; exact b32 (Or.inl y1)
      · rw [if_neg y1]
        by_cases y2 : s k = 2
        · rw [if_neg (not_not_intro y2)]; exact b32 (Or.inr y2)
        · rw [if_pos y2, nm_of, nI_1]; exact same (fun y => by rcases y.1 with z | z; exact y1 z; exact y2 z)
    · rw [if_pos ((nI_le' (by omega) (by omega)).mpr (by omega))]
      exact fin k acc τ (by omega) hm ha D.2.1 G h96
end
