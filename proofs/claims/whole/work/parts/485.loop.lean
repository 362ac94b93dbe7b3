/-! ===== until no jump gets LONG ===== -/
def cntL (s : Nat → Int32) (lg : Nat → Bool) : Nat → Nat
  | 0 => 0
  | k + 1 => cntL s lg k + (if jmp s k ∧ lg k = false then 1 else 0)
theorem cnt_m (s : Nat → Int32) (lg : Nat → Bool) : ∀ m, cntL s lg m ≤ m := by
  intro m
  induction m with
  | zero => exact Nat.le_refl 0
  | succ m ih => rw [cntL]; split <;> omega
theorem cnt_le {s : Nat → Int32} {lg lg' : Nat → Bool} (h : ∀ j, lg j = true → lg' j = true) : ∀ m, cntL s lg' m ≤ cntL s lg m := by
  intro m
  induction m with
  | zero => exact Nat.le_refl 0
  | succ m ih =>
    rw [cntL, cntL]
    by_cases c : jmp s m ∧ lg' m = false
    · have : lg m = false := by
        cases g : lg m
        · rfl
        · have := h m g; rw [this] at c; exact absurd c.2 (by decide)
      rw [if_pos c, if_pos ⟨c.1, this⟩]; omega
    · rw [if_neg c]; omega
theorem cnt_lt {s : Nat → Int32} {lg lg' : Nat → Bool} (h : ∀ j, lg j = true → lg' j = true) {k : Nat} (hj : jmp s k) (h1 : lg k = false) (h2 : lg' k = true) : ∀ m, k < m → cntL s lg' m < cntL s lg m := by
  intro m
  induction m with
  | zero => intro hk; omega
  | succ m ih =>
    intro hk
    rw [cntL, cntL]
    by_cases e : k = m
    · subst e
      have := cnt_le (s := s) h k
      rw [if_neg (show ¬ (jmp s k ∧ lg' k = false) from fun y => by rw [h2] at y; exact absurd y.2 (by decide)), if_pos ⟨hj, h1⟩]; omega
    · have := ih (by omega)
      by_cases c : jmp s m ∧ lg' m = false
      · have : lg m = false := by
          cases g : lg m
          · rfl
          · have := h m g; rw [this] at c; exact absurd c.2 (by decide)
        rw [if_pos c, if_pos ⟨c.1, this⟩]; omega
      · rw [if_neg c]; omega
theorem m_67 : ∀ (e N k : Nat) (τ : St), 120 ≤ k + e → k ≤ 120 → e < N → (∀ j, j < k → τ 96 j = 0) → ∃ τ', (∀ K : Nat → Int32 → St → Option (Int32 × St), Mo_build_B67 K N 67 (nI k) τ = (cl (Mo_lengthens 67 τ') fun x2 σ1 => K 67 x2 σ1)) ∧ (∀ c, c ≠ 96 → τ' c = τ c) ∧ ∀ j, j < 120 → τ' 96 j = 0 := by
  intro e
  induction e with
  | zero =>
    intro N k τ h1 h2 h3 h
    obtain ⟨N, rfl⟩ : ∃ n, N = n + 1 := ⟨N - 1, by omega⟩
    refine ⟨τ, fun K => ?_, fun _ _ => rfl, fun j hj => h j (by omega)⟩
    rw [Mo_build_B67, if_pos (lf_le 120 120 k rfl (by omega) (by omega))]
  | succ e ih =>
    intro N k τ h1 h2 h3 h
    obtain ⟨N, rfl⟩ : ∃ n, N = n + 1 := ⟨N - 1, by omega⟩
    by_cases c : 120 ≤ k
    · refine ⟨τ, fun K => ?_, fun _ _ => rfl, fun j hj => h j (by omega)⟩
      rw [Mo_build_B67, if_pos (lf_le 120 120 k rfl c (by omega))]
    · obtain ⟨τ', e1, e2, e3⟩ := ih N (k + 1) (s2 τ 96 k 0) (by omega) (by omega) (by omega) (fun j hj => by
        rw [s2_row, upd_at]
        by_cases q : j = k
        · rw [if_pos q]
        · rw [if_neg q]; exact h j (by omega))
      refine ⟨τ', fun K => ?_, fun c hc => by rw [e2 c hc, s2_ne hc], e3⟩
      rw [Mo_build_B67, if_neg (lf_nle 120 120 k rfl (by omega) (by decide)), cc_67_54, sa_nI (by omega) (by decide), nm_of, nI_1, e1 K]
def mfin (τ : St) : Option (Int32 × St) := nm (((τ 67 22) - (rem (τ 67 22) 16)) + 16) fun x1 => if x1 ≤ 1024 then Mo_build_B132 FU 67 x1 0 τ else cl (Mo_faults 67 4 (-1) τ) fun x3 σ2 => some (σ2 67 3, σ2)
section
variable {m : Nat} {s a b op fm r x d i lb : Nat → Int32} {el jl : Nat → Nat}
/-- the class's frame over the whole search, the reference's -/
def CF (σ σ' : St) : Prop := (∀ c, c ≠ 15 → c ≠ 19 → c ≠ 28 → c ≠ 32 → σ' c = σ c) ∧ (∀ j, j ≠ 5 → σ' 15 j = σ 15 j) ∧ (∀ j, j ≠ 6 → σ' 28 j = σ 28 j)
def MF (τ τ' : St) : Prop := (∀ c, c ≠ 67 → c ≠ 78 → c ≠ 79 → c ≠ 81 → c ≠ 83 → c ≠ 96 → τ' c = τ c) ∧ (∀ j, j ≠ 22 → j ≠ 25 → τ' 67 j = τ 67 j) ∧ (∀ j, m ≤ j → τ' 78 j = τ 78 j) ∧ (∀ l, 40 ≤ l → τ' 79 l = τ 79 l)
/-- how it ends -/
def LE1 (m : Nat) (s a b : Nat → Int32) (el jl : Nat → Nat) (lg : Nat → Bool) (σ τ : St) : Prop := (∀ j, j < m → σ 19 j = nI (plc s b (lnF s el lg) j)) ∧ σ 15 5 = nI (nx s b (lnF s el lg) m) ∧ (∀ j, j < m → σ 32 j = nI (lnF s el lg j)) ∧ τ 67 22 = nI (nx s b (lnF s el lg) m) ∧ (∀ j, j < m → τ 78 j = nI (plc s b (lnF s el lg) j)) ∧ (∀ j, j < m → s j = 0 → τ 79 (a j).toNatClampNeg = nI (plc s b (lnF s el lg) j)) ∧ LG m lg τ ∧ ∀ k, k < m → ¬ chg s (dstF (plc s b (lnF s el lg)) (lnF s el lg) jl) lg k
theorem lg_turn (hm : m ≤ 120) (E : ELn m s op fm r x d i el) (J : JL m s a lb jl) (U : Unq m s a) (hL : LbO m s a) {lg : Nat → Bool} {σ τ : St} (hc : σ 15 4 = nI m) (e16 : σ 16 = s) (e17 : σ 17 = a) (e18 : σ 18 = b) (e26 : σ 26 = lb) (h32 : ∀ j, j < m → σ 32 j = nI (lnF s el lg j)) (D : MT0 m s a b op fm r x d i τ) (G : LG m lg τ) :
    ∃ v σ1 σ2 τ1 τ2, Builder_layAll 28 σ = some σ1 ∧ Builder_lengthen 28 σ1 = some (v, σ2) ∧ Mo_layAll 67 τ = some τ1 ∧ (∀ K, Mo_build_B67 K FU 67 0 τ1 = K 67 v τ2) ∧ CF σ σ2 ∧ MF (m := m) τ τ2 ∧
      (∀ j, j < m → σ2 19 j = nI (plc s b (lnF s el lg) j)) ∧ σ2 15 5 = nI (nx s b (lnF s el lg) m) ∧ (∀ j, j < m → σ2 32 j = nI (lnF s el (lgN s (dstF (plc s b (lnF s el lg)) (lnF s el lg) jl) lg) j)) ∧ τ2 67 22 = nI (nx s b (lnF s el lg) m) ∧ (∀ j, j < m → τ2 78 j = nI (plc s b (lnF s el lg) j)) ∧ (∀ j, j < m → s j = 0 → τ2 79 (a j).toNatClampNeg = nI (plc s b (lnF s el lg) j)) ∧ LG m (lgN s (dstF (plc s b (lnF s el lg)) (lnF s el lg) jl) lg) τ2 ∧ Any s (dstF (plc s b (lnF s el lg)) (lnF s el lg) jl) lg 0 m 0 v := by
  have hCD : CD m (lnF s el lg) σ := ⟨hm, hc, fun k hk => ⟨h32 k hk, by rw [e16]; exact lnF_le (fun h => el_le E hk h)⟩⟩
  obtain ⟨σ1, c1, ⟨g1, g2, g3⟩, c2, c3, c4⟩ := c_layA hCD
  rw [e16, e18] at c2 c3 c4
  have k15 : σ1 15 4 = nI m := by rw [g2 4 (by decide)]; exact hc
  obtain ⟨v, σ2, d1, d2, d3, d4⟩ := c_len4 (el := el) (pl := plc s b (lnF s el lg)) (lg := lg) hm J m FU 0 0 σ1 (by omega) (by omega) (FU_big (by omega)) (Or.inl rfl) k15 (by rw [g1 16 (by decide) (by decide) (by decide)]; exact e16) (by rw [g1 17 (by decide) (by decide) (by decide)]; exact e17) (by rw [g1 26 (by decide) (by decide) (by decide)]; exact e26) (fun j hj => by rw [c4 j, if_pos hj]) (fun j hj => by rw [if_neg (by omega), g1 32 (by decide) (by decide) (by decide)]; exact h32 j hj)
  obtain ⟨τ1, f1, B1, f2, f3, f4, f5⟩ := m_layA D E U G
  have D1 : MT0 m s a b op fm r x d i τ1 := mt_c D (fun c x1 x2 => B1.1 c (by omega) (by omega) (by omega) (by omega)) (B1.2 8 (by decide) (by decide))
  have G1 : LG m lg τ1 := fun j hj => by rw [B1.1 81 (by decide) (by decide) (by decide) (by decide)]; exact G j hj
  have p78 : ∀ j, j < m → τ1 78 j = nI (plc s b (lnF s el lg) j) := fun j hj => by rw [f3 j, if_pos ⟨by omega, hj⟩]
  obtain ⟨τ1', z1, z2, z3⟩ := m_67 120 FU 0 τ1 (by omega) (by omega) (FU_big (by omega)) (fun j hj => by omega)
  have D2 : MT0 m s a b op fm r x d i τ1' := mt_c D1 (fun c x1 x2 => z2 c (by omega)) (by rw [z2 67 (by decide)])
  obtain ⟨w, τ2, y1, y2, y3, y4⟩ := m_len4 (lb := lb) (jl := jl) (pl := plc s b (lnF s el lg)) (lg := lg) E J m FU 0 0 τ1' (by omega) (by omega) (FU_big (by omega)) (Or.inl rfl) D2 (fun j hj => by rw [z2 81 (by decide)]; exact G1 j hj) (fun j hj => by rw [z2 78 (by decide)]; exact p78 j hj) (fun j hj h0 => by rw [z2 79 (by decide)]; exact f5 j (by omega) hj h0) (fun j hj => ⟨fun y => by omega, fun _ => z3 j (by omega)⟩)
  have ew : w = v := any_un y4 d4
  subst ew
  have hK : ∀ K, Mo_build_B67 K FU 67 0 τ1 = K 67 w τ2 := by
    intro K
    have zk := z1 K
    have zl : Mo_lengthens 67 τ1' = some (w, τ2) := y1
    rw [zl, cl_of] at zk
    exact zk
  refine ⟨w, σ1, σ2, τ1, τ2, c1, d1, f1, hK, ?_, ?_, fun j hj => ?_, ?_, d3, ?_, fun j hj => ?_, fun j hj h0 => ?_, y3, d4⟩
  · refine ⟨fun c x1 x2 x3 x4 => by rw [d2 c x4, g1 c x1 x2 x3], fun j hj => by rw [d2 15 (by decide), g2 j hj], fun j hj => by rw [d2 28 (by decide), g3 j hj]⟩
  · refine ⟨fun c x1 x2 x3 x4 x5 x6 => by rw [y2 c x4 x6, z2 c x6, B1.1 c x1 x2 x3 x5], fun j x1 x2 => by rw [y2 67 (by decide) (by decide), z2 67 (by decide), B1.2 j x1 x2], fun j hj => by rw [y2 78 (by decide) (by decide), z2 78 (by decide), f3 j, if_neg (by omega)], fun l hl => by rw [y2 79 (by decide) (by decide), z2 79 (by decide), f4 l (fun y => by omega)]⟩
  · rw [d2 19 (by decide), c4 j, if_pos hj]
  · rw [d2 15 (by decide)]; exact c3
  · rw [y2 67 (by decide) (by decide), z2 67 (by decide)]; exact f2
  · rw [y2 78 (by decide) (by decide), z2 78 (by decide)]; exact p78 j hj
  · rw [y2 79 (by decide) (by decide), z2 79 (by decide)]; exact f5 j (by omega) hj h0
theorem lg_loop (hm : m ≤ 120) (E : ELn m s op fm r x d i el) (J : JL m s a lb jl) (U : Unq m s a) (hL : LbO m s a) : ∀ (c t N N' : Nat) (lg : Nat → Bool) (σ τ : St), cntL s lg m ≤ c → t + c ≤ 120 → c + 1 < N → c + 1 < N' → σ 15 4 = nI m → σ 16 = s → σ 17 = a → σ 18 = b → σ 26 = lb → (∀ j, j < m → σ 32 j = nI (lnF s el lg j)) → MT0 m s a b op fm r x d i τ → LG m lg τ →
    ∃ lg' σ' τ', Builder_findFault_B56 N 28 0 (nI t) σ = Builder_findFault_B89 28 σ' ∧ Mo_build_B57 N' 67 1 τ = mfin τ' ∧ CF σ σ' ∧ MF (m := m) τ τ' ∧ LE1 m s a b el jl lg' σ' τ' := by
  have settle : ∀ (t N N' : Nat) (lg : Nat → Bool) (σ τ σ1 σ2 τ1 τ2 : St), t ≤ 120 → Builder_layAll 28 σ = some σ1 → Builder_lengthen 28 σ1 = some (0, σ2) → Mo_layAll 67 τ = some τ1 → (∀ K, Mo_build_B67 K FU 67 0 τ1 = K 67 0 τ2) → Builder_findFault_B56 (N + 1 + 1) 28 0 (nI t) σ = Builder_findFault_B89 28 σ2 ∧ Mo_build_B57 (N' + 1 + 1) 67 1 τ = mfin τ2 := by
    intro t N N' lg σ τ σ1 σ2 τ1 τ2 ht a1 a2 a3 a4
    constructor
    · rw [Builder_findFault_B56, if_neg (lf_ngt 120 120 t rfl ht (by decide)), if_neg (by decide), a1, cv_of, a2, cl_of, if_neg (by decide), nm_of, Builder_findFault_B56]
      by_cases q : 120 < nI t + 1
      · rw [if_pos q]
      · rw [if_neg q, if_pos (by decide)]
    · rw [Mo_build_B57, if_neg (by decide), a3, cv_of, a4, Mo_build_B57, if_pos rfl]; rfl
  have goon : ∀ (t N N' : Nat) (v : Int32) (σ τ σ1 σ2 τ1 τ2 : St), t ≤ 120 → v = 1 → Builder_layAll 28 σ = some σ1 → Builder_lengthen 28 σ1 = some (v, σ2) → Mo_layAll 67 τ = some τ1 → (∀ K, Mo_build_B67 K FU 67 0 τ1 = K 67 v τ2) → Builder_findFault_B56 (N + 1) 28 0 (nI t) σ = Builder_findFault_B56 N 28 0 (nI (t + 1)) σ2 ∧ Mo_build_B57 (N' + 1) 67 1 τ = Mo_build_B57 N' 67 1 τ2 := by
    intro t N N' v σ τ σ1 σ2 τ1 τ2 ht hv a1 a2 a3 a4
    subst hv
    constructor
    · rw [Builder_findFault_B56, if_neg (lf_ngt 120 120 t rfl ht (by decide)), if_neg (by decide), a1, cv_of, a2, cl_of, if_pos (by decide), nm_of, nI_1]
    · rw [Mo_build_B57, if_neg (by decide), a3, cv_of, a4]
  intro c
  induction c with
  | zero =>
    intro t N N' lg σ τ h1 h2 h3 h4 hc e16 e17 e18 e26 h32 D G
    obtain ⟨N, rfl⟩ : ∃ n, N = n + 1 + 1 := ⟨N - 2, by omega⟩
    obtain ⟨N', rfl⟩ : ∃ n, N' = n + 1 + 1 := ⟨N' - 2, by omega⟩
    obtain ⟨v, σ1, σ2, τ1, τ2, a1, a2, a3, a4, a5, a6, a7, a8, a9, a10, a11, a12, a13, a14⟩ := lg_turn hm E J U hL hc e16 e17 e18 e26 h32 D G
    rcases a14 with ⟨_, x | ⟨j, x1, x2, x3⟩⟩ | ⟨rfl, _, hn⟩
    · exact absurd x (by decide)
    · have := cnt_lt (s := s) (lg := lg) (lg' := fun _ => true) (fun _ _ => rfl) x3.1 x3.2.1 rfl m x2
      omega
    · obtain ⟨z1, z2⟩ := settle t N N' lg σ τ σ1 σ2 τ1 τ2 (by omega) a1 a2 a3 a4
      have eq : ∀ j, j < m → lgN s (dstF (plc s b (lnF s el lg)) (lnF s el lg) jl) lg j = lg j := by
        intro j hj
        cases g : lg j
        · cases g2 : lgN s (dstF (plc s b (lnF s el lg)) (lnF s el lg) jl) lg j
          · rfl
          · rcases lgN_t.mp g2 with y | y
            · rw [g] at y; exact y.symm
            · exact absurd y (hn j (by omega) hj)
        · exact lgN_t.mpr (Or.inl g)
      exact ⟨lg, σ2, τ2, z1, z2, a5, a6, a7, a8, fun j hj => by rw [a9 j hj, lnF_c (Or.inr (eq j hj))], a10, a11, a12, fun j hj => by rw [a13 j hj, eq j hj], fun k hk => hn k (by omega) hk⟩
  | succ c ih =>
    intro t N N' lg σ τ h1 h2 h3 h4 hc e16 e17 e18 e26 h32 D G
    obtain ⟨N, rfl⟩ : ∃ n, N = n + 1 + 1 := ⟨N - 2, by omega⟩
    obtain ⟨N', rfl⟩ : ∃ n, N' = n + 1 + 1 := ⟨N' - 2, by omega⟩
    obtain ⟨v, σ1, σ2, τ1, τ2, a1, a2, a3, a4, a5, a6, a7, a8, a9, a10, a11, a12, a13, a14⟩ := lg_turn hm E J U hL hc e16 e17 e18 e26 h32 D G
    rcases a14 with ⟨hv, x | ⟨j, x1, x2, x3⟩⟩ | ⟨rfl, _, hn⟩
    · exact absurd x (by decide)
    · have lt := cnt_lt (s := s) (lg := lg) (lg' := lgN s (dstF (plc s b (lnF s el lg)) (lnF s el lg) jl) lg) (fun j hj => lgN_t.mpr (Or.inl hj)) x3.1 x3.2.1 (lgN_t.mpr (Or.inr x3)) m x2
      obtain ⟨z1, z2⟩ := goon t (N + 1) (N' + 1) v σ τ σ1 σ2 τ1 τ2 (by omega) hv a1 a2 a3 a4
      rw [z1, z2]
      obtain ⟨lg', σ', τ', w1, w2, w3, w4, w5⟩ := ih (t + 1) (N + 1) (N' + 1) _ σ2 τ2 (by omega) (by omega) (by omega) (by omega) (by rw [a5.2.1 4 (by decide)]; exact hc) (by rw [a5.1 16 (by decide) (by decide) (by decide) (by decide)]; exact e16) (by rw [a5.1 17 (by decide) (by decide) (by decide) (by decide)]; exact e17) (by rw [a5.1 18 (by decide) (by decide) (by decide) (by decide)]; exact e18) (by rw [a5.1 26 (by decide) (by decide) (by decide) (by decide)]; exact e26) a9 (mt_c D (fun c x1 x2 => a6.1 c (by omega) (by omega) (by omega) (by omega) (by omega) (by omega)) (a6.2.1 8 (by decide) (by decide))) a13
      refine ⟨lg', σ', τ', w1, w2, ⟨fun c x1 x2 x3 x4 => by rw [w3.1 c x1 x2 x3 x4, a5.1 c x1 x2 x3 x4], fun j hj => by rw [w3.2.1 j hj, a5.2.1 j hj], fun j hj => by rw [w3.2.2 j hj, a5.2.2 j hj]⟩, ⟨fun c x1 x2 x3 x4 x5 x6 => by rw [w4.1 c x1 x2 x3 x4 x5 x6, a6.1 c x1 x2 x3 x4 x5 x6], fun j x1 x2 => by rw [w4.2.1 j x1 x2, a6.2.1 j x1 x2], fun j hj => by rw [w4.2.2.1 j hj, a6.2.2.1 j hj], fun l hl => by rw [w4.2.2.2 l hl, a6.2.2.2 l hl]⟩, w5⟩
    · obtain ⟨z1, z2⟩ := settle t N N' lg σ τ σ1 σ2 τ1 τ2 (by omega) a1 a2 a3 a4
      have eq : ∀ j, j < m → lgN s (dstF (plc s b (lnF s el lg)) (lnF s el lg) jl) lg j = lg j := by
        intro j hj
        cases g : lg j
        · cases g2 : lgN s (dstF (plc s b (lnF s el lg)) (lnF s el lg) jl) lg j
          · rfl
          · rcases lgN_t.mp g2 with y | y
            · rw [g] at y; exact y.symm
            · exact absurd y (hn j (by omega) hj)
        · exact lgN_t.mpr (Or.inl g)
      exact ⟨lg, σ2, τ2, z1, z2, a5, a6, a7, a8, fun j hj => by rw [a9 j hj, lnF_c (Or.inr (eq j hj))], a10, a11, a12, fun j hj => by rw [a13 j hj, eq j hj], fun k hk => hn k (by omega) hk⟩
end
