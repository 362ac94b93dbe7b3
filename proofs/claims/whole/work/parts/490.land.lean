section
variable {m : Nat} {s a b : Nat → Int32} {pl : Nat → Nat}
/-- the class's row of landings, behind ITEMS 0 .. k - 1 -/
def LdI (s b : Nat → Int32) (pl : Nat → Nat) (k : Nat) (row : Nat → Int32) : Prop := ∀ j, j < 64 → (row j = -100 ∧ ∀ q w, q < k → ¬ Lnd s b pl q j w) ∨ ∃ q w, q < k ∧ Lnd s b pl q j w ∧ row j = nI w ∧ ∀ q' w', q' < k → Lnd s b pl q' j w' → q' ≤ q
/-- marked LABELS and what pushes stand as a landing wants it -/
def LdO (m : Nat) (s b : Nat → Int32) (pl : Nat → Nat) : Prop := ∀ k, k < m → pl k < 1024 ∧ (s k = 0 ∧ b k = 1 → pl k % 16 = 0) ∧ (s k = 3 ∨ s k = 4 ∨ s k = 6 → (pl k + 5) % 16 = 0 ∧ pl k + 5 < 1024)
theorem ld_up {k j0 w0 : Nat} {row : Nat → Int32} (h : LdI s b pl k row) (hL : Lnd s b pl k j0 w0) (hu : ∀ j w, Lnd s b pl k j w → j = j0) : LdI s b pl (k + 1) (upd row j0 (nI w0)) := by
  intro j hj
  rw [upd_at]
  by_cases e : j = j0
  · right
    rw [if_pos e]
    exact ⟨k, w0, by omega, by rw [e]; exact hL, rfl, fun q' w' h1 _ => by omega⟩
  · rw [if_neg e]
    rcases h j hj with ⟨h1, h2⟩ | ⟨q, w, h1, h2, h3, h4⟩
    · refine Or.inl ⟨h1, fun q w hq hl => ?_⟩
      by_cases e2 : q = k
      · subst e2; exact e (hu j w hl)
      · exact h2 q w (by omega) hl
    · refine Or.inr ⟨q, w, by omega, h2, h3, fun q' w' hq hl => ?_⟩
      by_cases e2 : q' = k
      · subst e2; exact absurd (hu j w' hl) e
      · exact h4 q' w' (by omega) hl
theorem ld_no {k : Nat} {row : Nat → Int32} (h : LdI s b pl k row) (hn : ∀ j w, ¬ Lnd s b pl k j w) : LdI s b pl (k + 1) row := by
  intro j hj
  rcases h j hj with ⟨h1, h2⟩ | ⟨q, w, h1, h2, h3, h4⟩
  · refine Or.inl ⟨h1, fun q w hq hl => ?_⟩
    by_cases e2 : q = k
    · subst e2; exact hn j w hl
    · exact h2 q w (by omega) hl
  · refine Or.inr ⟨q, w, by omega, h2, h3, fun q' w' hq hl => ?_⟩
    by_cases e2 : q' = k
    · subst e2; exact absurd hl (hn j w')
    · exact h4 q' w' (by omega) hl
theorem c_give {σ : St} {A : Nat} (hA : A < 1024) (w : Int32) : Program_giveLanding 15 (nI A) w σ = some (s2 σ 27 (A / 16) w) := by
  unfold Program_giveLanding
  rw [nm_of, nI_d16 A (by omega), if_neg (nI_pos (by omega)), if_neg (lf_nle 64 64 _ rfl (by omega) (by decide)), cc_15_13, sa_nI (by omega) (by decide)]
theorem c_land24 (hm : m ≤ 120) (hO : LdO m s b pl) : ∀ (e N k : Nat) (σ : St), m ≤ k + e → k ≤ m → e < N → σ 15 4 = nI m → σ 16 = s → σ 18 = b → (∀ j, j < m → σ 19 j = nI (pl j)) → LdI s b pl k (σ 27) → wv (Program_findLandings_B24 N 15 (nI k) σ) (fun σ' => (∀ c, c ≠ 27 → σ' c = σ c) ∧ LdI s b pl m (σ' 27)) := by
  intro e
  induction e with
  | zero =>
    intro N k σ h1 h2 h3 hc e16 e18 h19 h
    obtain ⟨N, rfl⟩ : ∃ n, N = n + 1 := ⟨N - 1, by omega⟩
    have ek : k = m := by omega
    subst ek
    rw [Program_findLandings_B24, hc, if_pos ((nI_le' (by omega) (by omega)).mpr (by omega))]
    exact wv_some.mpr ⟨fun _ _ => rfl, h⟩
  | succ e ih =>
    intro N k σ h1 h2 h3 hc e16 e18 h19 h
    obtain ⟨N, rfl⟩ : ∃ n, N = n + 1 := ⟨N - 1, by omega⟩
    rw [Program_findLandings_B24, hc]
    by_cases c : k < m
    · obtain ⟨o1, o2, o3⟩ := hO k c
      have ip : Program_itemPlace 15 (nI k) σ = some (nI (pl k), σ) := by
        unfold Program_itemPlace
        rw [c_has hm hc c, cl_of, if_neg (by decide), cc_15_3, ld_nI (by omega) (by decide), h19 k c]
      rw [if_neg (fun x => absurd ((nI_le' (by omega) (by omega)).mp x) (by omega)), c_mkd hm hc c, cl_of, c_psh hm hc c, cl_of, ip, cl_of, cl_of, e16, e18]
      have nxt : ∀ (A w : Nat), A < 1024 → LdI s b pl (k + 1) (upd (σ 27) (A / 16) (nI w)) → wv (cv (Program_giveLanding 15 (nI A) (nI w) σ) fun σ8 => nm (nI k + 1) fun x9 => Program_findLandings_B24 N 15 x9 σ8) (fun σ' => (∀ c, c ≠ 27 → σ' c = σ c) ∧ LdI s b pl m (σ' 27)) := by
        intro A w hA hh
        rw [c_give hA, cv_of, nm_of, nI_1]
        refine wv_mono (ih N (k + 1) _ (by omega) (by omega) (by omega) (by rw [s2_ne (by decide)]; exact hc) (by rw [s2_ne (by decide)]; exact e16) (by rw [s2_ne (by decide)]; exact e18) (fun j hj => by rw [s2_ne (by decide)]; exact h19 j hj) (by rw [s2_row]; exact hh)) fun σ' g => ⟨fun c hc => by rw [g.1 c hc, s2_ne hc], g.2⟩
      by_cases z : s k = 0 ∧ b k = 1
      · have o2' := o2 z
        rw [if_pos z, if_neg (by decide)]
        refine nxt (pl k) k o1 (ld_up h (Or.inl ⟨z.1, z.2, by omega, rfl⟩) ?_)
        rintro j w (⟨_, _, y, _⟩ | ⟨y, _⟩)
        · omega
        · exfalso; rw [z.1] at y; exact absurd y (by decide)
      · rw [if_neg z, if_pos rfl]
        by_cases z3 : s k = 3 ∨ s k = 4 ∨ s k = 6
        · obtain ⟨o3', o4⟩ := o3 z3
          rw [if_pos z3, if_neg (by decide), show nI (pl k) + 5 = nI (pl k + 5) from nI_add _ 5, nI_1]
          have := nxt (pl k + 5) (k + 1) o4 (ld_up h (Or.inr ⟨z3, by omega, rfl⟩) ?_)
          · rw [nI_1] at this; exact this
          · rintro j w (⟨y, _⟩ | ⟨_, y, _⟩)
            · exfalso; rw [y] at z3; exact absurd z3 (by decide)
            · omega
        · rw [if_neg z3, if_pos rfl, nm_of, nI_1]
          refine ih N (k + 1) σ (by omega) (by omega) (by omega) hc e16 e18 h19 (ld_no h ?_)
          rintro j w (⟨y1, y2, _⟩ | ⟨y, _⟩)
          · exact z ⟨y1, y2⟩
          · exact z3 y
    · have ek : k = m := by omega
      subst ek
      rw [if_pos ((nI_le' (by omega) (by omega)).mpr (by omega))]
      exact wv_some.mpr ⟨fun _ _ => rfl, h⟩
theorem c_land2 (hm : m ≤ 120) (hO : LdO m s b pl) : ∀ (e N k : Nat) (σ : St), 64 ≤ k + e → k ≤ 64 → e < N → σ 15 4 = nI m → σ 16 = s → σ 18 = b → (∀ j, j < m → σ 19 j = nI (pl j)) → (∀ j, j < k → σ 27 j = -100) → wv (Program_findLandings_B2 N 15 (nI k) σ) (fun σ' => (∀ c, c ≠ 27 → σ' c = σ c) ∧ LdI s b pl m (σ' 27)) := by
  have fin : ∀ σ : St, σ 15 4 = nI m → σ 16 = s → σ 18 = b → (∀ j, j < m → σ 19 j = nI (pl j)) → (∀ j, j < 64 → σ 27 j = -100) → wv (Program_findLandings_B24 FU 15 0 σ) (fun σ' => (∀ c, c ≠ 27 → σ' c = σ c) ∧ LdI s b pl m (σ' 27)) := fun σ hc e16 e18 h19 h => c_land24 hm hO m FU 0 σ (by omega) (by omega) (FU_big (by omega)) hc e16 e18 h19 (fun j hj => Or.inl ⟨h j hj, fun q w hq => by omega⟩)
  intro e
  induction e with
  | zero =>
    intro N k σ h1 h2 h3 hc e16 e18 h19 h
    obtain ⟨N, rfl⟩ : ∃ n, N = n + 1 := ⟨N - 1, by omega⟩
    rw [Program_findLandings_B2, if_pos (lf_le 64 64 k rfl (by omega) (by omega))]
    exact fin σ hc e16 e18 h19 (fun j hj => h j (by omega))
  | succ e ih =>
    intro N k σ h1 h2 h3 hc e16 e18 h19 h
    obtain ⟨N, rfl⟩ : ∃ n, N = n + 1 := ⟨N - 1, by omega⟩
    rw [Program_findLandings_B2]
    by_cases c : 64 ≤ k
    · rw [if_pos (lf_le 64 64 k rfl c (by omega))]
      exact fin σ hc e16 e18 h19 (fun j hj => h j (by omega))
    · rw [if_neg (lf_nle 64 64 k rfl (by omega) (by decide)), cc_15_13, sa_nI (by omega) (by decide), nm_of, nI_1]
      refine wv_mono (ih N (k + 1) _ (by omega) (by omega) (by omega) (by rw [s2_ne (by decide)]; exact hc) (by rw [s2_ne (by decide)]; exact e16) (by rw [s2_ne (by decide)]; exact e18) (fun j hj => by rw [s2_ne (by decide)]; exact h19 j hj) (fun j hj => ?_)) fun σ' g => ⟨fun c hc => by rw [g.1 c hc, s2_ne hc], g.2⟩
      rw [s2_row, upd_at]
      by_cases e : j = k
      · rw [if_pos e]
      · rw [if_neg e]; exact h j (by omega)
theorem c_lands {σ : St} (hm : m ≤ 120) (hO : LdO m (σ 16) (σ 18) pl) (hc : σ 15 4 = nI m) (h19 : ∀ j, j < m → σ 19 j = nI (pl j)) : wv (Program_findLandings 15 σ) (fun σ' => (∀ c, c ≠ 27 → σ' c = σ c) ∧ LdI (σ 16) (σ 18) pl m (σ' 27)) := c_land2 hm hO 64 FU 0 σ (by omega) (by omega) (FU_big (by omega)) hc rfl rfl h19 (fun j hj => by omega)
/-- Lay of R out of the class's row -/
theorem ld_lay {ln : Nat → Nat} {row : Nat → Int32} (hn : ∀ k, k < m → ln k ≤ 16 ∧ (s k = 0 → ln k = 0) ∧ (¬ s k = 0 → 1 ≤ ln k) ∧ (s k = 3 ∨ s k = 4 ∨ s k = 6 → ln k = 5)) (hT : nx s b ln m < 1024) (h : LdI s b (plc s b ln) m row) :
    (∀ q w j, q < m → Lnd s b (plc s b ln) q j w → j < 64) ∧ (∀ q, q < m → (s q = 0 ∧ b q = 1 → plc s b ln q % 16 = 0) ∧ (s q = 3 ∨ s q = 4 ∨ s q = 6 → (plc s b ln q + 5) % 16 = 0)) ∧
    (∀ j, j < 64 → (row j = -100 ∧ ∀ q w, q < m → ¬ Lnd s b (plc s b ln) q j w) ∨ ∃ q w, q < m ∧ Lnd s b (plc s b ln) q j w ∧ row j = nI w ∧ ∀ q' w', q' < m → Lnd s b (plc s b ln) q' j w' → w' ≤ w ∧ ∀ k, w' ≤ k → k < w → s k = 0) := by
  have hn' : ∀ k, k < m → ln k ≤ 16 ∧ (s k = 0 → ln k = 0) := fun k hk => ⟨(hn k hk).1, (hn k hk).2.1⟩
  have mono := nx_mono (b := b) hn'
  have st : ∀ k, k < m → nx s b ln k ≤ plc s b ln k ∧ plc s b ln k + ln k ≤ nx s b ln (k + 1) := fun k hk => by
    have := ly_le (s k) (b k) (ln k) (nx s b ln k) (hn' k hk).1 (hn' k hk).2
    exact ⟨this.1, this.2.1⟩
  have lab : ∀ k, k < m → s k = 0 ∧ b k = 1 → plc s b ln k % 16 = 0 ∧ nx s b ln (k + 1) = plc s b ln k := fun k hk z => by
    have e : plc s b ln k = (nx s b ln k + 15) / 16 * 16 := by unfold plc lyP; rw [if_neg (by rw [z.1]; decide), if_pos z]
    refine ⟨by omega, ?_⟩
    show lyN (s k) (b k) (ln k) (nx s b ln k) = _
    unfold lyN
    rw [if_neg (by rw [z.1]; decide), if_neg (by rw [z.1]; decide)]
    have l0 := (hn k hk).2.1 z.1
    show plc s b ln k + ln k = plc s b ln k
    omega
  have psh : ∀ k, k < m → s k = 3 ∨ s k = 4 ∨ s k = 6 → (plc s b ln k + 5) % 16 = 0 ∧ nx s b ln (k + 1) = plc s b ln k + 5 := fun k hk z => by
    have l5 := (hn k hk).2.2.2 z
    have e : plc s b ln k = fit (nx s b ln k) (ln k) / 16 * 16 + 16 - ln k := by unfold plc lyP; rw [if_pos z]
    have e2 : nx s b ln (k + 1) = fit (nx s b ln k) (ln k) / 16 * 16 + 16 := by
      show lyN (s k) (b k) (ln k) (nx s b ln k) = _
      unfold lyN; rw [if_pos z]
    rw [e2, e, l5]; omega
  have top : ∀ k, k ≤ m → nx s b ln k < 1024 := fun k hk => by
    have := mono (m - k) k (by omega); rw [show k + (m - k) = m by omega] at this; omega
  have at' : ∀ q j w, q < m → Lnd s b (plc s b ln) q j w → nx s b ln (q + 1) = 16 * j ∧ (w = q ∨ w = q + 1) ∧ (w = q → s q = 0) := by
    rintro q j w hq (⟨y1, y2, y3, y4⟩ | ⟨y1, y3, y4⟩)
    · have := (lab q hq ⟨y1, y2⟩).2
      exact ⟨by omega, Or.inl y4, fun _ => y1⟩
    · have := (psh q hq y1).2
      exact ⟨by omega, Or.inr y4, fun y => by omega⟩
  -- ITEMS that advance nothing are LABELS
  have zero : ∀ k, k < m → nx s b ln (k + 1) = nx s b ln k → s k = 0 := fun k hk e => by
    by_cases z : s k = 0
    · exact z
    · have := (hn k hk).2.2.1 z
      have := st k hk
      omega
  refine ⟨fun q w j hq hl => ?_, fun q hq => ⟨fun z => (lab q hq z).1, fun z => (psh q hq z).1⟩, fun j hj => ?_⟩
  · have := (at' q j w hq hl).1
    have := top (q + 1) (by omega)
    omega
  · rcases h j hj with h1 | ⟨q, w, h1, h2, h3, h4⟩
    · exact Or.inl h1
    · refine Or.inr ⟨q, w, h1, h2, h3, fun q' w' hq' hl => ?_⟩
      have hle := h4 q' w' hq' hl
      obtain ⟨a1, a2, a3⟩ := at' q j w h1 h2
      obtain ⟨b1, b2, b3⟩ := at' q' j w' hq' hl
      by_cases e : q' = q
      · subst e
        have : w' = w := by
          rcases h2 with ⟨y1, _, _, y4⟩ | ⟨y1, _, y4⟩
          · rcases hl with ⟨_, _, _, z4⟩ | ⟨z1, _, _⟩
            · rw [y4, z4]
            · exfalso; rw [y1] at z1; exact absurd z1 (by decide)
          · rcases hl with ⟨z1, _, _, z4⟩ | ⟨_, _, z4⟩
            · exfalso; rw [z1] at y1; exact absurd y1 (by decide)
            · rw [y4, z4]
        subst this
        exact ⟨Nat.le_refl _, fun k x1 x2 => by omega⟩
      · -- all between the two advances nothing
        have con : ∀ k, q' + 1 ≤ k → k ≤ q → nx s b ln k = 16 * j := fun k x1 x2 => by
          have m1 := mono (k - (q' + 1)) (q' + 1) (by omega)
          rw [show q' + 1 + (k - (q' + 1)) = k by omega] at m1
          have m2 := mono (q + 1 - k) k (by omega)
          rw [show k + (q + 1 - k) = q + 1 by omega] at m2
          omega
        have sq : s q = 0 := zero q h1 (by rw [a1, con q (by omega) (Nat.le_refl _)])
        have wq : w = q := by
          rcases h2 with ⟨_, _, _, y4⟩ | ⟨y1, _⟩
          · exact y4
          · exfalso; rw [sq] at y1; exact absurd y1 (by decide)
        refine ⟨by omega, fun k x1 x2 => ?_⟩
        by_cases e2 : k = q'
        · subst e2; exact b3 (by omega)
        · exact zero k (by omega) (by rw [con k (by omega) (by omega), con (k + 1) (by omega) (by omega)])
end
