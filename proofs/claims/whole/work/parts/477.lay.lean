/-! ===== where ITEMS are laid ===== -/
def fit (q n : Nat) : Nat := if 16 < q % 16 + n then q / 16 * 16 + 16 else q
def lyP (s b : Int32) (n q : Nat) : Nat := if s = 3 ∨ s = 4 ∨ s = 6 then fit q n / 16 * 16 + 16 - n else if s = 0 ∧ b = 1 then (q + 15) / 16 * 16 else fit q n
def lyN (s b : Int32) (n q : Nat) : Nat := if s = 3 ∨ s = 4 ∨ s = 6 then fit q n / 16 * 16 + 16 else if s = 7 then fit (fit q n + n) 5 + 5 else lyP s b n q + n
def nx (s b : Nat → Int32) (ln : Nat → Nat) : Nat → Nat
  | 0 => 0
  | k + 1 => lyN (s k) (b k) (ln k) (nx s b ln k)
def plc (s b : Nat → Int32) (ln : Nat → Nat) (k : Nat) : Nat := lyP (s k) (b k) (ln k) (nx s b ln k)
theorem fit_le (q n : Nat) (hn : n ≤ 16) : q ≤ fit q n ∧ fit q n ≤ q + 15 ∧ fit q n % 16 + n ≤ 16 := by
  unfold fit
  by_cases h : 16 < q % 16 + n
  · rw [if_pos h]; omega
  · rw [if_neg h]; omega
theorem ly_le (s b : Int32) (n q : Nat) (hn : n ≤ 16) (h0 : s = 0 → n = 0) : q ≤ lyP s b n q ∧ lyP s b n q + n ≤ lyN s b n q ∧ lyN s b n q ≤ q + 60 := by
  have f := fit_le q n hn
  have f2 := fit_le (fit q n + n) 5 (by omega)
  unfold lyN lyP
  by_cases h1 : s = 3 ∨ s = 4 ∨ s = 6
  · rw [if_pos h1, if_pos h1]; omega
  · rw [if_neg h1, if_neg h1]
    by_cases h2 : s = 0 ∧ b = 1
    · have := h0 h2.1
      rw [if_pos h2, if_neg (by rw [h2.1]; decide)]; omega
    · rw [if_neg h2]
      by_cases h7 : s = 7
      · rw [if_pos h7]; omega
      · rw [if_neg h7]; omega
theorem nx_le {s b : Nat → Int32} {ln : Nat → Nat} {m : Nat} (hn : ∀ k, k < m → ln k ≤ 16 ∧ (s k = 0 → ln k = 0)) : ∀ k, k ≤ m → nx s b ln k ≤ 60 * k := by
  intro k
  induction k with
  | zero => intro _; exact Nat.le_refl 0
  | succ k ih =>
    intro h
    have := ih (by omega)
    have h1 := hn k (by omega)
    have := (ly_le (s k) (b k) (ln k) (nx s b ln k) h1.1 h1.2).2.2
    rw [nx]; omega
theorem nx_mono {s b : Nat → Int32} {ln : Nat → Nat} {m : Nat} (hn : ∀ k, k < m → ln k ≤ 16 ∧ (s k = 0 → ln k = 0)) : ∀ d k, k + d ≤ m → nx s b ln k ≤ nx s b ln (k + d) := by
  intro d
  induction d with
  | zero => intro k _; exact Nat.le_refl _
  | succ d ih =>
    intro k h
    have := ih k (by omega)
    have h1 := hn (k + d) (by omega)
    have := (ly_le (s (k + d)) (b (k + d)) (ln (k + d)) (nx s b ln (k + d)) h1.1 h1.2)
    rw [show k + (d + 1) = (k + d) + 1 from rfl, nx]; omega
theorem s2_tw (σ : St) (c k : Nat) (v w : Int32) : s2 (s2 σ c k v) c k w = s2 σ c k w := by
  funext a j
  by_cases h : a = c
  · subst h
    rw [s2_row, s2_row, s2_row, upd_at, upd_at, upd_at]
    by_cases h2 : j = k
    · rw [if_pos h2, if_pos h2]
    · rw [if_neg h2, if_neg h2, if_neg h2]
  · rw [s2_ne h, s2_ne h, s2_ne h]
section
variable {σ : St} {q n : Nat}
theorem c_left16 (h : σ 28 6 = nI q) (hq : q < 2 ^ 30) : Builder_leftInBundle 28 σ = some (nI (16 - q % 16), σ) := by
  unfold Builder_leftInBundle
  rw [h, rem_16 q (by omega), show (16 : Int32) - nI (q % 16) = nI (16 - q % 16) from nI_sub (a := 16) (by omega) (by decide)]
theorem c_layP (h : σ 28 6 = nI q) (hq : q < 2 ^ 29) (hn : n ≤ 16) : Builder_layPiece 28 (nI n) σ = some (nI (fit q n), s2 σ 28 6 (nI (fit q n + n))) := by
  unfold Builder_layPiece fit
  rw [c_left16 h (by omega), cl_of]
  by_cases c : 16 < q % 16 + n
  · rw [if_neg (fun x => absurd ((nI_le' (by omega) (by omega)).mp x) (by omega)), c_left16 h (by omega), cl_of, nm_of, h, nI_add, if_pos c]
    unfold Builder_layPiece_B21
    rw [s2_row, upd_s, nm_of, nm_of, s2_tw, nI_add, show q + (16 - q % 16) = q / 16 * 16 + 16 by omega]
  · rw [if_pos ((nI_le' (by omega) (by omega)).mpr (by omega)), if_neg c]
    unfold Builder_layPiece_B21
    rw [h, nm_of, nm_of, nI_add]
theorem c_layL (h : σ 28 6 = nI q) (hq : q < 2 ^ 29) (hn : n ≤ 16) : Builder_layLast 28 (nI n) σ = some (nI (fit q n / 16 * 16 + 16 - n), s2 σ 28 6 (nI (fit q n / 16 * 16 + 16))) := by
  unfold Builder_layLast fit
  rw [c_left16 h (by omega), cl_of]
  by_cases c : 16 < q % 16 + n
  · rw [if_neg (fun x => absurd ((nI_le' (by omega) (by omega)).mp x) (by omega)), c_left16 h (by omega), cl_of, nm_of, h, nI_add, if_pos c]
    unfold Builder_layLast_B21
    have e6 : ∀ v, s2 σ 28 6 v 28 6 = v := fun v => by rw [s2_row, upd_s]
    rw [c_left16 (q := q + (16 - q % 16)) (by rw [s2_row, upd_s]) (by omega), cl_of, nm_of, e6, nI_add, s2_tw, e6, nI_sub (by omega) (by omega), show q + (16 - q % 16) + (16 - (q + (16 - q % 16)) % 16) = (q / 16 * 16 + 16) / 16 * 16 + 16 by omega]
  · rw [if_pos ((nI_le' (by omega) (by omega)).mpr (by omega)), if_neg c]
    unfold Builder_layLast_B21
    rw [c_left16 h (by omega), cl_of, nm_of, h, nI_add, s2_row, upd_s, nI_sub (by omega) (by omega), show q + (16 - q % 16) = q / 16 * 16 + 16 by omega]
end
section
variable {m : Nat} {σ : St} {ln : Nat → Nat}
/-- THE DRAFT of the class: how many, how long -/
def CD (m : Nat) (ln : Nat → Nat) (σ : St) : Prop := m ≤ 120 ∧ σ 15 4 = nI m ∧ ∀ k, k < m → σ 32 k = nI (ln k) ∧ ln k ≤ 16 ∧ (σ 16 k = 0 → ln k = 0)
theorem c_has (hm : m ≤ 120) (h : σ 15 4 = nI m) {k : Nat} (hk : k < m) : Program_hasItem 15 (nI k) σ = some (1, σ) := by
  unfold Program_hasItem
  rw [if_neg (nI_pos (by omega)), h, if_neg (fun x => absurd ((nI_le' (by omega) (by omega)).mp x) (by omega)), if_neg (lf_nle 120 120 k rfl (by omega) (by decide))]
theorem c_mkd (hm : m ≤ 120) (h : σ 15 4 = nI m) {k : Nat} (hk : k < m) : Program_isMarked 15 (nI k) σ = some (if σ 16 k = 0 ∧ σ 18 k = 1 then 1 else 0, σ) := by
  unfold Program_isMarked
  rw [c_has hm h hk, cl_of, if_neg (by decide), cc_15_0, cc_15_2, ld_nI (by omega) (by decide), ld_nI (by omega) (by decide)]
  by_cases c1 : σ 16 k = 0
  · rw [if_neg (not_not_intro c1)]
    by_cases c2 : σ 18 k = 1
    · rw [if_neg (not_not_intro c2), if_pos ⟨c1, c2⟩]
    · rw [if_pos c2, if_neg (fun z => c2 z.2)]
  · rw [if_pos c1, if_neg (fun z => c1 z.1)]
theorem c_psh (hm : m ≤ 120) (h : σ 15 4 = nI m) {k : Nat} (hk : k < m) : Program_pushes 15 (nI k) σ = some (if σ 16 k = 3 ∨ σ 16 k = 4 ∨ σ 16 k = 6 then 1 else 0, σ) := by
  unfold Program_pushes
  rw [c_has hm h hk, cl_of, if_neg (by decide), cc_15_0, ld_nI (by omega) (by decide), ld_nI (by omega) (by decide), ld_nI (by omega) (by decide)]
  by_cases c1 : σ 16 k = 3
  · rw [if_pos c1, if_pos (Or.inl c1)]
  · rw [if_neg c1]
    by_cases c2 : σ 16 k = 4
    · rw [if_pos c2, if_pos (Or.inr (Or.inl c2))]
    · rw [if_neg c2]
      by_cases c3 : σ 16 k = 6
      · rw [if_neg (not_not_intro c3), if_pos (Or.inr (Or.inr c3))]
      · rw [if_pos c3, if_neg (fun z => by rcases z with z | z | z; exact c1 z; exact c2 z; exact c3 z)]
theorem c_layI (H : CD m ln σ) {k q : Nat} (hk : k < m) (h : σ 28 6 = nI q) (hq : q < 2 ^ 28) : Builder_layItem 28 (nI k) σ = some (nI (lyP (σ 16 k) (σ 18 k) (ln k) q), s2 σ 28 6 (nI (lyN (σ 16 k) (σ 18 k) (ln k) q))) := by
  obtain ⟨hm, hc, hl⟩ := H
  obtain ⟨l1, l2, l3⟩ := hl k hk
  have f := fit_le q (ln k) l2
  unfold Builder_layItem
  rw [cc_28_1, cc_28_5, c_psh hm hc hk, cl_of, c_mkd hm hc hk, cl_of, ld_nI (by omega) (by decide), l1]
  unfold lyN lyP
  by_cases c1 : σ 16 k = 3 ∨ σ 16 k = 4 ∨ σ 16 k = 6
  · rw [if_pos c1, if_neg (by decide), if_pos c1, if_pos c1, c_layL h (by omega) l2, cl_of]
  · rw [if_neg c1, if_pos rfl, if_neg c1, if_neg c1]
    have b52 : ∀ q' σ', σ' 28 6 = nI q' → q' < 2 ^ 28 + 100 → σ' 32 = σ 32 → σ' 16 = σ 16 → Builder_layItem_B52 28 (nI k) σ' = some (nI (fit q' (ln k)), s2 σ' 28 6 (nI (if σ 16 k = 7 then fit (fit q' (ln k) + ln k) 5 + 5 else fit q' (ln k) + ln k))) := by
      intro q' σ' h' hq' e32 e16
      have f' := fit_le q' (ln k) l2
      unfold Builder_layItem_B52
      rw [cc_28_1, cc_28_5, cc_15_0, ld_nI (by omega) (by decide), e32, l1, c_layP h' (by omega) l2, cl_of, ld_nI (by omega) (by decide), s2_ne (by decide), e16]
      by_cases c7 : σ 16 k = 7
      · rw [if_neg (not_not_intro c7), show (5 : Int32) = nI 5 from rfl, c_layP (q := fit q' (ln k) + ln k) (by rw [s2_row, upd_s]) (by omega) (by omega), cl_of, s2_tw, if_pos c7]
      · rw [if_pos c7, if_neg c7]
    by_cases c2 : σ 16 k = 0 ∧ σ 18 k = 1
    · have l0 := l3 c2.1
      rw [if_pos c2, if_neg (by decide), nm_of, h, show ((nI q + 16 - 1) / 16) * 16 = nI ((q + 15) / 16 * 16) by rw [nI_16, show nI (q + 16) - 1 = nI (q + 16 - 1) from nI_sub (b := 1) (by omega) (by omega), nI_d16 _ (by omega), nI_m16, show q + 16 - 1 = q + 15 from by omega], b52 ((q + 15) / 16 * 16) _ (by rw [s2_row, upd_s]) (by omega) (s2_ne (by decide)) (s2_ne (by decide)), s2_tw, if_pos c2, l0]
      have f0 : fit ((q + 15) / 16 * 16) 0 = (q + 15) / 16 * 16 := by unfold fit; rw [if_neg (by omega)]
      rw [f0, if_neg (by rw [c2.1]; decide), if_neg (by rw [c2.1]; decide)]
    · rw [if_neg c2, if_pos rfl, b52 q σ h (by omega) rfl rfl, if_neg c2]
def CB (σ σ' : St) : Prop := (∀ c, c ≠ 15 → c ≠ 19 → c ≠ 28 → σ' c = σ c) ∧ (∀ j, j ≠ 5 → σ' 15 j = σ 15 j) ∧ (∀ j, j ≠ 6 → σ' 28 j = σ 28 j)
theorem c_lay7 {s b : Nat → Int32} (hs : ∀ k, k < m → ln k ≤ 16 ∧ (s k = 0 → ln k = 0)) : ∀ (d N k : Nat) (σ : St), m ≤ k + d → k ≤ m → d < N → CD m ln σ → σ 16 = s → σ 18 = b → σ 28 6 = nI (nx s b ln k) → wv (Builder_layAll_B7 N 28 (nI k) σ) (fun σ' => CB σ σ' ∧ σ' 28 6 = nI (nx s b ln m) ∧ σ' 15 5 = nI (nx s b ln m) ∧ ∀ j, σ' 19 j = if k ≤ j ∧ j < m then nI (plc s b ln j) else σ 19 j) := by
  intro d
  induction d with
  | zero =>
    intro N k σ h1 h2 h3 H e16 e18 h
    obtain ⟨N, rfl⟩ : ∃ n, N = n + 1 := ⟨N - 1, by omega⟩
    have ek : k = m := by omega
    subst ek
    rw [Builder_layAll_B7, cc_28_1, H.2.1, if_pos ((nI_le' (by have := H.1; omega) (by have := H.1; omega)).mpr (Nat.le_refl _)), nm_of]
    refine wv_some.mpr ⟨⟨fun c x1 x2 x3 => s2_ne x1, fun j hj => by rw [s2_row, upd_ne hj], fun j hj => by rw [s2_ne (by decide)]⟩, by rw [s2_ne (by decide)]; exact h, by rw [s2_row, upd_s]; exact h, fun j => by rw [if_neg (by omega), s2_ne (by decide)]⟩
  | succ d ih =>
    intro N k σ h1 h2 h3 H e16 e18 h
    obtain ⟨N, rfl⟩ : ∃ n, N = n + 1 := ⟨N - 1, by omega⟩
    have hm := H.1
    by_cases c : k < m
    · have hle := nx_le (b := b) hs k (by omega)
      rw [Builder_layAll_B7, cc_28_1, H.2.1, if_neg (fun x => absurd ((nI_le' (by omega) (by omega)).mp x) (by omega)), if_neg (lf_nle 120 120 k rfl (by omega) (by decide)), c_layI H c h (by omega), cl_of, cc_15_3, sa_nI (by omega) (by decide), nm_of, nI_1, e16, e18]
      refine wv_mono (ih N (k + 1) _ (by omega) (by omega) (by omega) ⟨hm, by rw [s2_ne (by decide), s2_ne (by decide)]; exact H.2.1, fun j hj => ?_⟩ (by rw [s2_ne (by decide), s2_ne (by decide)]; exact e16) (by rw [s2_ne (by decide), s2_ne (by decide)]; exact e18) (by rw [s2_ne (by decide), s2_row, upd_s]; rfl)) fun σ' hh => ?_
      · rw [s2_ne (by decide), s2_ne (by decide), s2_ne (by decide), s2_ne (by decide)]; exact H.2.2 j hj
      · obtain ⟨⟨g1, g2, g3⟩, g4, g5, g6⟩ := hh
        refine ⟨⟨fun c x1 x2 x3 => by rw [g1 c x1 x2 x3, s2_ne x2, s2_ne x3], fun j hj => by rw [g2 j hj, s2_ne (by decide), s2_ne (by decide)], fun j hj => by rw [g3 j hj, s2_ne (by decide), s2_row, upd_ne hj]⟩, g4, g5, fun j => ?_⟩
        rw [g6 j]
        by_cases e1 : k + 1 ≤ j ∧ j < m
        · rw [if_pos e1, if_pos (by omega)]
        · rw [if_neg e1, s2_row, upd_at, s2_ne (by decide)]
          by_cases e2 : j = k
          · rw [if_pos e2, if_pos (by omega), e2]; rfl
          · rw [if_neg e2, if_neg (by omega)]
    · have ek : k = m := by omega
      subst ek
      rw [Builder_layAll_B7, cc_28_1, H.2.1, if_pos ((nI_le' (by omega) (by omega)).mpr (Nat.le_refl _)), nm_of]
      refine wv_some.mpr ⟨⟨fun c x1 x2 x3 => s2_ne x1, fun j hj => by rw [s2_row, upd_ne hj], fun j hj => by rw [s2_ne (by decide)]⟩, by rw [s2_ne (by decide)]; exact h, by rw [s2_row, upd_s]; exact h, fun j => by rw [if_neg (by omega), s2_ne (by decide)]⟩
theorem c_layA (H : CD m ln σ) : wv (Builder_layAll 28 σ) (fun σ' => CB σ σ' ∧ σ' 28 6 = nI (nx (σ 16) (σ 18) ln m) ∧ σ' 15 5 = nI (nx (σ 16) (σ 18) ln m) ∧ ∀ j, σ' 19 j = if j < m then nI (plc (σ 16) (σ 18) ln j) else σ 19 j) := by
  unfold Builder_layAll
  rw [nm_of]
  have hm := H.1
  refine wv_mono (c_lay7 (m := m) (ln := ln) (s := σ 16) (b := σ 18) (fun k hk => (H.2.2 k hk).2) m FU 0 _ (by omega) (by omega) (FU_big (by omega)) ⟨hm, by rw [s2_ne (by decide)]; exact H.2.1, fun j hj => by rw [s2_ne (by decide), s2_ne (by decide)]; exact H.2.2 j hj⟩ (s2_ne (by decide)) (s2_ne (by decide)) (by rw [s2_row, upd_s]; rfl)) fun σ' hh => ?_
  obtain ⟨⟨g1, g2, g3⟩, g4, g5, g6⟩ := hh
  refine ⟨⟨fun c x1 x2 x3 => by rw [g1 c x1 x2 x3, s2_ne x3], fun j hj => by rw [g2 j hj, s2_ne (by decide)], fun j hj => by rw [g3 j hj, s2_row, upd_ne hj]⟩, g4, g5, fun j => ?_⟩
  rw [g6 j, s2_ne (by decide)]
  by_cases e : j < m
  · rw [if_pos ⟨by omega, e⟩, if_pos e]
  · rw [if_neg (by omega), if_neg e]
end
