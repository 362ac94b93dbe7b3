/-! ===== which ITEM is which LABEL, and the FAULTS of THE DRAFT ===== -/
def FLr (lo hi : Nat) (s a : Nat → Int32) (l : Nat) (v : Int32) : Prop := (v = -1 ∧ ∀ j, lo ≤ j → j < hi → s j = 0 → ¬ a j = nI l) ∨ ∃ j, lo ≤ j ∧ j < hi ∧ v = nI j ∧ s j = 0 ∧ a j = nI l ∧ ∀ j', lo ≤ j' → j' < j → s j' = 0 → ¬ a j' = nI l
theorem fl_un {lo hi : Nat} {s a : Nat → Int32} {l : Nat} {v w : Int32} (h : FLr lo hi s a l v) (k : FLr lo hi s a l w) : v = w := by
  rcases h with ⟨e1, n1⟩ | ⟨j, a1, a2, e1, a3, a4, a5⟩
  · rcases k with ⟨e2, _⟩ | ⟨j', b1, b2, e2, b3, b4, b5⟩
    · rw [e1, e2]
    · exact absurd b4 (n1 j' b1 b2 b3)
  · rcases k with ⟨e2, n2⟩ | ⟨j', b1, b2, e2, b3, b4, b5⟩
    · exact absurd a4 (n2 j a1 a2 a3)
    · rcases Nat.lt_trichotomy j j' with q | q | q
      · exact absurd a4 (b5 j a1 q a3)
      · rw [e1, e2, q]
      · exact absurd b4 (a5 j' b1 q b3)
theorem fl_up {k : Nat} {s a : Nat → Int32} {l : Nat} {v : Int32} (hk : k < 2 ^ 31) (h : FLr 0 k s a l v) : FLr 0 (k + 1) s a l (if s k = 0 ∧ a k = nI l ∧ v = -1 then nI k else v) := by
  by_cases c : s k = 0 ∧ a k = nI l ∧ v = -1
  · rw [if_pos c]
    rcases h with ⟨_, n1⟩ | ⟨j, _, a2, e1, _⟩
    · exact Or.inr ⟨k, Nat.zero_le _, by omega, rfl, c.1, c.2.1, fun j' x y => n1 j' x y⟩
    · exfalso; rw [c.2.2] at e1; exact nI_pos (n := j) (by omega) (by rw [← e1]; decide)
  · rw [if_neg c]
    rcases h with ⟨e1, n1⟩ | ⟨j, a1, a2, e1, a3, a4, a5⟩
    · refine Or.inl ⟨e1, fun j x y z w => ?_⟩
      by_cases e : j = k
      · subst e; exact c ⟨z, w, e1⟩
      · exact n1 j x (by omega) z w
    · exact Or.inr ⟨j, a1, by omega, e1, a3, a4, a5⟩
theorem fl_dn {k m : Nat} {s a : Nat → Int32} {l : Nat} {v : Int32} (hk : k < m) (h : FLr (k + 1) m s a l v) : FLr k m s a l (if s k = 0 ∧ a k = nI l then nI k else v) := by
  by_cases c : s k = 0 ∧ a k = nI l
  · rw [if_pos c]
    exact Or.inr ⟨k, Nat.le_refl _, hk, rfl, c.1, c.2, fun j' x y => by omega⟩
  · rw [if_neg c]
    rcases h with ⟨e1, n1⟩ | ⟨j, a1, a2, e1, a3, a4, a5⟩
    · refine Or.inl ⟨e1, fun j x y z w => ?_⟩
      by_cases e : j = k
      · subst e; exact c ⟨z, w⟩
      · exact n1 j (by omega) y z w
    · refine Or.inr ⟨j, by omega, a2, e1, a3, a4, fun j' x y z w => ?_⟩
      by_cases e : j' = k
      · subst e; exact c ⟨z, w⟩
      · exact a5 j' (by omega) y z w
section
variable {m : Nat} {s a b : Nat → Int32}
/-- what the class's LABELS need -/
def LbO (m : Nat) (s a : Nat → Int32) : Prop := ∀ k, k < m → s k = 0 → ∃ l, l < 40 ∧ a k = nI l
theorem c_fl23 (hL : LbO m s a) : ∀ (d N k : Nat) (σ : St), m ≤ k + d → k ≤ m → m ≤ 120 → d < N → σ 15 4 = nI m → σ 16 = s → σ 17 = a → (∀ l, l < 40 → FLr 0 k s a l (σ 26 l)) → wv (Program_findLabels_B23 N 15 (nI k) σ) (fun σ' => (∀ c, c ≠ 26 → σ' c = σ c) ∧ ∀ l, l < 40 → FLr 0 m s a l (σ' 26 l)) := by
  intro d
  induction d with
  | zero =>
    intro N k σ h1 h2 hm h3 hc e16 e17 h
    obtain ⟨N, rfl⟩ : ∃ n, N = n + 1 := ⟨N - 1, by omega⟩
    have ek : k = m := by omega
    subst ek
    rw [Program_findLabels_B23, hc, if_pos ((nI_le' (by omega) (by omega)).mpr (Nat.le_refl _))]
    exact wv_some.mpr ⟨fun _ _ => rfl, h⟩
  | succ d ih =>
    intro N k σ h1 h2 hm h3 hc e16 e17 h
    obtain ⟨N, rfl⟩ : ∃ n, N = n + 1 := ⟨N - 1, by omega⟩
    rw [Program_findLabels_B23, hc]
    by_cases c : k < m
    · rw [if_neg (fun x => absurd ((nI_le' (by omega) (by omega)).mp x) (by omega)), c_has hm hc c, cl_of, if_neg (by decide), cc_15_0, cc_15_1, cc_15_12]
      have l16 : ∀ f : Int32 → Option St, ld σ 16 120 (nI k) f = f (s k) := fun f => by rw [ld_nI (by omega) (by decide), e16]
      have l17 : ∀ f : Int32 → Option St, ld σ 17 120 (nI k) f = f (a k) := fun f => by rw [ld_nI (by omega) (by decide), e17]
      rw [l16]
      have same : (∀ l, l < 40 → (if s k = 0 ∧ a k = nI l ∧ σ 26 l = -1 then nI k else σ 26 l) = σ 26 l) → wv (Program_findLabels_B23 N 15 (nI (k + 1)) σ) (fun σ' => (∀ c, c ≠ 26 → σ' c = σ c) ∧ ∀ l, l < 40 → FLr 0 m s a l (σ' 26 l)) := by
        intro hh
        exact ih N (k + 1) σ (by omega) (by omega) hm (by omega) hc e16 e17 (fun l hl => by have := fl_up (by omega) (h l hl); rw [hh l hl] at this; exact this)
      by_cases z : s k = 0
      · obtain ⟨l, hl, ea⟩ := hL k c z
        have isl : isLb (a k) := by rw [ea]; exact ⟨nI_pos (by omega), lf_lt 40 40 l rfl hl (by decide)⟩
        rw [if_neg (not_not_intro z), l17, hl_eq, if_pos isl, cl_of, if_neg (by decide), l17, ea, ld_nI hl (by decide)]
        by_cases v : σ 26 l = -1
        · rw [if_neg (not_not_intro v), l17, ea, sa_nI hl (by decide), nm_of, nI_1]
          refine wv_mono (ih N (k + 1) _ (by omega) (by omega) hm (by omega) (by rw [s2_ne (by decide)]; exact hc) (by rw [s2_ne (by decide)]; exact e16) (by rw [s2_ne (by decide)]; exact e17) (fun l' hl' => ?_)) fun σ' hh => ⟨fun c hc => by rw [hh.1 c hc, s2_ne hc], hh.2⟩
          have := fl_up (by omega) (h l' hl')
          rw [s2_row, upd_at]
          by_cases e : l' = l
          · subst e; rw [if_pos ⟨z, ea, v⟩] at this; rw [if_pos rfl]; exact this
          · rw [if_neg (show ¬ (s k = 0 ∧ a k = nI l' ∧ σ 26 l' = -1) from fun y => e ((nI_inj (by omega) (by omega)).mp (y.2.1.symm.trans ea)))] at this
            rw [if_neg e]; exact this
        · rw [if_pos v, nm_of, nI_1]
          refine same fun l' hl' => if_neg fun y => ?_
          have : l' = l := (nI_inj (by omega) (by omega)).mp (y.2.1.symm.trans ea)
          rw [this] at y; exact v y.2.2
      · rw [if_pos z, nm_of, nI_1]
        exact same fun l' hl' => if_neg fun y => z y.1
    · have ek : k = m := by omega
      subst ek
      rw [if_pos ((nI_le' (by omega) (by omega)).mpr (Nat.le_refl _))]
      exact wv_some.mpr ⟨fun _ _ => rfl, h⟩
theorem c_fl2 (hL : LbO m s a) (hm : m ≤ 120) : ∀ (d N k : Nat) (σ : St), 40 ≤ k + d → k ≤ 40 → d < N → σ 15 4 = nI m → σ 16 = s → σ 17 = a → (∀ l, l < k → σ 26 l = -1) → wv (Program_findLabels_B2 N 15 (nI k) σ) (fun σ' => (∀ c, c ≠ 26 → σ' c = σ c) ∧ ∀ l, l < 40 → FLr 0 m s a l (σ' 26 l)) := by
  have fin : ∀ σ : St, σ 15 4 = nI m → σ 16 = s → σ 17 = a → (∀ l, l < 40 → σ 26 l = -1) → wv (Program_findLabels_B23 FU 15 0 σ) (fun σ' => (∀ c, c ≠ 26 → σ' c = σ c) ∧ ∀ l, l < 40 → FLr 0 m s a l (σ' 26 l)) := fun σ hc e16 e17 h => c_fl23 hL m FU 0 σ (by omega) (by omega) hm (FU_big (by omega)) hc e16 e17 (fun l hl => Or.inl ⟨h l hl, fun j x y => by omega⟩)
  intro d
  induction d with
  | zero =>
    intro N k σ h1 h2 h3 hc e16 e17 h
    obtain ⟨N, rfl⟩ : ∃ n, N = n + 1 := ⟨N - 1, by omega⟩
    rw [Program_findLabels_B2, if_pos (lf_le 40 40 k rfl (by omega) (by omega))]
    exact fin σ hc e16 e17 (fun l hl => h l (by omega))
  | succ d ih =>
    intro N k σ h1 h2 h3 hc e16 e17 h
    obtain ⟨N, rfl⟩ : ∃ n, N = n + 1 := ⟨N - 1, by omega⟩
    rw [Program_findLabels_B2]
    by_cases c : 40 ≤ k
    · rw [if_pos (lf_le 40 40 k rfl c (by omega))]
      exact fin σ hc e16 e17 (fun l hl => h l (by omega))
    · rw [if_neg (lf_nle 40 40 k rfl (by omega) (by decide)), cc_15_12, sa_nI (by omega) (by decide), nm_of, nI_1]
      refine wv_mono (ih N (k + 1) _ (by omega) (by omega) (by omega) (by rw [s2_ne (by decide)]; exact hc) (by rw [s2_ne (by decide)]; exact e16) (by rw [s2_ne (by decide)]; exact e17) (fun l hl => ?_)) fun σ' hh => ⟨fun c hc => by rw [hh.1 c hc, s2_ne hc], hh.2⟩
      rw [s2_row, upd_at]
      by_cases e : l = k
      · rw [if_pos e]
      · rw [if_neg e]; exact h l (by omega)
theorem c_labels {σ : St} (hL : LbO m (σ 16) (σ 17)) (hm : m ≤ 120) (hc : σ 15 4 = nI m) : wv (Program_findLabels 15 σ) (fun σ' => (∀ c, c ≠ 26 → σ' c = σ c) ∧ ∀ l, l < 40 → FLr 0 m (σ 16) (σ 17) l (σ' 26 l)) := c_fl2 hL hm 40 FU 0 σ (by omega) (by omega) (FU_big (by omega)) hc rfl rfl (fun l hl => by omega)
/-- the FAULT of ITEM k -/
def flt (s a b lb : Nat → Int32) (k : Nat) : Int32 :=
  if s k = 0 then (if lb (a k).toNatClampNeg = nI k then 0 else 1) else if s k = 1 ∨ s k = 2 ∨ s k = 3 then (if lb (a k).toNatClampNeg = -1 then 2 else 0)
  else if s k = 8 then (if lb (a k).toNatClampNeg = -1 then 2 else if b (lb (a k).toNatClampNeg).toNatClampNeg = 1 then 0 else 3) else 0
end
theorem rem_k (a : Nat) (ha : a < 2 ^ 31) : rem (nI a) 1000 = nI (a % 1000) := by
  unfold rem
  rw [show nI a / 1000 = nI (a / 1000) from nI_div a 1000 ha (by decide), show nI (a / 1000) * 1000 = nI (a / 1000 * 1000) from nI_mul _ 1000, nI_sub (by omega) ha]; congr 1; omega
