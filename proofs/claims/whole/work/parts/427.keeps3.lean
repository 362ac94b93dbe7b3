section
variable {v0 q t n : Nat} {row : Nat → Int32} {σ0 σ τ : St}
theorem plt_eq (o : Int32 × Nat × (Nat → Int32)) : plt row n o = if o.1 = 0 then pt1 o.2.2 (ptl row n o.2.2 n 0) else (o.1, nI o.2.1, o.2.2) := by
  unfold plt pt1; rfl
theorem kp_all (H : KH v0 q t n) (hB : ∀ k, k < n → BY (row k)) (hn : n ≤ 1024) (h16 : n % 16 = 0) : ∀ (k N b : Nat) (M : Nat → Int32) (σ : St), n ≤ b + 16 * k → b % 16 = 0 → b ≤ n → k < N → KI q t n row M σ → KF v0 t σ0 σ → pal row n k b M = pal row n 64 0 m0 →
    wp (Mo_keeps_B50 N v0 q (nI n) t (nI b) σ) (KR v0 q t n row (plt row n (pal row n 64 0 m0)) σ0) := by
  have fin : ∀ (b : Nat) (M : Nat → Int32) (σ : St), KI q t n row M σ → KF v0 t σ0 σ → (0, b, M) = pal row n 64 0 m0 → wp (Mo_keeps_B310 FU v0 q (nI n) t 0 σ) (KR v0 q t n row (plt row n (pal row n 64 0 m0)) σ0) := by
    intro b M σ hI hK hE
    have hS := pal_saf hB h16 hn (by rw [← hE])
    rw [← hE] at hS ⊢
    rw [plt_eq, if_pos rfl]
    exact kp_target (b := b) H hB hn hS n FU 0 σ (by omega) (by omega) (by have : FU = 20000 := rfl; omega) hI hK
  intro k
  induction k with
  | zero =>
    intro N b M σ h1 h2 h3 h4 hI hK hE
    obtain ⟨N, rfl⟩ : ∃ N', N = N' + 1 := ⟨N - 1, by omega⟩
    rw [Mo_keeps_B50, if_pos ((nI_le' (by omega) (by omega)).mpr (by omega))]
    exact fin b M σ hI hK hE
  | succ k ih =>
    intro N b M σ h1 h2 h3 h4 hI hK hE
    obtain ⟨N, rfl⟩ : ∃ N', N = N' + 1 := ⟨N - 1, by omega⟩
    rw [Mo_keeps_B50]
    by_cases hb : n ≤ b
    · rw [if_pos ((nI_le' (by omega) (by omega)).mpr hb)]
      rw [pal, if_pos hb] at hE
      exact fin b M σ hI hK hE
    · rw [if_neg (fun h => hb ((nI_le' (by omega) (by omega)).mp h))]
      rw [pal, if_neg hb] at hE
      refine kp_loop H hB hn (by omega) 16 FU b (-1) (-1) M σ (by omega) (by omega) (by decide) (Or.inl ⟨rfl, rfl⟩) hI hK ?_ ?_
      · intro c τ g1 g2
        rw [if_pos c] at hE
        exact ih N (b + 16) _ τ (by omega) (by omega) (by omega) (by omega) g1 g2 hE
      · intro c τ g1 g2 g3 g4
        rw [if_neg c] at hE
        rw [← hE, plt_eq, if_neg c]
        exact ⟨g2, g1, by rw [if_neg c], g3, g4⟩
theorem kp_clear (H : KH v0 q t n) (hn : n ≤ 1024) {Q : Int32 → St → Prop} (hQ : ∀ τ, KF v0 t σ0 τ → KI q t n row m0 τ → wp (Mo_keeps_B50 FU v0 q (nI n) t 0 τ) Q) : ∀ (k N p : Nat) (σ : St), n ≤ p + k → p ≤ n → k < N → KF v0 t σ0 σ → σ q = row → (∀ j, j < p → σ t j = 0) →
    wp (Mo_keeps_B30 N v0 q (nI n) t (nI p) σ) Q := by
  intro k
  induction k with
  | zero =>
    intro N p σ h1 h2 h3 hK hr hz
    obtain ⟨N, rfl⟩ : ∃ N', N = N' + 1 := ⟨N - 1, by omega⟩
    rw [Mo_keeps_B30, if_pos ((nI_le' (by omega) (by omega)).mpr (by omega))]
    exact hQ σ hK ⟨hr, fun j hj => hz j (by omega)⟩
  | succ k ih =>
    intro N p σ h1 h2 h3 hK hr hz
    obtain ⟨N, rfl⟩ : ∃ N', N = N' + 1 := ⟨N - 1, by omega⟩
    rw [Mo_keeps_B30]
    by_cases hp : n ≤ p
    · rw [if_pos ((nI_le' (by omega) (by omega)).mpr (by omega))]
      exact hQ σ hK ⟨hr, fun j hj => hz j (by omega)⟩
    · rw [if_neg (fun h => hp ((nI_le' (by omega) (by omega)).mp h)), sr_nI H.2.2.2.1 (by have := H.2.2.2.2.1; omega) H.2.2.2.2.2, nm_of, nI_1]
      refine ih N (p + 1) _ (by omega) (by omega) (by omega) (kf_t H.2.1 hK) (by rw [s2_ne H.2.2.1.symm]; exact hr) (fun j hj => ?_)
      rw [s2_at, if_pos rfl]
      by_cases c : j = p
      · rw [if_pos c]
      · rw [if_neg c]; exact hz j (by omega)
theorem kp_keeps (hH : n ≤ 1024 → KH v0 q t n) (hN : n ≤ 1100) (hB : ∀ k, k < n → BY (row k)) (hr : σ q = row) :
    wp (Mo_keeps v0 q (nI n) t σ) (fun a τ => KF v0 t σ τ ∧ a = (if (pol row n).1 = 0 then 1 else 0) ∧ τ v0 3 = (pol row n).1 ∧ τ v0 4 = (pol row n).2.1 ∧ ((pol row n).1 = 1 ∨ KI q t n row (pol row n).2.2 τ)) := by
  unfold Mo_keeps pol
  by_cases c1 : n < 16
  · rw [if_pos (lf_lt 16 16 n rfl c1 (by decide)), if_pos (Or.inl c1)]
    unfold Mo_faults
    rw [nm_of, nm_of, cl_of, zb_0]
    exact wp_some.mpr ⟨kf_34 kf_rf, rfl, at_3.1, at_3.2, Or.inl rfl⟩
  · rw [if_neg (lf_nlt 16 16 n rfl (by omega) (by omega))]
    by_cases c2 : 1024 < n
    · rw [if_pos (lf_gt 1024 1024 n rfl c2 (by omega)), if_pos (Or.inr (Or.inl c2))]
      unfold Mo_faults
      rw [nm_of, nm_of, cl_of, zb_0]
      exact wp_some.mpr ⟨kf_34 kf_rf, rfl, at_3.1, at_3.2, Or.inl rfl⟩
    · rw [if_neg (lf_ngt 1024 1024 n rfl (by omega) (by decide)), rem_16 n (by omega)]
      by_cases c3 : n % 16 = 0
      · rw [if_neg (show ¬ (n < 16 ∨ 1024 < n ∨ ¬ n % 16 = 0) by omega), if_pos (by rw [c3]; rfl)]
        have H := hH (by omega)
        refine kp_clear H (by omega) (σ0 := σ) (row := row) (fun τ g1 g2 => ?_) n FU 0 σ (by omega) (by omega) (by have : FU = 20000 := rfl; omega) kf_rf hr (fun j hj => by omega)
        refine wp_mono (kp_all H hB (by omega) c3 64 FU 0 m0 τ (by omega) (by omega) (by omega) (by decide) g2 g1 rfl) fun a τ' hh => ?_
        exact ⟨hh.1, hh.2.2.1, hh.2.2.2.1, hh.2.2.2.2, Or.inr hh.2.1⟩
      · rw [if_pos (Or.inr (Or.inr c3)), if_neg (fun h => c3 (by have := (nI_inj (b := 0) (by omega) (by decide)).mp h; exact this))]
        unfold Mo_faults
        rw [nm_of, nm_of, cl_of, zb_0]
        exact wp_some.mpr ⟨kf_34 kf_rf, rfl, at_3.1, at_3.2, Or.inl rfl⟩
/-- CODE that keeps the POLICY -/
def Cod (row : Nat → Int32) (n : Nat) (M : Nat → Int32) : Prop := 16 ≤ n ∧ n ≤ 1024 ∧ n % 16 = 0 ∧ Saf row n M ∧ Tgs row n M 0
theorem pol_ok (hB : ∀ k, k < n → BY (row k)) (h : (pol row n).1 = 0) : Cod row n (pol row n).2.2 ∧ (pol row n).2.1 = -1 := by
  unfold pol at h ⊢
  by_cases c : n < 16 ∨ 1024 < n ∨ ¬ n % 16 = 0
  · rw [if_pos c] at h; exact absurd h (show ¬ (1 : Int32) = 0 by decide)
  · rw [if_neg c] at h ⊢
    rw [plt_eq] at h ⊢
    by_cases c1 : (pal row n 64 0 m0).1 = 0
    · rw [if_pos c1] at h ⊢
      unfold pt1 at h ⊢
      by_cases c2 : (ptl row n (pal row n 64 0 m0).2.2 n 0).1 = 0
      · rw [if_pos c2]
        exact ⟨⟨by omega, by omega, by omega, pal_saf hB (by omega) (by omega) c1, ptl_ok n 0 (by omega) c2⟩, rfl⟩
      · rw [if_neg c2] at h; exact absurd h c2
    · rw [if_neg c1] at h; exact absurd h c1
end
