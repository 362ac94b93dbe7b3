def flR (T : Nat) (j : Nat) : Int32 := if T ≤ j then 244 else 144
section
variable {n T : Nat}
theorem c_fill17 (hn : n ≤ 1024) (hT : T < 2 ^ 30) : ∀ (e N k : Nat) (σ : St), n ≤ k + e → k ≤ n → e < N → σ 7 2 = nI n → wv (Strip_becomeFilling_B17 N 7 (nI T) (nI k) σ) (fun σ' => (∀ c, c ≠ 8 → σ' c = σ c) ∧ ∀ j, σ' 8 j = if k ≤ j ∧ j < n then flR T j else σ 8 j) := by
  intro e
  induction e with
  | zero =>
    intro N k σ h1 h2 h3 hc
    obtain ⟨N, rfl⟩ : ∃ n, N = n + 1 := ⟨N - 1, by omega⟩
    rw [Strip_becomeFilling_B17, hc, if_pos ((nI_le' (by omega) (by omega)).mpr (by omega))]
    exact wv_some.mpr ⟨fun _ _ => rfl, fun j => by rw [if_neg (by omega)]⟩
  | succ e ih =>
    intro N k σ h1 h2 h3 hc
    obtain ⟨N, rfl⟩ : ∃ n, N = n + 1 := ⟨N - 1, by omega⟩
    rw [Strip_becomeFilling_B17, hc]
    by_cases c : k < n
    · rw [if_neg (fun x => absurd ((nI_le' (by omega) (by omega)).mp x) (by omega)), cc_7_0, sa_nI (by omega) (by decide), sa_nI (by omega) (by decide), nm_of, nm_of, nI_1]
      have go : ∀ v, v = flR T k → wv (Strip_becomeFilling_B17 N 7 (nI T) (nI (k + 1)) (s2 σ 8 k v)) (fun σ' => (∀ c, c ≠ 8 → σ' c = σ c) ∧ ∀ j, σ' 8 j = if k ≤ j ∧ j < n then flR T j else σ 8 j) := by
        intro v hv
        refine wv_mono (ih N (k + 1) _ (by omega) (by omega) (by omega) (by rw [s2_ne (by decide)]; exact hc)) fun σ' hh => ⟨fun c hc => by rw [hh.1 c hc, s2_ne hc], fun j => ?_⟩
        rw [hh.2 j]
        by_cases e1 : k + 1 ≤ j ∧ j < n
        · rw [if_pos e1, if_pos (by omega)]
        · rw [if_neg e1, s2_row, upd_at]
          by_cases e2 : j = k
          · rw [if_pos e2, if_pos (by omega), hv, e2]
          · rw [if_neg e2, if_neg (by omega)]
      by_cases q : T ≤ k
      · rw [if_pos ((nI_le' (by omega) (by omega)).mpr q)]; exact go 244 (by unfold flR; rw [if_pos q])
      · rw [if_neg (fun x => q ((nI_le' (by omega) (by omega)).mp x))]; exact go 144 (by unfold flR; rw [if_neg q])
    · rw [if_pos ((nI_le' (by omega) (by omega)).mpr (by omega))]
      exact wv_some.mpr ⟨fun _ _ => rfl, fun j => by rw [if_neg (by omega)]⟩
theorem mxn (hn : n ≤ 1024) : mx 0 (mn (nI n) 1100) = nI n := by
  unfold mx mn
  rw [if_neg (show ¬ (1100 : Int32) < nI n from lf_ngt 1100 1100 n rfl (by omega) (by decide))]
  by_cases h : n = 0
  · subst h; rfl
  · rw [if_pos (lf_gt 0 0 n rfl (by omega) (by omega))]
theorem c_fill {σ : St} (hn : n ≤ 1024) (hT : T < 2 ^ 30) : wv (Strip_becomeFilling 7 (nI n) (nI T) σ) (fun σ' => (∀ c, c ≠ 7 → c ≠ 8 → σ' c = σ c) ∧ σ' 7 2 = nI n ∧ ∀ j, σ' 8 j = if j < n then flR T j else σ 8 j) := by
  unfold Strip_becomeFilling
  rw [mxn hn, nm_of]
  refine wv_mono (c_fill17 hn hT n FU 0 _ (by omega) (by omega) (FU_big (by omega)) (by rw [s2_row, upd_s])) fun σ' hh => ⟨fun c h1 h2 => by rw [hh.1 c h2, s2_ne h1], by rw [hh.1 7 (by decide), s2_row, upd_s], fun j => ?_⟩
  rw [hh.2 j, s2_ne (by decide)]
  by_cases q : j < n
  · rw [if_pos ⟨by omega, q⟩, if_pos q]
  · rw [if_neg (by omega), if_neg q]
theorem m_fill (hn : n ≤ 1024) (hT : T < 2 ^ 30) : ∀ (e N k : Nat) (τ : St), n ≤ k + e → k ≤ n → e < N → τ 67 22 = nI T → ∃ τ', Mo_build_B132 N 67 (nI n) (nI k) τ = Mo_build_B172 FU 67 (nI n) 0 τ' ∧ (∀ c, c ≠ 82 → τ' c = τ c) ∧ ∀ j, τ' 82 j = if k ≤ j ∧ j < n then flR T j else τ 82 j := by
  intro e
  induction e with
  | zero =>
    intro N k τ h1 h2 h3 hc
    obtain ⟨N, rfl⟩ : ∃ n, N = n + 1 := ⟨N - 1, by omega⟩
    rw [Mo_build_B132, if_pos ((nI_le' (by omega) (by omega)).mpr (by omega))]
    exact ⟨τ, rfl, fun _ _ => rfl, fun j => by rw [if_neg (by omega)]⟩
  | succ e ih =>
    intro N k τ h1 h2 h3 hc
    obtain ⟨N, rfl⟩ : ∃ n, N = n + 1 := ⟨N - 1, by omega⟩
    rw [Mo_build_B132]
    by_cases c : k < n
    · rw [if_neg (fun x => absurd ((nI_le' (by omega) (by omega)).mp x) (by omega)), hc, cc_67_23, sa_nI (by omega) (by decide), sa_nI (by omega) (by decide), nm_of, nm_of, nI_1]
      have go : ∀ v, v = flR T k → ∃ τ', Mo_build_B132 N 67 (nI n) (nI (k + 1)) (s2 τ 82 k v) = Mo_build_B172 FU 67 (nI n) 0 τ' ∧ (∀ c, c ≠ 82 → τ' c = τ c) ∧ ∀ j, τ' 82 j = if k ≤ j ∧ j < n then flR T j else τ 82 j := by
        intro v hv
        obtain ⟨τ', e1, e2, e3⟩ := ih N (k + 1) (s2 τ 82 k v) (by omega) (by omega) (by omega) (by rw [s2_ne (by decide)]; exact hc)
        refine ⟨τ', e1, fun c hc => by rw [e2 c hc, s2_ne hc], fun j => ?_⟩
        rw [e3 j]
        by_cases e1 : k + 1 ≤ j ∧ j < n
        · rw [if_pos e1, if_pos (by omega)]
        · rw [if_neg e1, s2_row, upd_at]
          by_cases e2 : j = k
          · rw [if_pos e2, if_pos (by omega), hv, e2]
          · rw [if_neg e2, if_neg (by omega)]
      by_cases q : T ≤ k
      · rw [if_pos ((nI_le' (by omega) (by omega)).mpr q)]; exact go 244 (by unfold flR; rw [if_pos q])
      · rw [if_neg (fun x => q ((nI_le' (by omega) (by omega)).mp x))]; exact go 144 (by unfold flR; rw [if_neg q])
    · rw [if_pos ((nI_le' (by omega) (by omega)).mpr (by omega))]
      exact ⟨τ, rfl, fun _ _ => rfl, fun j => by rw [if_neg (by omega)]⟩
end
section
variable {m : Nat} {s a b op fm r x d i : Nat → Int32} {pl ln jl : Nat → Nat} {lg : Nat → Bool}
theorem wrt_eqn {n p : Nat} {f g : Nat → Int32} {L : List Int32} (h : Eqn n f g) : Eqn n (wrt f p L) (wrt g p L) := by
  intro j hj
  unfold wrt wrk
  by_cases q : p ≤ j ∧ j < p + L.length
  · rw [if_pos q, if_pos q]
  · rw [if_neg q, if_neg q]; exact h j hj
theorem wrA_eqn {n : Nat} {f g : Nat → Int32} (h : Eqn n f g) : ∀ k, Eqn n (wrA s a b op fm r x d i pl ln jl lg f k) (wrA s a b op fm r x d i pl ln jl lg g k) := by
  intro k
  induction k with
  | zero => exact h
  | succ k ih =>
    show Eqn n (wr1 s a b op fm r x d i pl ln jl lg (wrA s a b op fm r x d i pl ln jl lg f k) k) (wr1 s a b op fm r x d i pl ln jl lg (wrA s a b op fm r x d i pl ln jl lg g k) k)
    unfold wr1
    by_cases z : s k = 7
    · rw [if_pos z, if_pos z]; exact wrt_eqn (wrt_eqn ih)
    · rw [if_neg z, if_neg z]; exact wrt_eqn ih
end
