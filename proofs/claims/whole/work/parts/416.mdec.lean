/-! ===== the reference's decode ===== -/
def MqH (v0 q n : Nat) : Prop := q ≠ v0 ∧ kd q = 900 ∧ n ≤ al q ∧ q < 1000 ∧ n ≤ 6000 ∧ al q < 2 ^ 31
def BY (v : Int32) : Prop := ¬ v < 0 ∧ v < 256
theorem by_255 {v : Int32} (h : BY v) : v &&& 255 = v := by_dec (P := fun v => v &&& 255 = v) (by decide +kernel) h.1 h.2
theorem by_i2b {v : Int32} (h : BY v) : (if v ≤ 127 then v else v - 256) = i2b v := by_dec (P := fun v => (if v ≤ 127 then v else v - 256) = i2b v) (by decide +kernel) h.1 h.2
theorem by_or0 {v : Int32} (h : BY v) : 0 ||| (shl (v &&& 255) (8 * 0)) = v := by_dec (P := fun v => 0 ||| (shl (v &&& 255) (8 * 0)) = v) (by decide +kernel) h.1 h.2
theorem by_m3 {v : Int32} (h : BY v) : (3 ≤ shr v 6) = (shr v 6 = 3) := propext (by_dec (P := fun v => (3 ≤ shr v 6) ↔ (shr v 6 = 3)) (by decide +kernel) h.1 h.2)
theorem by_m4 {v : Int32} (h : BY v) : shr v 6 = 0 ∨ shr v 6 = 1 ∨ shr v 6 = 2 ∨ shr v 6 = 3 := by_dec (P := fun v => shr v 6 = 0 ∨ shr v 6 = 1 ∨ shr v 6 = 2 ∨ shr v 6 = 3) (by decide +kernel) h.1 h.2
theorem by_8 {v : Int32} (h1 : ¬ v < 64) (h2 : v < 96) : shr (v - 64) 3 = (v - 64) / 8 := by_dec (P := fun v => ¬ v < 64 → v < 96 → shr (v - 64) 3 = (v - 64) / 8) (by decide +kernel) (nlt_of h1 (by decide)) (lt_of h2 (by decide)) h1 h2
section
variable {σ : St} {v0 q n p p' j : Nat} {aT op fm r x d i kf m : Int32}
theorem mn_next (H : MqH v0 q n) (hp : p < n) : Mo_next v0 (mkM σ v0 (nI q) (nI n) (nI p) op fm r x d i kf m) = some (σ q p, mkM σ v0 (nI q) (nI n) (nI (p + 1)) op fm r x d i kf m) := by
  obtain ⟨h1, h2, h3, h4, h5, h6⟩ := H
  unfold Mo_next
  simp only [nm_of, cl_of, cv_of, zb_0, zb_1, mkM_fr, mkM_li, mkM_aT, mkM_op, mkM_fm, mkM_r, mkM_x, mkM_d, mkM_i, mkM_kf, mkM_m, mkM_sfr, mkM_sli, mkM_saT, mkM_sop, mkM_sfm, mkM_sr, mkM_sx, mkM_sd, mkM_si, mkM_skf, mkM_sm, nI_1]
  rw [if_neg (nI_nlt (by omega) (by omega)), nI_pred, show rn (nI q) = q from nI_clamp (by omega), lr_in h2 (vp_in_nI (by omega) h6), nI_clamp (by omega), mkM_else h1]
theorem mn_nextO (hn : n ≤ 6000) (hp : n ≤ p) (hq : p < 2 ^ 30) : Mo_next v0 (mkM σ v0 (nI q) (nI n) (nI p) op fm r x d i kf m) = some (-1, mkM σ v0 (nI q) (nI n) (nI (p + 1)) op fm r x d i kf m) := by
  unfold Mo_next
  simp only [nm_of, cl_of, cv_of, zb_0, zb_1, mkM_fr, mkM_li, mkM_aT, mkM_op, mkM_fm, mkM_r, mkM_x, mkM_d, mkM_i, mkM_kf, mkM_m, mkM_sfr, mkM_sli, mkM_saT, mkM_sop, mkM_sfm, mkM_sr, mkM_sx, mkM_sd, mkM_si, mkM_skf, mkM_sm, nI_1]
  rw [if_pos (nI_lt (by omega) (by omega))]
/-- beyond the end -/
def Ov (σ : St) (v0 q n k : Nat) (τ : St) : Prop := ∃ p op fm r x d i kf m, n < p ∧ p ≤ n + k ∧ τ = mkM σ v0 (nI q) (nI n) (nI p) op fm r x d i kf m
theorem ov_mk (h1 : n < p) (h2 : p ≤ n + j) : Ov σ v0 q n j (mkM σ v0 (nI q) (nI n) (nI p) op fm r x d i kf m) := ⟨_, _, _, _, _, _, _, _, _, h1, h2, rfl⟩
theorem ov_le {j k : Nat} {τ : St} (h : Ov σ v0 q n j τ) (hk : j ≤ k) : Ov σ v0 q n k τ := by
  obtain ⟨p, op, fm, r, x, d, i, kf, m, h1, h2, rfl⟩ := h; exact ov_mk h1 (by omega)
theorem ov_next (hn : n ≤ 6000) {τ : St} {j : Nat} (hj : j ≤ 100) (h : Ov σ v0 q n j τ) : wp (Mo_next v0 τ) fun _ => Ov σ v0 q n (j + 1) := by
  obtain ⟨p, op, fm, r, x, d, i, kf, m, h1, h2, rfl⟩ := h
  rw [mn_nextO hn (by omega) (by omega)]; exact wp_some.mpr (ov_mk (by omega) (by omega))
theorem ov_s {τ : St} {j k : Nat} {w : Int32} (h : Ov σ v0 q n j τ) (hk : decide (46 ≤ k ∧ k ≤ 53) = true) : Ov σ v0 q n j (s2 τ v0 k w) := by
  obtain ⟨p, op, fm, r, x, d, i, kf, m, h1, h2, rfl⟩ := h
  have hk := of_decide_eq_true hk
  obtain rfl | rfl | rfl | rfl | rfl | rfl | rfl | rfl : k = 46 ∨ k = 47 ∨ k = 48 ∨ k = 49 ∨ k = 50 ∨ k = 51 ∨ k = 52 ∨ k = 53 := by omega
  all_goals simp only [mkM_sfr, mkM_sli, mkM_saT, mkM_sop, mkM_sfm, mkM_sr, mkM_sx, mkM_sd, mkM_si, mkM_skf, mkM_sm]; exact ov_mk h1 h2
theorem ov_small (hn : n ≤ 6000) {τ : St} {j : Nat} (hj : j ≤ 100) (h : Ov σ v0 q n j τ) : wp (Mo_small v0 τ) fun _ => Ov σ v0 q n (j + 1) := by
  unfold Mo_small
  rw [wp_cl]
  refine wp_mono (ov_next hn hj h) fun _ _ h => ?_
  exact wp_ite.mpr ⟨fun _ => wp_some.mpr h, fun _ => wp_some.mpr h⟩
theorem four_b (k : Nat) {τ : St} : Mo_four_B4 (k + 1 + 1 + 1 + 1 + 1) v0 0 0 τ = cl (Mo_next v0 τ) fun x1 σ1 => cl (Mo_next v0 σ1) fun x2 σ2 => cl (Mo_next v0 σ2) fun x3 σ3 => cl (Mo_next v0 σ3) fun x4 σ4 =>
    some ((((0 ||| (shl (x1 &&& 255) (8 * 0))) ||| shl (x2 &&& 255) 8) ||| shl (x3 &&& 255) 16) ||| shl (x4 &&& 255) 24, σ4) := by
  simp only [Mo_four_B4, nm_of]
  rfl
theorem four_eq {τ : St} : Mo_four v0 τ = cl (Mo_next v0 τ) fun x1 σ1 => cl (Mo_next v0 σ1) fun x2 σ2 => cl (Mo_next v0 σ2) fun x3 σ3 => cl (Mo_next v0 σ3) fun x4 σ4 =>
    some ((((0 ||| (shl (x1 &&& 255) (8 * 0))) ||| shl (x2 &&& 255) 8) ||| shl (x3 &&& 255) 16) ||| shl (x4 &&& 255) 24, σ4) := by
  exact four_b 19995
theorem ov_four (hn : n ≤ 6000) {τ : St} {j : Nat} (hj : j ≤ 90) (h : Ov σ v0 q n j τ) : wp (Mo_four v0 τ) fun _ => Ov σ v0 q n (j + 4) := by
  rw [four_eq, wp_cl]
  refine wp_mono (ov_next hn (by omega) h) fun _ _ h => ?_
  rw [wp_cl]
  refine wp_mono (ov_next hn (by omega) h) fun _ _ h => ?_
  rw [wp_cl]
  refine wp_mono (ov_next hn (by omega) h) fun _ _ h => ?_
  rw [wp_cl]
  refine wp_mono (ov_next hn (by omega) h) fun _ _ h => ?_
  exact wp_some.mpr h
theorem mn_four (H : MqH v0 q n) (hB : ∀ k, k < n → BY (σ q k)) (hp : p + 3 < n) : Mo_four v0 (mkM σ v0 (nI q) (nI n) (nI p) op fm r x d i kf m) = some (b4 (σ q) p, mkM σ v0 (nI q) (nI n) (nI (p + 4)) op fm r x d i kf m) := by
  rw [four_eq, mn_next H (by omega), cl_of, mn_next H (by omega), cl_of, mn_next H (by omega), cl_of, mn_next H (by omega), cl_of]
  rw [by_or0 (hB p (by omega)), by_255 (hB (p + 1) (by omega)), by_255 (hB (p + 1 + 1) (by omega)), by_255 (hB (p + 1 + 1 + 1) (by omega))]
  rfl
theorem mn_fourN (H : MqH v0 q n) (hq : p ≤ n) (hp : ¬ p + 3 < n) : wp (Mo_four v0 (mkM σ v0 (nI q) (nI n) (nI p) op fm r x d i kf m)) fun _ => Ov σ v0 q n 4 := by
  have hn := H.2.2.2.2.1
  rw [four_eq]
  by_cases h0 : p < n
  · rw [mn_next H h0, cl_of]
    by_cases h1 : p + 1 < n
    · rw [mn_next H h1, cl_of]
      by_cases h2 : p + 1 + 1 < n
      · rw [mn_next H h2, cl_of, mn_nextO hn (by omega) (by omega), cl_of]
        exact wp_some.mpr (ov_mk (by omega) (by omega))
      · rw [mn_nextO hn (by omega) (by omega), cl_of, mn_nextO hn (by omega) (by omega), cl_of]
        exact wp_some.mpr (ov_mk (by omega) (by omega))
    · rw [mn_nextO hn (by omega) (by omega), cl_of, mn_nextO hn (by omega) (by omega), cl_of, mn_nextO hn (by omega) (by omega), cl_of]
      exact wp_some.mpr (ov_mk (by omega) (by omega))
  · rw [mn_nextO hn (by omega) (by omega), cl_of, mn_nextO hn (by omega) (by omega), cl_of, mn_nextO hn (by omega) (by omega), cl_of, mn_nextO hn (by omega) (by omega), cl_of]
    exact wp_some.mpr (ov_mk (by omega) (by omega))
theorem mn_small (H : MqH v0 q n) (hB : ∀ k, k < n → BY (σ q k)) (hp : p < n) : Mo_small v0 (mkM σ v0 (nI q) (nI n) (nI p) op fm r x d i kf m) = some (i2b (σ q p), mkM σ v0 (nI q) (nI n) (nI (p + 1)) op fm r x d i kf m) := by
  unfold Mo_small
  rw [mn_next H hp, cl_of, ← by_i2b (hB p hp)]
  split <;> rfl
theorem mn_smallN (H : MqH v0 q n) (hq : p ≤ n) (hp : ¬ p < n) : wp (Mo_small v0 (mkM σ v0 (nI q) (nI n) (nI p) op fm r x d i kf m)) fun _ => Ov σ v0 q n 4 := by
  unfold Mo_small
  rw [mn_nextO (p := p) H.2.2.2.2.1 (by omega) (by have := H.2.2.2.2.1; omega), cl_of]
  exact wp_ite.mpr ⟨fun _ => wp_some.mpr (ov_mk (by omega) (by omega)), fun _ => wp_some.mpr (ov_mk (by omega) (by omega))⟩
end
