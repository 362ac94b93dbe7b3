section
variable {σ : St} {v0 f s q n p p' : Nat} {nx g os vs ds ir md lo op fm r x d i ln : Int32}
theorem cn_num (H : RH v0 f s q) (hn : σ s 2 = nI n) (hN : n ≤ 1100) {z v : Int32} (h : num (σ q) n z p = some (v, p')) :
    Reader_takeNumber v0 z (mkR σ v0 f (nI p) g os vs ds ir md lo op fm r x d i ln) = some (v, mkR σ v0 f (nI p') g os vs ds ir md lo op fm r x d i ln) := by
  unfold num at h
  unfold Reader_takeNumber
  by_cases c0 : z = 0
  · rw [if_pos c0] at h; cases h; rw [if_neg (not_not_intro c0)]
  · rw [if_neg c0] at h; rw [if_pos c0]
    by_cases c4 : z = 4
    · rw [if_pos c4] at h
      by_cases hp : p + 3 < n
      · rw [if_pos hp] at h; cases h
        subst c4
        rw [ct H hn hN (by omega), cl_of, if_pos (by decide), if_neg (by decide), ct H hn hN (by omega), cl_of, nm_of, ct H hn hN (by omega), cl_of, nm_of, ct H hn hN (by omega), cl_of, nm_of]
        rfl
      · rw [if_neg hp] at h; cases h
    · rw [if_neg c4] at h
      by_cases hp : p < n
      · rw [if_pos hp] at h; cases h
        rw [ct H hn hN hp, cl_of]
        by_cases c1 : z = 1
        · rw [if_neg (not_not_intro c1), if_pos c1]
        · rw [if_pos c1, if_pos c4, if_neg c1]
      · rw [if_neg hp] at h; cases h
theorem cn_take (H : RH v0 f s q) (hn : σ s 2 = nI n) (hN : n ≤ 1100) (hp : ¬ p < n) (hq : p < 2 ^ 30) {β : Type} {Q : Int32 → St → Prop} (k : ∀ a τ, Bd σ v0 f τ → Q a τ) :
    wp (Reader_take v0 (mkR σ v0 f (nI p) g os vs ds ir md lo op fm r x d i ln)) Q := by
  rw [ctO H hn hN (out_of hN hq hp)]; exact wp_some.mpr (k _ _ bd_mk)
theorem cn_numN (H : RH v0 f s q) (hn : σ s 2 = nI n) (hN : n ≤ 1100) (hq : p < 2 ^ 29) {z : Int32} (h : num (σ q) n z p = none) :
    wp (Reader_takeNumber v0 z (mkR σ v0 f (nI p) g os vs ds ir md lo op fm r x d i ln)) fun _ => Bd σ v0 f := by
  unfold num at h
  unfold Reader_takeNumber
  have T := fun {τ : St} => bd_take (τ := τ) H hn hN
  by_cases c0 : z = 0
  · rw [if_pos c0] at h; cases h
  · rw [if_neg c0] at h; rw [if_pos c0]
    by_cases c4 : z = 4
    · rw [if_pos c4] at h
      by_cases hp : p + 3 < n
      · rw [if_pos hp] at h; cases h
      · subst c4
        by_cases h0 : p < n
        · rw [ct H hn hN h0, cl_of, if_pos (by decide), if_neg (by decide)]
          by_cases h1 : p + 1 < n
          · rw [ct H hn hN h1, cl_of, nm_of]
            by_cases h2 : p + 1 + 1 < n
            · rw [ct H hn hN h2, cl_of, nm_of, ctO H hn hN (out_of hN (by omega) (by omega))]
              exact wp_some.mpr bd_mk
            · rw [ctO H hn hN (out_of hN (by omega) h2), cl_of, nm_of, wp_cl]
              exact wp_mono (T bd_mk) fun _ _ h => wp_some.mpr h
          · rw [ctO H hn hN (out_of hN (by omega) h1), cl_of, nm_of, wp_cl]
            refine wp_mono (T bd_mk) fun _ _ h => ?_
            rw [wp_nm, wp_cl]
            exact wp_mono (T h) fun _ _ h => wp_some.mpr h
        · rw [ctO H hn hN (out_of hN (by omega) h0), cl_of, if_pos (by decide), if_neg (by decide), wp_cl]
          refine wp_mono (T bd_mk) fun _ _ h => ?_
          rw [wp_nm, wp_cl]
          refine wp_mono (T h) fun _ _ h => ?_
          rw [wp_nm, wp_cl]
          exact wp_mono (T h) fun _ _ h => wp_some.mpr h
    · rw [if_neg c4] at h
      by_cases hp : p < n
      · rw [if_pos hp] at h; cases h
      · rw [ctO H hn hN (out_of hN (by omega) hp), cl_of]
        simp only [wp_ite, wp_some]
        exact ⟨fun _ => ⟨fun _ => bd_mk, fun hh => absurd c4 hh⟩, fun _ => bd_mk⟩
theorem num_end {row : Nat → Int32} {z v : Int32} (h : num row n z p = some (v, p')) (hp : p ≤ n) : p ≤ p' ∧ p' ≤ n := by
  unfold num at h
  split at h
  · cases h; exact ⟨Nat.le_refl _, hp⟩
  · split at h
    · split at h
      · cases h; omega
      · cases h
    · split at h
      · cases h; omega
      · cases h
theorem cn_op145 (hf : f ≠ v0) (h0 : ch v0 0 = f) {mo ba ix sc t1 v6 : Int32} (h1 : t1 = (if mo = 0 ∧ ba = 5 then 8 else ba)) (h6 : v6 = (if mo = 0 ∧ ba = 5 then 1 else 0)) :
    Reader_takeOperand_B145 v0 mo ix sc v6 f t1 (mkR σ v0 f nx g os vs 0 ir md lo op fm r x d i ln) = some (mkR σ v0 f nx g os vs (mx_d mo ba) ir md lo op fm r (mx_x mo ba ix sc) d i ln) := by
  unfold Reader_takeOperand_B145 mx_d mx_x
  subst h1; subst h6
  by_cases c0 : mo = 0
  · subst c0
    by_cases c5 : ba = 5
    · simp [c5, nm_of, cl_of, cv_of, zb_0, zb_1, mkR_nx, mkR_g, mkR_os, mkR_vs, mkR_ds, mkR_ir, mkR_md, mkR_lo, mkR_op hf, mkR_fm hf, mkR_r hf, mkR_x hf, mkR_d hf, mkR_i hf, mkR_ln hf, mkR_snx, mkR_sg, mkR_sos, mkR_svs, mkR_sds, mkR_sir, mkR_smd, mkR_slo, mkR_sop hf, mkR_sfm hf, mkR_sr hf, mkR_sx hf, mkR_sd hf, mkR_si hf, mkR_sln hf]
    · simp [c5, nm_of, cl_of, cv_of, zb_0, zb_1, mkR_nx, mkR_g, mkR_os, mkR_vs, mkR_ds, mkR_ir, mkR_md, mkR_lo, mkR_op hf, mkR_fm hf, mkR_r hf, mkR_x hf, mkR_d hf, mkR_i hf, mkR_ln hf, mkR_snx, mkR_sg, mkR_sos, mkR_svs, mkR_sds, mkR_sir, mkR_smd, mkR_slo, mkR_sop hf, mkR_sfm hf, mkR_sr hf, mkR_sx hf, mkR_sd hf, mkR_si hf, mkR_sln hf]
  · by_cases c1 : mo = 1
    · subst c1; simp [nm_of, cl_of, cv_of, zb_0, zb_1, mkR_nx, mkR_g, mkR_os, mkR_vs, mkR_ds, mkR_ir, mkR_md, mkR_lo, mkR_op hf, mkR_fm hf, mkR_r hf, mkR_x hf, mkR_d hf, mkR_i hf, mkR_ln hf, mkR_snx, mkR_sg, mkR_sos, mkR_svs, mkR_sds, mkR_sir, mkR_smd, mkR_slo, mkR_sop hf, mkR_sfm hf, mkR_sr hf, mkR_sx hf, mkR_sd hf, mkR_si hf, mkR_sln hf]
    · simp [c0, c1, nm_of, cl_of, cv_of, zb_0, zb_1, mkR_nx, mkR_g, mkR_os, mkR_vs, mkR_ds, mkR_ir, mkR_md, mkR_lo, mkR_op hf, mkR_fm hf, mkR_r hf, mkR_x hf, mkR_d hf, mkR_i hf, mkR_ln hf, mkR_snx, mkR_sg, mkR_sos, mkR_svs, mkR_sds, mkR_sir, mkR_smd, mkR_slo, mkR_sop hf, mkR_sfm hf, mkR_sr hf, mkR_sx hf, mkR_sd hf, mkR_si hf, mkR_sln hf]
theorem cn_opnd (H : RH v0 f s q) (hn : σ s 2 = nI n) (hN : n ≤ 1100) {ir' x' ds' : Int32} (h : opnd (σ q) n p = some (ir', x', ds', p')) :
    Reader_takeOperand v0 (mkR σ v0 f (nI p) g os vs ds ir md lo op fm r 0 d i ln) = some (mkR σ v0 f (nI p') g os vs ds' ir' ((shr (σ q p) 3) &&& 7) (σ q p &&& 7) op fm r x' d i ln) := by
  have hf := H.2.2.2.1
  have h0 := H.1
  unfold opnd at h
  unfold Reader_takeOperand Reader_takeOperand_B39
  by_cases hp : p < n
  · rw [if_pos hp] at h
    rw [ct H hn hN hp, cl_of]
    by_cases c3 : shr (σ q p) 6 = 3
    · rw [if_pos c3] at h; cases h
      simp only [nm_of, cl_of, cv_of, zb_0, zb_1, mkR_nx, mkR_g, mkR_os, mkR_vs, mkR_ds, mkR_ir, mkR_md, mkR_lo, mkR_op hf, mkR_fm hf, mkR_r hf, mkR_x hf, mkR_d hf, mkR_i hf, mkR_ln hf, mkR_snx, mkR_sg, mkR_sos, mkR_svs, mkR_sds, mkR_sir, mkR_smd, mkR_slo, mkR_sop hf, mkR_sfm hf, mkR_sr hf, mkR_sx hf, mkR_sd hf, mkR_si hf, mkR_sln hf, c3, not_true, if_false]
      simp
    · rw [if_neg c3] at h
      simp only [nm_of, cl_of, cv_of, zb_0, zb_1, mkR_nx, mkR_g, mkR_os, mkR_vs, mkR_ds, mkR_ir, mkR_md, mkR_lo, mkR_op hf, mkR_fm hf, mkR_r hf, mkR_x hf, mkR_d hf, mkR_i hf, mkR_ln hf, mkR_snx, mkR_sg, mkR_sos, mkR_svs, mkR_sds, mkR_sir, mkR_smd, mkR_slo, mkR_sop hf, mkR_sfm hf, mkR_sr hf, mkR_sx hf, mkR_sd hf, mkR_si hf, mkR_sln hf, c3, not_false_eq_true, if_true, h0]
      by_cases c4 : σ q p &&& 7 = 4
      · rw [if_pos c4] at h
        by_cases hp1 : p + 1 < n
        · rw [if_pos hp1] at h
          simp only [c4, not_true, if_false]
          rw [ct H hn hN hp1, cl_of]
          by_cases c7 : (shr (σ q (p + 1)) 3) &&& 7 = 4
          · rw [if_pos c7] at h; cases h
            simp only [nm_of, c7, if_true]
            by_cases m0 : shr (σ q p) 6 = 0
            · by_cases b5 : (σ q (p + 1)) &&& 7 = 5
              · simp only [m0, b5, not_true, if_false]
                exact cn_op145 hf h0 (by simp) (by simp)
              · simp only [m0, b5, not_true, if_false, not_false_eq_true, if_true]
                exact cn_op145 hf h0 (by simp [b5]) (by simp [b5])
            · simp only [m0, not_false_eq_true, if_true]
              exact cn_op145 hf h0 (by simp [m0]) (by simp [m0])
          · rw [if_neg c7] at h; cases h
            simp only [nm_of, c7, if_false]
            by_cases m0 : shr (σ q p) 6 = 0
            · by_cases b5 : (σ q (p + 1)) &&& 7 = 5
              · simp only [m0, b5, not_true, if_false]
                exact cn_op145 hf h0 (by simp) (by simp)
              · simp only [m0, b5, not_true, if_false, not_false_eq_true, if_true]
                exact cn_op145 hf h0 (by simp [b5]) (by simp [b5])
            · simp only [m0, not_false_eq_true, if_true]
              exact cn_op145 hf h0 (by simp [m0]) (by simp [m0])
        · rw [if_neg hp1] at h; cases h
      · rw [if_neg c4] at h; cases h
        simp only [c4, not_false_eq_true, if_true]
        by_cases m0 : shr (σ q p) 6 = 0
        · by_cases b5 : (σ q p) &&& 7 = 5
          · simp only [m0, b5, not_true, if_false]
            exact cn_op145 hf h0 (by simp) (by simp)
          · simp only [m0, b5, not_true, if_false, not_false_eq_true, if_true]
            exact cn_op145 hf h0 (by simp [b5]) (by simp [b5])
        · simp only [m0, not_false_eq_true, if_true]
          exact cn_op145 hf h0 (by simp [m0]) (by simp [m0])
  · rw [if_neg hp] at h; cases h
end
