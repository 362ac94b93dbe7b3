theorem by_dec {P : Int32 → Prop} (h : ∀ j, j < 256 → P (nI j)) {l : Int32} (h1 : ¬ l < 0) (h2 : l < 256) : P l := by
  obtain ⟨j, hj, rfl⟩ := nI_of h1
  exact h j ((nI_ltI hj (by omega)).mp h2)
theorem lt_of {a b c : Int32} (h : a < b) (k : b ≤ c) : a < c := Int32.lt_iff_toInt_lt.mpr (by
  have h1 := Int32.lt_iff_toInt_lt.mp h; have h2 := Int32.le_iff_toInt_le.mp k; omega)
theorem nlt_of {a b c : Int32} (h : ¬ a < b) (k : c ≤ b) : ¬ a < c := fun q => h (lt_of q k)
section
variable {σ : St} {v0 f s q n p p' : Nat} {nx g os vs ds ir md lo op fm r x d i ln : Int32}
theorem br_1 {l : Int32} (h1 : ¬ l < 112) (h2 : l < 128) : (l - 112 < 0 ∨ 15 < l - 112 ∨ l - 112 = 10 ∨ l - 112 = 11) ↔ (l = 122 ∨ l = 123) :=
  by_dec (P := fun l => ¬ l < 112 → l < 128 → ((l - 112 < 0 ∨ 15 < l - 112 ∨ l - 112 = 10 ∨ l - 112 = 11) ↔ (l = 122 ∨ l = 123))) (by decide +kernel) (nlt_of h1 (by decide)) (lt_of h2 (by decide)) h1 h2
theorem br_2 {l : Int32} (h1 : ¬ l < 128) (h2 : l < 144) : (l - 128 < 0 ∨ 15 < l - 128 ∨ l - 128 = 10 ∨ l - 128 = 11) ↔ (l = 138 ∨ l = 139) :=
  by_dec (P := fun l => ¬ l < 128 → l < 144 → ((l - 128 < 0 ∨ 15 < l - 128 ∨ l - 128 = 10 ∨ l - 128 = 11) ↔ (l = 138 ∨ l = 139))) (by decide +kernel) (nlt_of h1 (by decide)) (lt_of h2 (by decide)) h1 h2
theorem cx_other (hf : f ≠ v0) (h0 : ch v0 0 = f) {l : Int32} (c1 : ¬ l < 64) (c2 : ¬ l < 96) (c3 : ¬ (¬ l < 112 ∧ l < 128)) (c4 : ¬ (¬ l < 184 ∧ l < 192)) : wv (Reader_shapeOther v0 l (mkR σ v0 f nx 1 0 0 ds ir md lo 0 0 0 0 0 0 ln)) (SH σ v0 f (sd l) nx ds ir md lo ln) := by
  unfold Reader_shapeOther SH sd
  simp only [cx_expect hf h0, cx_operand hf h0, cv_of, nm_of, mkR_snx, mkR_sg, mkR_sos, mkR_svs, mkR_sds, mkR_sir, mkR_smd, mkR_slo, mkR_sop hf, mkR_sfm hf, mkR_sr hf, mkR_sx hf, mkR_sd hf, mkR_si hf, mkR_sln hf, if_neg c1, if_neg c2, if_neg c3, if_neg c4]
  repeat' (refine wv_ite.mpr ⟨fun e => ?_, fun e => ?_⟩)
  all_goals simp only [*, wv_some, if_true, if_false]
  all_goals first | exact bd_mk | simp [bd_mk]
theorem cx_shape (hf : f ≠ v0) (h0 : ch v0 0 = f) {l : Int32} : wv (Reader_shape v0 l (mkR σ v0 f nx 1 0 0 ds ir md lo 0 0 0 0 0 0 ln)) (SH σ v0 f (sd l) nx ds ir md lo ln) := by
  by_cases c1 : l < 64
  · unfold Reader_shape Reader_shapeArithmetic
    simp only [le_nlt, cx_operand hf h0, cv_of, nm_of, mkR_snx, mkR_sg, mkR_sos, mkR_svs, mkR_sds, mkR_sir, mkR_smd, mkR_slo, mkR_sop hf, mkR_sfm hf, mkR_sr hf, mkR_sx hf, mkR_sd hf, mkR_si hf, mkR_sln hf]
    by_cases c2 : l &&& 7 = 1
    · simp [c1, c2, cv_of, wv_some, SH, sd]
    · by_cases c3 : l &&& 7 = 3
      · simp [c1, c2, c3, cv_of, wv_some, SH, sd]
      · simp [c1, c2, c3, cv_of, wv_some, SH, sd, bd_mk]
  · by_cases c2 : l < 96
    · unfold Reader_shape
      simp only [le_nlt, cx_expect hf h0, cv_of, nm_of, mkR_snx, mkR_sg, mkR_sos, mkR_svs, mkR_sds, mkR_sir, mkR_smd, mkR_slo, mkR_sop hf, mkR_sfm hf, mkR_sr hf, mkR_sx hf, mkR_sd hf, mkR_si hf, mkR_sln hf]
      simp [c1, c2, wv_some, SH, sd]
    · have ho := fun c3 c4 => cx_other (σ := σ) (nx := nx) (ds := ds) (ir := ir) (md := md) (lo := lo) (ln := ln) hf h0 c1 c2 c3 c4
      unfold Reader_shape Reader_shape_B68
      simp only [le_nlt, c1, c2, not_true, not_false_eq_true, if_true, if_false, cx_expect hf h0, cx_branch hf h0, cv_of]
      by_cases c3 : l < 112
      · rw [if_pos c3]
        have c4 : l < 184 := lt_of c3 (by decide)
        rw [if_pos c4]
        exact wv_cv.mpr (wv_mono (ho (fun h => h.1 c3) (fun h => h.1 c4)) fun _ h => wv_some.mpr h)
      · rw [if_neg c3]
        by_cases c4 : l < 128
        · rw [if_neg (not_not_intro c4), wv_some]
          unfold SH
          have e := br_1 c3 c4
          by_cases c5 : l = 122 ∨ l = 123
          · rw [if_pos (e.mpr c5)]
            simp only [sd, c1, c2, c3, c4, c5, if_true, if_false, not_false_eq_true, and_self]
            exact bd_mk
          · rw [if_neg (fun h => c5 (e.mp h))]
            simp [sd, c1, c2, c3, c4, c5]
        · rw [if_pos c4]
          have k3 : ¬ (¬ l < 112 ∧ l < 128) := fun h => c4 h.2
          by_cases c5 : l < 184
          · rw [if_pos c5]
            exact wv_cv.mpr (wv_mono (ho k3 (fun h => h.1 c5)) fun _ h => wv_some.mpr h)
          · rw [if_neg c5]
            by_cases c6 : l < 192
            · rw [if_neg (not_not_intro c6), wv_some]
              unfold SH
              simp [sd, c1, c2, c3, c4, c5, c6]
            · rw [if_pos c6]
              exact wv_cv.mpr (wv_mono (ho k3 (fun h => c6 h.2)) fun _ h => wv_some.mpr h)
theorem cx_shape2 (hf : f ≠ v0) (h0 : ch v0 0 = f) {l : Int32} : wv (Reader_shapeBehind15 v0 l (mkR σ v0 f nx 1 0 0 ds ir md lo 0 0 0 0 0 0 ln)) (SH σ v0 f (sd2 l) nx ds ir md lo ln) := by
  unfold Reader_shapeBehind15
  simp only [le_nlt, cx_branch hf h0, cx_operand hf h0, cv_of, nm_of, mkR_snx, mkR_sg, mkR_sos, mkR_svs, mkR_sds, mkR_sir, mkR_smd, mkR_slo, mkR_sop hf, mkR_sfm hf, mkR_sr hf, mkR_sx hf, mkR_sd hf, mkR_si hf, mkR_sln hf]
  by_cases c1 : l = 175
  · simp [c1, wv_some, SH, sd2]
  · by_cases c2 : l < 128
    · simp [c1, c2, wv_some, SH, sd2, bd_mk]
    · by_cases c3 : l < 144
      · have e := br_2 c2 c3
        simp only [c1, c2, c3, not_true, not_false_eq_true, if_true, if_false, wv_some]
        unfold SH
        by_cases c5 : l = 138 ∨ l = 139
        · rw [if_pos (e.mpr c5)]
          simp only [sd2, c1, c2, c3, c5, if_true, if_false, not_false_eq_true, and_self]
          exact bd_mk
        · rw [if_neg (fun h => c5 (e.mp h))]
          simp [sd2, c1, c2, c3, c5]
      · simp [c1, c2, c3, wv_some, SH, sd2, bd_mk]
end
