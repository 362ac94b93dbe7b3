section
variable {τ : St} {w : Nat} {c z s o : Int32}
theorem gm_140 (h : τ 67 42 = nI w) (hw : w < 2) {v a b : Int32} : Mo_shifted_B140 67 v b 67 a (mkG τ w c z s o) = some (v, mkG τ w (if a = 0 then 0 else 1) (zv v) (sv v) (if b = 0 then 0 else 1)) := by
  unfold Mo_shifted_B140; exact gm_both h hw
theorem gm_shf (h : τ 67 42 = nI w) (hw : w < 2) {op l r : Int32} (hop : op = 14 ∨ op = 15 ∨ op = 16) : Mo_shifted 67 op l r (mkG τ w c z s o) = if r &&& 31 = 0 then some (l, mkG τ w c z s o) else some ((fsh op l (r &&& 31)).1, mkG τ w (fsh op l (r &&& 31)).2.1 (zv (fsh op l (r &&& 31)).1) (sv (fsh op l (r &&& 31)).1) (fsh op l (r &&& 31)).2.2.2.2) := by
  unfold Mo_shifted
  rw [nm_of]
  by_cases h0 : r &&& 31 = 0
  · rw [if_neg (not_not_intro h0), if_pos h0]
  · rw [if_pos h0, if_neg h0]
    obtain ⟨j, hj, ej⟩ := and_31 r
    rw [ej]
    have j0 : 0 < j := by
      rcases Nat.eq_zero_or_pos j with q | q
      · subst q; exact absurd ej h0
      · exact q
    have ju : (ushr l (nI j - 1)) &&& 1 = (shr l (nI j - 1)) &&& 1 := by
      rw [show nI j - 1 = nI (j - 1) from nI_sub (b := 1) j0 (by omega)]
      exact u1_all (j - 1) (by omega) l
    unfold Mo_shifted_B43 Mo_shifted_B71 fsh
    simp only [gm_140 h hw]
    rcases hop with rfl | rfl | rfl
    · simp only [show ¬ ¬ (14 : Int32) = 14 by decide, if_false, if_true]
      rw [us_31]
      simp only [le_nlt]
      by_cases q1 : shl l (nI j) < 0
      · rcases and_1 (ushr l (32 - nI j)) with q2 | q2
        · rw [q2]; simp only [q1, not_true_eq_false, if_true, if_false]; rfl
        · rw [q2]; simp only [q1, not_true_eq_false, if_true, if_false]; rfl
      · rcases and_1 (ushr l (32 - nI j)) with q2 | q2
        · rw [q2]; simp only [q1, not_false_eq_true, if_true, if_false]; rfl
        · rw [q2]; simp only [q1, not_false_eq_true, if_true, if_false]; rfl
    · simp only [show ¬ (15 : Int32) = 14 by decide, not_false_eq_true, not_true_eq_false, if_true, if_false]
      rw [us_31, ju]
      simp only [le_nlt]
      by_cases q1 : l < 0
      · rcases and_1 (shr l (nI j - 1)) with q2 | q2
        · rw [q2]; simp only [q1, not_true_eq_false, if_true, if_false]; rfl
        · rw [q2]; simp only [q1, not_true_eq_false, if_true, if_false]; rfl
      · rcases and_1 (shr l (nI j - 1)) with q2 | q2
        · rw [q2]; simp only [q1, not_false_eq_true, if_true, if_false]; rfl
        · rw [q2]; simp only [q1, not_false_eq_true, if_true, if_false]; rfl
    · simp only [show ¬ (16 : Int32) = 14 by decide, show ¬ (16 : Int32) = 15 by decide, not_false_eq_true, if_true, if_false]
      rw [ju]
      rcases and_1 (shr l (nI j - 1)) with q2 | q2
      · rw [q2]; rfl
      · rw [q2]; rfl
theorem gm_wrk (h : τ 67 42 = nI w) (hw : w < 2) {op l r : Int32} (hop : opR op) : Mo_worked 67 op l r (mkG τ w c z s o) = some ((fw op l r c z s o).1, mkG τ w (fw op l r c z s o).2.1 (fw op l r c z s o).2.2.1 (fw op l r c z s o).2.2.2.1 (fw op l r c z s o).2.2.2.2) := by
  have h' : op = 0 ∨ op = 1 ∨ op = 2 ∨ op = 3 ∨ op = 4 ∨ op = 5 ∨ op = 6 ∨ op = 7 ∨ op = 9 ∨ op = 11 ∨ op = 12 ∨ op = 13 ∨ op = 14 ∨ op = 15 ∨ op = 16 ∨ op = 17 ∨ op = 18 := by
    rcases hop with ⟨a, b⟩ | a | ⟨a, b⟩
    · obtain ⟨j, hj, rfl⟩ := to_nI (m := 8) a 8 rfl (by decide) b
      have : ∀ j, j < 8 → (nI j = 0 ∨ nI j = 1 ∨ nI j = 2 ∨ nI j = 3 ∨ nI j = 4 ∨ nI j = 5 ∨ nI j = 6 ∨ nI j = 7) := by decide +kernel
      rcases this j hj with e | e | e | e | e | e | e | e <;> simp [e]
    · simp [a]
    · obtain ⟨j, hj, rfl⟩ := to_nI (m := 19) (nlt_of a (by decide)) 19 rfl (by decide) b
      have : ∀ j, j < 19 → ¬ nI j < 11 → (nI j = 11 ∨ nI j = 12 ∨ nI j = 13 ∨ nI j = 14 ∨ nI j = 15 ∨ nI j = 16 ∨ nI j = 17 ∨ nI j = 18) := by decide +kernel
      rcases this j hj a with e | e | e | e | e | e | e | e <;> simp [e]
  have sh : ∀ op, (op = 14 ∨ op = 15 ∨ op = 16) → Mo_worked_B225 67 op l r (mkG τ w c z s o) = some ((fw op l r c z s o).1, mkG τ w (fw op l r c z s o).2.1 (fw op l r c z s o).2.2.1 (fw op l r c z s o).2.2.2.1 (fw op l r c z s o).2.2.2.2) := by
    intro op h1
    have e : fw op l r c z s o = if r &&& 31 = 0 then (l, c, z, s, o) else fsh op l (r &&& 31) := by rcases h1 with rfl | rfl | rfl <;> rfl
    rw [e]
    unfold Mo_worked_B225
    rw [gm_shf h hw h1]
    by_cases h0 : r &&& 31 = 0
    · rw [if_pos h0, if_pos h0, cl_of]
    · rw [if_neg h0, if_neg h0, cl_of, (fsh_zs op l (r &&& 31)).1, (fsh_zs op l (r &&& 31)).2]
  have e256 : ∀ (c' z' s' o' v x1 : Int32), Mo_worked_B256 67 x1 v (mkG τ w c' z' s' o') = some (v, mkG τ w x1 z' s' o') := by
    intro c' z' s' o' v x1
    unfold Mo_worked_B256
    rw [cc_67_32, g4 h 0 0 rfl, sa_nI (by omega) (by decide), mkG_sc]
  unfold Mo_worked
  rw [cc_67_32, g4 h 0 0 rfl, ld_nI (by omega) (by decide), mkG_c]
  rcases h' with rfl | rfl | rfl | rfl | rfl | rfl | rfl | rfl | rfl | rfl | rfl | rfl | rfl | rfl | rfl | rfl | rfl
  · rw [if_pos rfl, gm_add h hw, cl_of]; rfl
  · rw [if_neg (by decide), if_pos rfl, gm_pln h hw, cl_of]; rfl
  · rw [if_neg (by decide), if_neg (by decide), if_pos rfl, gm_add h hw, cl_of]; rfl
  · rw [if_neg (by decide), if_neg (by decide), if_neg (by decide), if_pos rfl, gm_tak h hw, cl_of]; rfl
  · rw [if_neg (by decide), if_neg (by decide), if_neg (by decide), if_neg (by decide), if_pos rfl]; unfold Mo_worked_B134; rw [gm_pln h hw, cl_of]; rfl
  · rw [if_neg (by decide), if_neg (by decide), if_neg (by decide), if_neg (by decide), if_neg (by decide), if_pos rfl]; unfold Mo_worked_B142; rw [gm_tak h hw, cl_of]; rfl
  · rw [if_neg (by decide), if_neg (by decide), if_neg (by decide), if_neg (by decide), if_neg (by decide), if_neg (by decide), if_pos rfl, gm_pln h hw, cl_of]; rfl
  · rw [if_neg (by decide), if_neg (by decide), if_neg (by decide), if_neg (by decide), if_neg (by decide), if_neg (by decide), if_neg (by decide), if_pos rfl]; unfold Mo_worked_B142; rw [gm_tak h hw, cl_of]; rfl
  · rw [if_neg (by decide), if_neg (by decide), if_neg (by decide), if_neg (by decide), if_neg (by decide), if_neg (by decide), if_neg (by decide), if_neg (by decide), if_neg (by decide), if_pos rfl]; unfold Mo_worked_B134; rw [gm_pln h hw, cl_of]; rfl
  · rw [if_neg (by decide), if_neg (by decide), if_neg (by decide), if_neg (by decide), if_neg (by decide), if_neg (by decide), if_neg (by decide), if_neg (by decide), if_neg (by decide), if_neg (by decide), if_neg (by decide), if_pos rfl]
    simp only [nm_of]
    unfold Mo_worked_B201
    simp only [gm_both h hw]
    have eo : ov ((Int32.toInt64 l) * (Int32.toInt64 r)) = if lg_cmp ((Int32.toInt64 l) * (Int32.toInt64 r)) (Int32.toInt64 (Int64.toInt32 ((Int32.toInt64 l) * (Int32.toInt64 r)))) = 0 then 0 else 1 := rfl
    have ef : fw 11 l r c z s o = fx ((Int32.toInt64 l) * (Int32.toInt64 r)) (ov ((Int32.toInt64 l) * (Int32.toInt64 r))) := rfl
    rw [ef]
    unfold fx
    rw [eo]
    by_cases q : lg_cmp ((Int32.toInt64 l) * (Int32.toInt64 r)) (Int32.toInt64 (Int64.toInt32 ((Int32.toInt64 l) * (Int32.toInt64 r)))) = 0
    · rw [if_pos q, if_pos q, if_pos q]; rfl
    · rw [if_neg q, if_neg q, if_neg q]; rfl
  · rw [if_neg (by decide), if_neg (by decide), if_neg (by decide), if_neg (by decide), if_neg (by decide), if_neg (by decide), if_neg (by decide), if_neg (by decide), if_neg (by decide), if_neg (by decide), if_neg (by decide), if_neg (by decide), if_pos rfl]; rfl
  · rw [if_neg (by decide), if_neg (by decide), if_neg (by decide), if_neg (by decide), if_neg (by decide), if_neg (by decide), if_neg (by decide), if_neg (by decide), if_neg (by decide), if_neg (by decide), if_neg (by decide), if_neg (by decide), if_neg (by decide), if_pos rfl, gm_tak h hw, cl_of]; rfl
  · rw [if_neg (by decide), if_neg (by decide), if_neg (by decide), if_neg (by decide), if_neg (by decide), if_neg (by decide), if_neg (by decide), if_neg (by decide), if_neg (by decide), if_neg (by decide), if_neg (by decide), if_neg (by decide), if_neg (by decide), if_neg (by decide), if_pos rfl]; exact sh 14 (by simp)
  · rw [if_neg (by decide), if_neg (by decide), if_neg (by decide), if_neg (by decide), if_neg (by decide), if_neg (by decide), if_neg (by decide), if_neg (by decide), if_neg (by decide), if_neg (by decide), if_neg (by decide), if_neg (by decide), if_neg (by decide), if_neg (by decide), if_neg (by decide), if_pos rfl]; exact sh 15 (by simp)
  · rw [if_neg (by decide), if_neg (by decide), if_neg (by decide), if_neg (by decide), if_neg (by decide), if_neg (by decide), if_neg (by decide), if_neg (by decide), if_neg (by decide), if_neg (by decide), if_neg (by decide), if_neg (by decide), if_neg (by decide), if_neg (by decide), if_neg (by decide), if_neg (by decide), if_pos rfl]; exact sh 16 (by simp)
  · rw [if_neg (by decide), if_neg (by decide), if_neg (by decide), if_neg (by decide), if_neg (by decide), if_neg (by decide), if_neg (by decide), if_neg (by decide), if_neg (by decide), if_neg (by decide), if_neg (by decide), if_neg (by decide), if_neg (by decide), if_neg (by decide), if_neg (by decide), if_neg (by decide), if_neg (by decide)]; unfold Mo_worked_B233; rw [if_neg (by decide), gm_add h hw, cl_of, e256]; rfl
  · rw [if_neg (by decide), if_neg (by decide), if_neg (by decide), if_neg (by decide), if_neg (by decide), if_neg (by decide), if_neg (by decide), if_neg (by decide), if_neg (by decide), if_neg (by decide), if_neg (by decide), if_neg (by decide), if_neg (by decide), if_neg (by decide), if_neg (by decide), if_neg (by decide), if_neg (by decide)]; unfold Mo_worked_B233; rw [if_pos (by decide), gm_tak h hw, cl_of, e256]; rfl
end
