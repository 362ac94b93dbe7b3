/-! ===== the OPS that reckon: result, CARRY, ZERO, SIGN, OVERFLOW ===== -/
abbrev Fl : Type := Int32 × Int32 × Int32 × Int32 × Int32
def zv (v : Int32) : Int32 := if v = 0 then 1 else 0
def sv (v : Int32) : Int32 := if v < 0 then 1 else 0
def ov (x : Int64) : Int32 := if lg_cmp x (Int32.toInt64 (Int64.toInt32 x)) = 0 then 0 else 1
def adX (l r m : Int32) : Int64 := ((Int32.toInt64 l) + (Int32.toInt64 r)) + (Int32.toInt64 m)
def sbX (l r m : Int32) : Int64 := ((Int32.toInt64 l) - (Int32.toInt64 r)) - (Int32.toInt64 m)
def adC (l r m : Int32) : Int32 := if (lg_cmp ((((Int32.toInt64 l) &&& 4294967295) + ((Int32.toInt64 r) &&& 4294967295)) + (Int32.toInt64 m)) 4294967295) ≤ 0 then 0 else 1
def sbC (l r m : Int32) : Int32 := if (lg_cmp (((Int32.toInt64 r) &&& 4294967295) + (Int32.toInt64 m)) ((Int32.toInt64 l) &&& 4294967295)) ≤ 0 then 0 else 1
def fx (x : Int64) (c : Int32) : Fl := (Int64.toInt32 x, c, zv (Int64.toInt32 x), sv (Int64.toInt32 x), ov x)
def flg (v : Int32) : Fl := (v, 0, zv v, sv v, 0)
/-- a shift by n, 1 .. 31 -/
def fsh (op l n : Int32) : Fl :=
  if op = 14 then (shl l n, (ushr l (32 - n)) &&& 1, zv (shl l n), sv (shl l n), (ushr (shl l n) 31) ^^^ ((ushr l (32 - n)) &&& 1))
  else if op = 15 then (ushr l n, (ushr l (n - 1)) &&& 1, zv (ushr l n), sv (ushr l n), ushr l 31)
  else (shr l n, (ushr l (n - 1)) &&& 1, zv (shr l n), sv (shr l n), 0)
def fw (op l r c z s o : Int32) : Fl :=
  if op = 0 then fx (adX l r 0) (adC l r 0)
  else if op = 2 then fx (adX l r c) (adC l r c)
  else if op = 3 then fx (sbX l r c) (sbC l r c)
  else if op = 5 ∨ op = 7 then fx (sbX l r 0) (sbC l r 0)
  else if op = 13 then fx (sbX 0 l 0) (sbC 0 l 0)
  else if op = 17 then fx (adX l 1 0) c
  else if op = 18 then fx (sbX l 1 0) c
  else if op = 11 then fx ((Int32.toInt64 l) * (Int32.toInt64 r)) (ov ((Int32.toInt64 l) * (Int32.toInt64 r)))
  else if op = 12 then (l ^^^ (-1), c, z, s, o)
  else if op = 14 ∨ op = 15 ∨ op = 16 then (if r &&& 31 = 0 then (l, c, z, s, o) else fsh op l (r &&& 31))
  else if op = 1 then flg (l ||| r) else if op = 6 then flg (l ^^^ r) else flg (l &&& r)
abbrev opR (op : Int32) : Prop := (¬ op < 0 ∧ op < 8) ∨ op = 9 ∨ (¬ op < 11 ∧ op < 19)
section
variable {σ : St} {F : Nat} {c z s o : Int32}
theorem fc_nar {x : Int64} : Flags_narrowed F x (mkF σ F c z s o) = some (Int64.toInt32 x, mkF σ F c z s (ov x)) := by
  unfold Flags_narrowed ov
  by_cases h : lg_cmp x (Int32.toInt64 (Int64.toInt32 x)) = 0
  · rw [if_neg (not_not_intro h), if_pos h]; simp only [nm_of, mkF_c, mkF_sc, mkF_z, mkF_sz, mkF_s, mkF_ss, mkF_o, mkF_so]
  · rw [if_pos h, if_neg h]; simp only [nm_of, mkF_c, mkF_sc, mkF_z, mkF_sz, mkF_s, mkF_ss, mkF_o, mkF_so]
theorem fc_sum {l r m : Int32} : Flags_sum F l r m (mkF σ F c z s o) = some (Int64.toInt32 (adX l r m), mkF σ F (adC l r m) z s (ov (adX l r m))) := by
  unfold Flags_sum Flags_sum_B29 adC
  by_cases h : (lg_cmp ((((Int32.toInt64 l) &&& 4294967295) + ((Int32.toInt64 r) &&& 4294967295)) + (Int32.toInt64 m)) 4294967295) ≤ 0
  · rw [if_pos h, if_pos h]; simp only [nm_of, mkF_c, mkF_sc, mkF_z, mkF_sz, mkF_s, mkF_ss, mkF_o, mkF_so, fc_nar, cl_of]; rfl
  · rw [if_neg h, if_neg h]; simp only [nm_of, mkF_c, mkF_sc, mkF_z, mkF_sz, mkF_s, mkF_ss, mkF_o, mkF_so, fc_nar, cl_of]; rfl
theorem fc_dif {l r m : Int32} : Flags_difference F l r m (mkF σ F c z s o) = some (Int64.toInt32 (sbX l r m), mkF σ F (sbC l r m) z s (ov (sbX l r m))) := by
  unfold Flags_difference Flags_difference_B25 sbC
  by_cases h : (lg_cmp (((Int32.toInt64 r) &&& 4294967295) + (Int32.toInt64 m)) ((Int32.toInt64 l) &&& 4294967295)) ≤ 0
  · rw [if_pos h, if_pos h]; simp only [nm_of, mkF_c, mkF_sc, mkF_z, mkF_sz, mkF_s, mkF_ss, mkF_o, mkF_so, fc_nar, cl_of]; rfl
  · rw [if_neg h, if_neg h]; simp only [nm_of, mkF_c, mkF_sc, mkF_z, mkF_sz, mkF_s, mkF_ss, mkF_o, mkF_so, fc_nar, cl_of]; rfl
/-- ZERO and SIGN behind a result -/
theorem fc_zs {x : Int32} : (if ¬ x = 0 then nm (s2 (mkF σ F c z s o) F 1 0) fun σ3 => (if 0 ≤ x then nm (s2 σ3 F 2 0) fun σ4 => some (x, σ4) else nm (s2 σ3 F 2 1) fun σ5 => some (x, σ5)) else nm (s2 (mkF σ F c z s o) F 1 1) fun σ6 => (if 0 ≤ x then nm (s2 σ6 F 2 0) fun σ7 => some (x, σ7) else nm (s2 σ6 F 2 1) fun σ8 => some (x, σ8))) = some (x, mkF σ F c (zv x) (sv x) o) := by
  unfold zv sv
  simp only [le_nlt, nm_of, mkF_c, mkF_sc, mkF_z, mkF_sz, mkF_s, mkF_ss, mkF_o, mkF_so]
  by_cases h1 : x = 0
  · by_cases h2 : x < 0 <;> simp [h1, h2]
  · by_cases h2 : x < 0 <;> simp [h1, h2]
theorem fc_shf {op l n : Int32} (hop : op = 14 ∨ op = 15 ∨ op = 16) : Flags_shifted F op l n (mkF σ F c z s o) = some ((fsh op l n).1, mkF σ F (fsh op l n).2.1 z s (fsh op l n).2.2.2.2) := by
  unfold Flags_shifted Flags_shifted_B66 fsh
  rcases hop with rfl | rfl | rfl
  all_goals simp only [nm_of, mkF_c, mkF_sc, mkF_z, mkF_sz, mkF_s, mkF_ss, mkF_o, mkF_so, show ¬ (15 : Int32) = 14 by decide, show ¬ (16 : Int32) = 14 by decide, show ¬ (16 : Int32) = 15 by decide, not_true_eq_false, not_false_eq_true, if_true, if_false]
theorem fsh_zs (op l n : Int32) : (fsh op l n).2.2.1 = zv (fsh op l n).1 ∧ (fsh op l n).2.2.2.1 = sv (fsh op l n).1 := by
  unfold fsh; by_cases h : op = 14
  · rw [if_pos h]; exact ⟨rfl, rfl⟩
  · rw [if_neg h]
    by_cases h2 : op = 15
    · rw [if_pos h2]; exact ⟨rfl, rfl⟩
    · rw [if_neg h2]; exact ⟨rfl, rfl⟩
theorem fc_log {op l r : Int32} : Flags_reckon_B241 F op l r (mkF σ F c z s o) = (fun v => some (v, mkF σ F 0 (zv v) (sv v) 0)) (if op = 1 then l ||| r else if op = 6 then l ^^^ r else l &&& r) := by
  unfold Flags_reckon_B241 Flags_logic
  simp only [nm_of, mkF_c, mkF_sc, mkF_z, mkF_sz, mkF_s, mkF_ss, mkF_o, mkF_so]
  by_cases h1 : op = 1
  · simp only [h1, not_true_eq_false, if_false, if_true, cl_of]; exact fc_zs
  · by_cases h6 : op = 6
    · simp only [h6, show ¬ (6 : Int32) = 1 by decide, not_false_eq_true, not_true_eq_false, if_false, if_true, cl_of]; exact fc_zs
    · simp only [h1, h6, not_false_eq_true, if_true, if_false, cl_of]; exact fc_zs
theorem fc_rec {op l r : Int32} (h : opR op) : Flags_reckon F op l r (mkF σ F c z s o) = some ((fw op l r c z s o).1, mkF σ F (fw op l r c z s o).2.1 (fw op l r c z s o).2.2.1 (fw op l r c z s o).2.2.2.1 (fw op l r c z s o).2.2.2.2) := by
  have h' : op = 0 ∨ op = 1 ∨ op = 2 ∨ op = 3 ∨ op = 4 ∨ op = 5 ∨ op = 6 ∨ op = 7 ∨ op = 9 ∨ op = 11 ∨ op = 12 ∨ op = 13 ∨ op = 14 ∨ op = 15 ∨ op = 16 ∨ op = 17 ∨ op = 18 := by
    rcases h with ⟨a, b⟩ | a | ⟨a, b⟩
    · obtain ⟨j, hj, rfl⟩ := to_nI (m := 8) a 8 rfl (by decide) b
      have : ∀ j, j < 8 → (nI j = 0 ∨ nI j = 1 ∨ nI j = 2 ∨ nI j = 3 ∨ nI j = 4 ∨ nI j = 5 ∨ nI j = 6 ∨ nI j = 7) := by decide +kernel
      rcases this j hj with e | e | e | e | e | e | e | e <;> simp [e]
    · simp [a]
    · obtain ⟨j, hj, rfl⟩ := to_nI (m := 19) (nlt_of a (by decide)) 19 rfl (by decide) b
      have : ∀ j, j < 19 → ¬ nI j < 11 → (nI j = 11 ∨ nI j = 12 ∨ nI j = 13 ∨ nI j = 14 ∨ nI j = 15 ∨ nI j = 16 ∨ nI j = 17 ∨ nI j = 18) := by decide +kernel
      rcases this j hj a with e | e | e | e | e | e | e | e <;> simp [e]
  have lg : ∀ op, (op = 1 ∨ op = 4 ∨ op = 6 ∨ op = 9) → Flags_reckon_B241 F op l r (mkF σ F c z s o) = some ((fw op l r c z s o).1, mkF σ F (fw op l r c z s o).2.1 (fw op l r c z s o).2.2.1 (fw op l r c z s o).2.2.2.1 (fw op l r c z s o).2.2.2.2) := by
    intro op h; rw [fc_log]; rcases h with rfl | rfl | rfl | rfl <;> rfl
  have sh : ∀ op, (op = 14 ∨ op = 15 ∨ op = 16) → Flags_reckon_B217 F op l r (mkF σ F c z s o) = some ((fw op l r c z s o).1, mkF σ F (fw op l r c z s o).2.1 (fw op l r c z s o).2.2.1 (fw op l r c z s o).2.2.2.1 (fw op l r c z s o).2.2.2.2) := by
    intro op h
    have e : fw op l r c z s o = if r &&& 31 = 0 then (l, c, z, s, o) else fsh op l (r &&& 31) := by rcases h with rfl | rfl | rfl <;> rfl
    rw [e]
    unfold Flags_reckon_B217
    by_cases h0 : r &&& 31 = 0
    · rw [if_neg (not_not_intro h0), if_pos h0]
    · rw [if_pos h0, if_neg h0, fc_shf h, cl_of, fc_zs, (fsh_zs op l (r &&& 31)).1, (fsh_zs op l (r &&& 31)).2]
  unfold Flags_reckon
  rw [nm_of]
  simp only [mkF_c]
  rcases h' with rfl | rfl | rfl | rfl | rfl | rfl | rfl | rfl | rfl | rfl | rfl | rfl | rfl | rfl | rfl | rfl | rfl
  · rw [if_pos rfl, fc_sum, cl_of, fc_zs]; rfl
  · rw [if_neg (by decide), if_pos rfl]; exact lg 1 (by simp)
  · rw [if_neg (by decide), if_neg (by decide), if_pos rfl, fc_sum, cl_of, fc_zs]; rfl
  · rw [if_neg (by decide), if_neg (by decide), if_neg (by decide), if_pos rfl, fc_dif, cl_of, fc_zs]; rfl
  · rw [if_neg (by decide), if_neg (by decide), if_neg (by decide), if_neg (by decide), if_pos rfl]; exact lg 4 (by simp)
  · rw [if_neg (by decide), if_neg (by decide), if_neg (by decide), if_neg (by decide), if_neg (by decide), if_pos rfl]; unfold Flags_reckon_B142; rw [fc_dif, cl_of, fc_zs]; rfl
  · rw [if_neg (by decide), if_neg (by decide), if_neg (by decide), if_neg (by decide), if_neg (by decide), if_neg (by decide), if_pos rfl]; exact lg 6 (by simp)
  · rw [if_neg (by decide), if_neg (by decide), if_neg (by decide), if_neg (by decide), if_neg (by decide), if_neg (by decide), if_neg (by decide), if_pos rfl]; unfold Flags_reckon_B142; rw [fc_dif, cl_of, fc_zs]; rfl
  · rw [if_neg (by decide), if_neg (by decide), if_neg (by decide), if_neg (by decide), if_neg (by decide), if_neg (by decide), if_neg (by decide), if_neg (by decide), if_neg (by decide), if_pos rfl]; exact lg 9 (by simp)
  · rw [if_neg (by decide), if_neg (by decide), if_neg (by decide), if_neg (by decide), if_neg (by decide), if_neg (by decide), if_neg (by decide), if_neg (by decide), if_neg (by decide), if_neg (by decide), if_neg (by decide), if_pos rfl]; unfold Flags_product; rw [fc_nar, cl_of, nm_of, mkF_o, mkF_sc, cl_of, fc_zs]; rfl
  · rw [if_neg (by decide), if_neg (by decide), if_neg (by decide), if_neg (by decide), if_neg (by decide), if_neg (by decide), if_neg (by decide), if_neg (by decide), if_neg (by decide), if_neg (by decide), if_neg (by decide), if_neg (by decide), if_pos rfl]; rfl
  · rw [if_neg (by decide), if_neg (by decide), if_neg (by decide), if_neg (by decide), if_neg (by decide), if_neg (by decide), if_neg (by decide), if_neg (by decide), if_neg (by decide), if_neg (by decide), if_neg (by decide), if_neg (by decide), if_neg (by decide), if_pos rfl, fc_dif, cl_of, fc_zs]; rfl
  · rw [if_neg (by decide), if_neg (by decide), if_neg (by decide), if_neg (by decide), if_neg (by decide), if_neg (by decide), if_neg (by decide), if_neg (by decide), if_neg (by decide), if_neg (by decide), if_neg (by decide), if_neg (by decide), if_neg (by decide), if_neg (by decide), if_pos rfl]; exact sh 14 (by simp)
  · rw [if_neg (by decide), if_neg (by decide), if_neg (by decide), if_neg (by decide), if_neg (by decide), if_neg (by decide), if_neg (by decide), if_neg (by decide), if_neg (by decide), if_neg (by decide), if_neg (by decide), if_neg (by decide), if_neg (by decide), if_neg (by decide), if_neg (by decide), if_pos rfl]; exact sh 15 (by simp)
  · rw [if_neg (by decide), if_neg (by decide), if_neg (by decide), if_neg (by decide), if_neg (by decide), if_neg (by decide), if_neg (by decide), if_neg (by decide), if_neg (by decide), if_neg (by decide), if_neg (by decide), if_neg (by decide), if_neg (by decide), if_neg (by decide), if_neg (by decide), if_neg (by decide), if_pos rfl]; exact sh 16 (by simp)
  · rw [if_neg (by decide), if_neg (by decide), if_neg (by decide), if_neg (by decide), if_neg (by decide), if_neg (by decide), if_neg (by decide), if_neg (by decide), if_neg (by decide), if_neg (by decide), if_neg (by decide), if_neg (by decide), if_neg (by decide), if_neg (by decide), if_neg (by decide), if_neg (by decide), if_neg (by decide), if_pos rfl, fc_sum, cl_of, nm_of, mkF_sc, fc_zs]; rfl
  · rw [if_neg (by decide), if_neg (by decide), if_neg (by decide), if_neg (by decide), if_neg (by decide), if_neg (by decide), if_neg (by decide), if_neg (by decide), if_neg (by decide), if_neg (by decide), if_neg (by decide), if_neg (by decide), if_neg (by decide), if_neg (by decide), if_neg (by decide), if_neg (by decide), if_neg (by decide), if_neg (by decide), if_pos rfl, fc_dif, cl_of, nm_of, mkF_sc, fc_zs]; rfl
end
