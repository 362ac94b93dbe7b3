def mkR (σ : St) (v0 f : Nat) (nx g os vs ds ir md lo op fm r x d i ln : Int32) : St := fun c k =>
  if c = v0 then (if k = 2 then nx else if k = 3 then g else if k = 4 then os else if k = 5 then vs else if k = 6 then ds else if k = 7 then ir else if k = 8 then md else if k = 9 then lo else σ c k)
  else if c = f then (if k = 0 then op else if k = 1 then fm else if k = 2 then r else if k = 3 then x else if k = 4 then d else if k = 5 then i else if k = 6 then ln else σ c k)
  else σ c k
section
variable {σ : St} {v0 f : Nat} {nx g os vs ds ir md lo op fm r x d i ln w : Int32}
theorem mkR_nx : (mkR σ v0 f nx g os vs ds ir md lo op fm r x d i ln) v0 2 = nx := by simp [mkR]
theorem mkR_snx : s2 (mkR σ v0 f nx g os vs ds ir md lo op fm r x d i ln) v0 2 w = mkR σ v0 f w g os vs ds ir md lo op fm r x d i ln := by
  funext c j; rw [s2_at]; unfold mkR; by_cases e : c = v0
  · subst e; by_cases e2 : j = 2
    · subst e2; simp
    · simp [e2]
  · simp [e]
theorem mkR_g : (mkR σ v0 f nx g os vs ds ir md lo op fm r x d i ln) v0 3 = g := by simp [mkR]
theorem mkR_sg : s2 (mkR σ v0 f nx g os vs ds ir md lo op fm r x d i ln) v0 3 w = mkR σ v0 f nx w os vs ds ir md lo op fm r x d i ln := by
  funext c j; rw [s2_at]; unfold mkR; by_cases e : c = v0
  · subst e; by_cases e2 : j = 3
    · subst e2; simp
    · simp [e2]
  · simp [e]
theorem mkR_os : (mkR σ v0 f nx g os vs ds ir md lo op fm r x d i ln) v0 4 = os := by simp [mkR]
theorem mkR_sos : s2 (mkR σ v0 f nx g os vs ds ir md lo op fm r x d i ln) v0 4 w = mkR σ v0 f nx g w vs ds ir md lo op fm r x d i ln := by
  funext c j; rw [s2_at]; unfold mkR; by_cases e : c = v0
  · subst e; by_cases e2 : j = 4
    · subst e2; simp
    · simp [e2]
  · simp [e]
theorem mkR_vs : (mkR σ v0 f nx g os vs ds ir md lo op fm r x d i ln) v0 5 = vs := by simp [mkR]
theorem mkR_svs : s2 (mkR σ v0 f nx g os vs ds ir md lo op fm r x d i ln) v0 5 w = mkR σ v0 f nx g os w ds ir md lo op fm r x d i ln := by
  funext c j; rw [s2_at]; unfold mkR; by_cases e : c = v0
  · subst e; by_cases e2 : j = 5
    · subst e2; simp
    · simp [e2]
  · simp [e]
theorem mkR_ds : (mkR σ v0 f nx g os vs ds ir md lo op fm r x d i ln) v0 6 = ds := by simp [mkR]
theorem mkR_sds : s2 (mkR σ v0 f nx g os vs ds ir md lo op fm r x d i ln) v0 6 w = mkR σ v0 f nx g os vs w ir md lo op fm r x d i ln := by
  funext c j; rw [s2_at]; unfold mkR; by_cases e : c = v0
  · subst e; by_cases e2 : j = 6
    · subst e2; simp
    · simp [e2]
  · simp [e]
theorem mkR_ir : (mkR σ v0 f nx g os vs ds ir md lo op fm r x d i ln) v0 7 = ir := by simp [mkR]
theorem mkR_sir : s2 (mkR σ v0 f nx g os vs ds ir md lo op fm r x d i ln) v0 7 w = mkR σ v0 f nx g os vs ds w md lo op fm r x d i ln := by
  funext c j; rw [s2_at]; unfold mkR; by_cases e : c = v0
  · subst e; by_cases e2 : j = 7
    · subst e2; simp
    · simp [e2]
  · simp [e]
theorem mkR_md : (mkR σ v0 f nx g os vs ds ir md lo op fm r x d i ln) v0 8 = md := by simp [mkR]
theorem mkR_smd : s2 (mkR σ v0 f nx g os vs ds ir md lo op fm r x d i ln) v0 8 w = mkR σ v0 f nx g os vs ds ir w lo op fm r x d i ln := by
  funext c j; rw [s2_at]; unfold mkR; by_cases e : c = v0
  · subst e; by_cases e2 : j = 8
    · subst e2; simp
    · simp [e2]
  · simp [e]
theorem mkR_lo : (mkR σ v0 f nx g os vs ds ir md lo op fm r x d i ln) v0 9 = lo := by simp [mkR]
theorem mkR_slo : s2 (mkR σ v0 f nx g os vs ds ir md lo op fm r x d i ln) v0 9 w = mkR σ v0 f nx g os vs ds ir md w op fm r x d i ln := by
  funext c j; rw [s2_at]; unfold mkR; by_cases e : c = v0
  · subst e; by_cases e2 : j = 9
    · subst e2; simp
    · simp [e2]
  · simp [e]
theorem mkR_op (h : f ≠ v0) : (mkR σ v0 f nx g os vs ds ir md lo op fm r x d i ln) f 0 = op := by simp [mkR, h]
theorem mkR_sop (h : f ≠ v0) : s2 (mkR σ v0 f nx g os vs ds ir md lo op fm r x d i ln) f 0 w = mkR σ v0 f nx g os vs ds ir md lo w fm r x d i ln := by
  funext c j; rw [s2_at]; unfold mkR; by_cases e : c = f
  · subst e; by_cases e2 : j = 0
    · subst e2; simp [h]
    · simp [h, e2]
  · simp [e]
theorem mkR_fm (h : f ≠ v0) : (mkR σ v0 f nx g os vs ds ir md lo op fm r x d i ln) f 1 = fm := by simp [mkR, h]
theorem mkR_sfm (h : f ≠ v0) : s2 (mkR σ v0 f nx g os vs ds ir md lo op fm r x d i ln) f 1 w = mkR σ v0 f nx g os vs ds ir md lo op w r x d i ln := by
  funext c j; rw [s2_at]; unfold mkR; by_cases e : c = f
  · subst e; by_cases e2 : j = 1
    · subst e2; simp [h]
    · simp [h, e2]
  · simp [e]
theorem mkR_r (h : f ≠ v0) : (mkR σ v0 f nx g os vs ds ir md lo op fm r x d i ln) f 2 = r := by simp [mkR, h]
theorem mkR_sr (h : f ≠ v0) : s2 (mkR σ v0 f nx g os vs ds ir md lo op fm r x d i ln) f 2 w = mkR σ v0 f nx g os vs ds ir md lo op fm w x d i ln := by
  funext c j; rw [s2_at]; unfold mkR; by_cases e : c = f
  · subst e; by_cases e2 : j = 2
    · subst e2; simp [h]
    · simp [h, e2]
  · simp [e]
theorem mkR_x (h : f ≠ v0) : (mkR σ v0 f nx g os vs ds ir md lo op fm r x d i ln) f 3 = x := by simp [mkR, h]
theorem mkR_sx (h : f ≠ v0) : s2 (mkR σ v0 f nx g os vs ds ir md lo op fm r x d i ln) f 3 w = mkR σ v0 f nx g os vs ds ir md lo op fm r w d i ln := by
  funext c j; rw [s2_at]; unfold mkR; by_cases e : c = f
  · subst e; by_cases e2 : j = 3
    · subst e2; simp [h]
    · simp [h, e2]
  · simp [e]
theorem mkR_d (h : f ≠ v0) : (mkR σ v0 f nx g os vs ds ir md lo op fm r x d i ln) f 4 = d := by simp [mkR, h]
theorem mkR_sd (h : f ≠ v0) : s2 (mkR σ v0 f nx g os vs ds ir md lo op fm r x d i ln) f 4 w = mkR σ v0 f nx g os vs ds ir md lo op fm r x w i ln := by
  funext c j; rw [s2_at]; unfold mkR; by_cases e : c = f
  · subst e; by_cases e2 : j = 4
    · subst e2; simp [h]
    · simp [h, e2]
  · simp [e]
theorem mkR_i (h : f ≠ v0) : (mkR σ v0 f nx g os vs ds ir md lo op fm r x d i ln) f 5 = i := by simp [mkR, h]
theorem mkR_si (h : f ≠ v0) : s2 (mkR σ v0 f nx g os vs ds ir md lo op fm r x d i ln) f 5 w = mkR σ v0 f nx g os vs ds ir md lo op fm r x d w ln := by
  funext c j; rw [s2_at]; unfold mkR; by_cases e : c = f
  · subst e; by_cases e2 : j = 5
    · subst e2; simp [h]
    · simp [h, e2]
  · simp [e]
theorem mkR_ln (h : f ≠ v0) : (mkR σ v0 f nx g os vs ds ir md lo op fm r x d i ln) f 6 = ln := by simp [mkR, h]
theorem mkR_sln (h : f ≠ v0) : s2 (mkR σ v0 f nx g os vs ds ir md lo op fm r x d i ln) f 6 w = mkR σ v0 f nx g os vs ds ir md lo op fm r x d i w := by
  funext c j; rw [s2_at]; unfold mkR; by_cases e : c = f
  · subst e; by_cases e2 : j = 6
    · subst e2; simp [h]
    · simp [h, e2]
  · simp [e]
theorem mkR_else {c k : Nat} (h1 : c ≠ v0) (h2 : c ≠ f) : (mkR σ v0 f nx g os vs ds ir md lo op fm r x d i ln) c k = σ c k := by simp [mkR, h1, h2]
theorem mkR_row {c : Nat} (h1 : c ≠ v0) (h2 : c ≠ f) : (mkR σ v0 f nx g os vs ds ir md lo op fm r x d i ln) c = σ c := by funext k; simp [mkR, h1, h2]
end
theorem mkR_self (σ : St) {v0 f : Nat} (h : f ≠ v0) : σ = mkR σ v0 f (σ v0 2) (σ v0 3) (σ v0 4) (σ v0 5) (σ v0 6) (σ v0 7) (σ v0 8) (σ v0 9) (σ f 0) (σ f 1) (σ f 2) (σ f 3) (σ f 4) (σ f 5) (σ f 6) := by
  funext c j; unfold mkR; by_cases e : c = v0
  · subst e; rw [if_pos rfl]; repeat' split
    all_goals first | rfl | (rename_i hq; rw [hq])
  · by_cases e2 : c = f
    · subst e2; rw [if_neg e, if_pos rfl]; repeat' split
      all_goals first | rfl | (rename_i hq; rw [hq])
    · simp [e, e2]
