def mkM (σ : St) (v0 : Nat) (fr li aT op fm r x d i kf m : Int32) : St := fun c k =>
  if c = v0 then (if k = 43 then fr else if k = 44 then li else if k = 45 then aT else if k = 46 then op else if k = 47 then fm else if k = 48 then r else if k = 49 then x else if k = 50 then d else if k = 51 then i else if k = 52 then kf else if k = 53 then m else σ c k) else σ c k
section
variable {σ : St} {v0 : Nat} {fr li aT op fm r x d i kf m w : Int32}
theorem mkM_fr : (mkM σ v0 fr li aT op fm r x d i kf m) v0 43 = fr := by simp [mkM]
theorem mkM_sfr : s2 (mkM σ v0 fr li aT op fm r x d i kf m) v0 43 w = mkM σ v0 w li aT op fm r x d i kf m := by
  funext c j; rw [s2_at]; unfold mkM; by_cases e : c = v0
  · subst e; by_cases e2 : j = 43
    · subst e2; simp
    · simp [e2]
  · simp [e]
theorem mkM_li : (mkM σ v0 fr li aT op fm r x d i kf m) v0 44 = li := by simp [mkM]
theorem mkM_sli : s2 (mkM σ v0 fr li aT op fm r x d i kf m) v0 44 w = mkM σ v0 fr w aT op fm r x d i kf m := by
  funext c j; rw [s2_at]; unfold mkM; by_cases e : c = v0
  · subst e; by_cases e2 : j = 44
    · subst e2; simp
    · simp [e2]
  · simp [e]
theorem mkM_aT : (mkM σ v0 fr li aT op fm r x d i kf m) v0 45 = aT := by simp [mkM]
theorem mkM_saT : s2 (mkM σ v0 fr li aT op fm r x d i kf m) v0 45 w = mkM σ v0 fr li w op fm r x d i kf m := by
  funext c j; rw [s2_at]; unfold mkM; by_cases e : c = v0
  · subst e; by_cases e2 : j = 45
    · subst e2; simp
    · simp [e2]
  · simp [e]
theorem mkM_op : (mkM σ v0 fr li aT op fm r x d i kf m) v0 46 = op := by simp [mkM]
theorem mkM_sop : s2 (mkM σ v0 fr li aT op fm r x d i kf m) v0 46 w = mkM σ v0 fr li aT w fm r x d i kf m := by
  funext c j; rw [s2_at]; unfold mkM; by_cases e : c = v0
  · subst e; by_cases e2 : j = 46
    · subst e2; simp
    · simp [e2]
  · simp [e]
theorem mkM_fm : (mkM σ v0 fr li aT op fm r x d i kf m) v0 47 = fm := by simp [mkM]
theorem mkM_sfm : s2 (mkM σ v0 fr li aT op fm r x d i kf m) v0 47 w = mkM σ v0 fr li aT op w r x d i kf m := by
  funext c j; rw [s2_at]; unfold mkM; by_cases e : c = v0
  · subst e; by_cases e2 : j = 47
    · subst e2; simp
    · simp [e2]
  · simp [e]
theorem mkM_r : (mkM σ v0 fr li aT op fm r x d i kf m) v0 48 = r := by simp [mkM]
theorem mkM_sr : s2 (mkM σ v0 fr li aT op fm r x d i kf m) v0 48 w = mkM σ v0 fr li aT op fm w x d i kf m := by
  funext c j; rw [s2_at]; unfold mkM; by_cases e : c = v0
  · subst e; by_cases e2 : j = 48
    · subst e2; simp
    · simp [e2]
  · simp [e]
theorem mkM_x : (mkM σ v0 fr li aT op fm r x d i kf m) v0 49 = x := by simp [mkM]
theorem mkM_sx : s2 (mkM σ v0 fr li aT op fm r x d i kf m) v0 49 w = mkM σ v0 fr li aT op fm r w d i kf m := by
  funext c j; rw [s2_at]; unfold mkM; by_cases e : c = v0
  · subst e; by_cases e2 : j = 49
    · subst e2; simp
    · simp [e2]
  · simp [e]
theorem mkM_d : (mkM σ v0 fr li aT op fm r x d i kf m) v0 50 = d := by simp [mkM]
theorem mkM_sd : s2 (mkM σ v0 fr li aT op fm r x d i kf m) v0 50 w = mkM σ v0 fr li aT op fm r x w i kf m := by
  funext c j; rw [s2_at]; unfold mkM; by_cases e : c = v0
  · subst e; by_cases e2 : j = 50
    · subst e2; simp
    · simp [e2]
  · simp [e]
theorem mkM_i : (mkM σ v0 fr li aT op fm r x d i kf m) v0 51 = i := by simp [mkM]
theorem mkM_si : s2 (mkM σ v0 fr li aT op fm r x d i kf m) v0 51 w = mkM σ v0 fr li aT op fm r x d w kf m := by
  funext c j; rw [s2_at]; unfold mkM; by_cases e : c = v0
  · subst e; by_cases e2 : j = 51
    · subst e2; simp
    · simp [e2]
  · simp [e]
theorem mkM_kf : (mkM σ v0 fr li aT op fm r x d i kf m) v0 52 = kf := by simp [mkM]
theorem mkM_skf : s2 (mkM σ v0 fr li aT op fm r x d i kf m) v0 52 w = mkM σ v0 fr li aT op fm r x d i w m := by
  funext c j; rw [s2_at]; unfold mkM; by_cases e : c = v0
  · subst e; by_cases e2 : j = 52
    · subst e2; simp
    · simp [e2]
  · simp [e]
theorem mkM_m : (mkM σ v0 fr li aT op fm r x d i kf m) v0 53 = m := by simp [mkM]
theorem mkM_sm : s2 (mkM σ v0 fr li aT op fm r x d i kf m) v0 53 w = mkM σ v0 fr li aT op fm r x d i kf w := by
  funext c j; rw [s2_at]; unfold mkM; by_cases e : c = v0
  · subst e; by_cases e2 : j = 53
    · subst e2; simp
    · simp [e2]
  · simp [e]
theorem mkM_else {c k : Nat} (h1 : c ≠ v0) : (mkM σ v0 fr li aT op fm r x d i kf m) c k = σ c k := by simp [mkM, h1]
theorem mkM_row {c : Nat} (h1 : c ≠ v0) : (mkM σ v0 fr li aT op fm r x d i kf m) c = σ c := by funext k; simp [mkM, h1]
theorem mkM_oth {k : Nat} (h : k < 43 ∨ 53 < k) : (mkM σ v0 fr li aT op fm r x d i kf m) v0 k = σ v0 k := by
  unfold mkM; rw [if_pos rfl]; rw [if_neg (by omega)]; rw [if_neg (by omega)]; rw [if_neg (by omega)]; rw [if_neg (by omega)]; rw [if_neg (by omega)]; rw [if_neg (by omega)]; rw [if_neg (by omega)]; rw [if_neg (by omega)]; rw [if_neg (by omega)]; rw [if_neg (by omega)]; rw [if_neg (by omega)]
end
theorem mkM_self (σ : St) {v0 : Nat} : σ = mkM σ v0 (σ v0 43) (σ v0 44) (σ v0 45) (σ v0 46) (σ v0 47) (σ v0 48) (σ v0 49) (σ v0 50) (σ v0 51) (σ v0 52) (σ v0 53) := by
  funext c j; unfold mkM; by_cases e : c = v0
  · subst e; rw [if_pos rfl]; repeat' split
    all_goals first | rfl | (rename_i hq; rw [hq])
  · simp [e]
