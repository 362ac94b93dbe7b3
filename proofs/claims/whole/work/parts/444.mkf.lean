def mkF (σ : St) (F : Nat) (c z s o : Int32) : St := fun d k => if d = F then (if k = 0 then c else if k = 1 then z else if k = 2 then s else if k = 3 then o else σ d k) else σ d k
def mkG (σ : St) (w : Nat) (c z s o : Int32) : St := fun d k => if d = 89 then (if k = 4 * w then c else if k = 4 * w + 1 then z else if k = 4 * w + 2 then s else if k = 4 * w + 3 then o else σ d k) else σ d k
section
variable {σ : St} {F w : Nat} {c z s o v : Int32}
theorem mkF_c : (mkF σ F c z s o) F 0 = c := by simp [mkF]
theorem mkF_sc : s2 (mkF σ F c z s o) F 0 v = mkF σ F v z s o := by
  funext d j; rw [s2_at]; unfold mkF; by_cases e : d = F
  · subst e; by_cases e2 : j = 0
    · subst e2; simp
    · simp [e2]
  · simp [e]
theorem mkG_c : (mkG σ w c z s o) 89 (4 * w + 0) = c := by simp [mkG]
theorem mkG_sc : s2 (mkG σ w c z s o) 89 (4 * w + 0) v = mkG σ w v z s o := by
  funext d j; rw [s2_at]; unfold mkG; by_cases e : d = 89
  · subst e; by_cases e2 : j = 4 * w + 0
    · subst e2; simp
    · try simp only [Nat.add_zero] at e2
      simp [e2]
  · simp [e]
theorem mkF_z : (mkF σ F c z s o) F 1 = z := by simp [mkF]
theorem mkF_sz : s2 (mkF σ F c z s o) F 1 v = mkF σ F c v s o := by
  funext d j; rw [s2_at]; unfold mkF; by_cases e : d = F
  · subst e; by_cases e2 : j = 1
    · subst e2; simp
    · simp [e2]
  · simp [e]
theorem mkG_z : (mkG σ w c z s o) 89 (4 * w + 1) = z := by simp [mkG]
theorem mkG_sz : s2 (mkG σ w c z s o) 89 (4 * w + 1) v = mkG σ w c v s o := by
  funext d j; rw [s2_at]; unfold mkG; by_cases e : d = 89
  · subst e; by_cases e2 : j = 4 * w + 1
    · subst e2; simp
    · try simp only [Nat.add_zero] at e2
      simp [e2]
  · simp [e]
theorem mkF_s : (mkF σ F c z s o) F 2 = s := by simp [mkF]
theorem mkF_ss : s2 (mkF σ F c z s o) F 2 v = mkF σ F c z v o := by
  funext d j; rw [s2_at]; unfold mkF; by_cases e : d = F
  · subst e; by_cases e2 : j = 2
    · subst e2; simp
    · simp [e2]
  · simp [e]
theorem mkG_s : (mkG σ w c z s o) 89 (4 * w + 2) = s := by simp [mkG]
theorem mkG_ss : s2 (mkG σ w c z s o) 89 (4 * w + 2) v = mkG σ w c z v o := by
  funext d j; rw [s2_at]; unfold mkG; by_cases e : d = 89
  · subst e; by_cases e2 : j = 4 * w + 2
    · subst e2; simp
    · try simp only [Nat.add_zero] at e2
      simp [e2]
  · simp [e]
theorem mkF_o : (mkF σ F c z s o) F 3 = o := by simp [mkF]
theorem mkF_so : s2 (mkF σ F c z s o) F 3 v = mkF σ F c z s v := by
  funext d j; rw [s2_at]; unfold mkF; by_cases e : d = F
  · subst e; by_cases e2 : j = 3
    · subst e2; simp
    · simp [e2]
  · simp [e]
theorem mkG_o : (mkG σ w c z s o) 89 (4 * w + 3) = o := by simp [mkG]
theorem mkG_so : s2 (mkG σ w c z s o) 89 (4 * w + 3) v = mkG σ w c z s v := by
  funext d j; rw [s2_at]; unfold mkG; by_cases e : d = 89
  · subst e; by_cases e2 : j = 4 * w + 3
    · subst e2; simp
    · try simp only [Nat.add_zero] at e2
      simp [e2]
  · simp [e]
theorem mkF_row {d : Nat} (h : d ≠ F) : (mkF σ F c z s o) d = σ d := by funext k; simp [mkF, h]
theorem mkG_row {d : Nat} (h : d ≠ 89) : (mkG σ w c z s o) d = σ d := by funext k; simp [mkG, h]
theorem mkG_oth {k : Nat} (h : k < 4 * w ∨ 4 * w + 3 < k) : (mkG σ w c z s o) 89 k = σ 89 k := by
  unfold mkG; rw [if_pos rfl, if_neg (by omega), if_neg (by omega), if_neg (by omega), if_neg (by omega)]
end
theorem mkF_self (σ : St) (F : Nat) : σ = mkF σ F (σ F 0) (σ F 1) (σ F 2) (σ F 3) := by
  funext d j; unfold mkF; by_cases e : d = F
  · subst e; rw [if_pos rfl]; repeat' split
    all_goals first | rfl | (rename_i hq; rw [hq])
  · simp [e]
theorem mkG_self (σ : St) (w : Nat) : σ = mkG σ w (σ 89 (4 * w)) (σ 89 (4 * w + 1)) (σ 89 (4 * w + 2)) (σ 89 (4 * w + 3)) := by
  funext d j; unfold mkG; by_cases e : d = 89
  · subst e; rw [if_pos rfl]; repeat' split
    all_goals first | rfl | (rename_i hq; rw [hq])
  · simp [e]
