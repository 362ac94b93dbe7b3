/-! ===== the class's Reader ===== -/
def RH (v0 f s q : Nat) : Prop := ch v0 0 = f ∧ ch v0 1 = s ∧ ch s 0 = q ∧ f ≠ v0 ∧ s ≠ v0 ∧ s ≠ f ∧ q ≠ v0 ∧ q ≠ f
section
variable {σ : St} {v0 f s q n p : Nat} {nx g os vs ds ir md lo op fm r x d i ln : Int32}
theorem ct (H : RH v0 f s q) (hn : σ s 2 = nI n) (hN : n ≤ 1100) (hp : p < n) :
    Reader_take v0 (mkR σ v0 f (nI p) g os vs ds ir md lo op fm r x d i ln) = some (σ q p, mkR σ v0 f (nI (p + 1)) g os vs ds ir md lo op fm r x d i ln) := by
  obtain ⟨h0, h1, h2, hf, hs1, hs2, hq1, hq2⟩ := H
  unfold Reader_take
  simp only [nm_of, cl_of, cv_of, zb_0, zb_1, mkR_nx, mkR_g, mkR_os, mkR_vs, mkR_ds, mkR_ir, mkR_md, mkR_lo, mkR_op hf, mkR_fm hf, mkR_r hf, mkR_x hf, mkR_d hf, mkR_i hf, mkR_ln hf, mkR_snx, mkR_sg, mkR_sos, mkR_svs, mkR_sds, mkR_sir, mkR_smd, mkR_slo, mkR_sop hf, mkR_sfm hf, mkR_sr hf, mkR_sx hf, mkR_sd hf, mkR_si hf, mkR_sln hf, h1, h2, mkR_else hs1 hs2, hn, nI_1]
  rw [if_neg (nI_pos (by omega)), if_pos (nI_lt hp (by omega)), ld_nI (by omega) (by decide), mkR_else hq1 hq2]
theorem ctB (H : RH v0 f s q) (hn : σ s 2 = nI n) (hN : n ≤ 1100) : ∃ a,
    Reader_take v0 (mkR σ v0 f nx 0 os vs ds ir md lo op fm r x d i ln) = some (a, mkR σ v0 f (nx + 1) 0 os vs ds ir md lo op fm r x d i ln) := by
  obtain ⟨h0, h1, h2, hf, hs1, hs2, hq1, hq2⟩ := H
  unfold Reader_take
  simp only [nm_of, cl_of, cv_of, zb_0, zb_1, mkR_nx, mkR_g, mkR_os, mkR_vs, mkR_ds, mkR_ir, mkR_md, mkR_lo, mkR_op hf, mkR_fm hf, mkR_r hf, mkR_x hf, mkR_d hf, mkR_i hf, mkR_ln hf, mkR_snx, mkR_sg, mkR_sos, mkR_svs, mkR_sds, mkR_sir, mkR_smd, mkR_slo, mkR_sop hf, mkR_sfm hf, mkR_sr hf, mkR_sx hf, mkR_sd hf, mkR_si hf, mkR_sln hf, h1, h2, mkR_else hs1 hs2, hn]
  by_cases c1 : nx < 0
  · rw [if_pos c1]; exact ⟨_, rfl⟩
  · rw [if_neg c1]
    by_cases c2 : nx < nI n
    · obtain ⟨j, hj, rfl⟩ := nI_of c1
      have := (nI_ltI hj (by omega)).mp c2
      rw [if_pos c2, ld_nI (by omega) (by decide)]; exact ⟨_, rfl⟩
    · rw [if_neg c2]; exact ⟨_, rfl⟩
theorem ctO (H : RH v0 f s q) (hn : σ s 2 = nI n) (hN : n ≤ 1100) (h : nx < 0 ∨ ¬ nx < nI n) :
    Reader_take v0 (mkR σ v0 f nx g os vs ds ir md lo op fm r x d i ln) = some (0, mkR σ v0 f (nx + 1) 0 os vs ds ir md lo op fm r x d i ln) := by
  obtain ⟨h0, h1, h2, hf, hs1, hs2, hq1, hq2⟩ := H
  unfold Reader_take
  simp only [nm_of, cl_of, cv_of, zb_0, zb_1, mkR_nx, mkR_g, mkR_os, mkR_vs, mkR_ds, mkR_ir, mkR_md, mkR_lo, mkR_op hf, mkR_fm hf, mkR_r hf, mkR_x hf, mkR_d hf, mkR_i hf, mkR_ln hf, mkR_snx, mkR_sg, mkR_sos, mkR_svs, mkR_sds, mkR_sir, mkR_smd, mkR_slo, mkR_sop hf, mkR_sfm hf, mkR_sr hf, mkR_sx hf, mkR_sd hf, mkR_si hf, mkR_sln hf, h1, h2, mkR_else hs1 hs2, hn]
  by_cases c1 : nx < 0
  · rw [if_pos c1]
  · rw [if_neg c1, if_neg (h.resolve_left c1)]
theorem out_of (hN : n ≤ 1100) (hp : p < 2 ^ 30) (h : ¬ p < n) : nI p < 0 ∨ ¬ nI p < nI n := Or.inr (nI_nlt (by omega) (by omega))
/-- a reader that has gone wrong -/
def Bd (σ : St) (v0 f : Nat) (τ : St) : Prop := ∃ nx os vs ds ir md lo op fm r x d i ln, τ = mkR σ v0 f nx 0 os vs ds ir md lo op fm r x d i ln
theorem bd_mk : Bd σ v0 f (mkR σ v0 f nx 0 os vs ds ir md lo op fm r x d i ln) := ⟨_, _, _, _, _, _, _, _, _, _, _, _, _, _, rfl⟩
theorem bd_take (H : RH v0 f s q) (hn : σ s 2 = nI n) (hN : n ≤ 1100) {τ : St} (h : Bd σ v0 f τ) : wp (Reader_take v0 τ) fun _ => Bd σ v0 f := by
  obtain ⟨_, _, _, _, _, _, _, _, _, _, _, _, _, _, rfl⟩ := h
  obtain ⟨a, e⟩ := ctB (nx := _) H hn hN
  rw [e]; exact wp_some.mpr bd_mk
theorem bd_num (H : RH v0 f s q) (hn : σ s 2 = nI n) (hN : n ≤ 1100) {τ : St} {z : Int32} (h : Bd σ v0 f τ) : wp (Reader_takeNumber v0 z τ) fun _ => Bd σ v0 f := by
  unfold Reader_takeNumber
  have T := fun {τ : St} => bd_take (τ := τ) H hn hN
  simp only [wp_ite, wp_cl, wp_some, wp_nm]
  refine ⟨fun _ => wp_mono (T h) fun a τ1 h1 => ⟨fun _ => ⟨fun _ => h1, fun _ => wp_mono (T h1) fun _ _ h2 => wp_mono (T h2) fun _ _ h3 => wp_mono (T h3) fun _ _ h4 => h4⟩, fun _ => h1⟩, fun _ => h⟩
end
/-- how a reader's fields are set -/
theorem bd_s {σ : St} {v0 f : Nat} (hf : f ≠ v0) {τ : St} (h : Bd σ v0 f τ) (k : Nat) (w : Int32) (hk : k = 2 ∨ k = 4 ∨ k = 5 ∨ k = 6 ∨ k = 7 ∨ k = 8 ∨ k = 9) : Bd σ v0 f (s2 τ v0 k w) := by
  obtain ⟨_, _, _, _, _, _, _, _, _, _, _, _, _, _, rfl⟩ := h
  rcases hk with rfl | rfl | rfl | rfl | rfl | rfl | rfl
  all_goals simp only [mkR_snx, mkR_sg, mkR_sos, mkR_svs, mkR_sds, mkR_sir, mkR_smd, mkR_slo, mkR_sop hf, mkR_sfm hf, mkR_sr hf, mkR_sx hf, mkR_sd hf, mkR_si hf, mkR_sln hf]
  all_goals exact bd_mk
theorem bd_s0 {σ : St} {v0 f : Nat} (hf : f ≠ v0) {τ : St} (h : Bd σ v0 f τ) : Bd σ v0 f (s2 τ v0 3 0) := by
  obtain ⟨_, _, _, _, _, _, _, _, _, _, _, _, _, _, rfl⟩ := h
  simp only [mkR_snx, mkR_sg, mkR_sos, mkR_svs, mkR_sds, mkR_sir, mkR_smd, mkR_slo, mkR_sop hf, mkR_sfm hf, mkR_sr hf, mkR_sx hf, mkR_sd hf, mkR_si hf, mkR_sln hf]
  exact bd_mk
theorem bd_f {σ : St} {v0 f : Nat} (hf : f ≠ v0) {τ : St} (h : Bd σ v0 f τ) (k : Nat) (w : Int32) (hk : k < 7) : Bd σ v0 f (s2 τ f k w) := by
  obtain ⟨_, _, _, _, _, _, _, _, _, _, _, _, _, _, rfl⟩ := h
  match k, hk with
  | 0, _ => simp only [mkR_snx, mkR_sg, mkR_sos, mkR_svs, mkR_sds, mkR_sir, mkR_smd, mkR_slo, mkR_sop hf, mkR_sfm hf, mkR_sr hf, mkR_sx hf, mkR_sd hf, mkR_si hf, mkR_sln hf]; exact bd_mk
  | 1, _ => simp only [mkR_snx, mkR_sg, mkR_sos, mkR_svs, mkR_sds, mkR_sir, mkR_smd, mkR_slo, mkR_sop hf, mkR_sfm hf, mkR_sr hf, mkR_sx hf, mkR_sd hf, mkR_si hf, mkR_sln hf]; exact bd_mk
  | 2, _ => simp only [mkR_snx, mkR_sg, mkR_sos, mkR_svs, mkR_sds, mkR_sir, mkR_smd, mkR_slo, mkR_sop hf, mkR_sfm hf, mkR_sr hf, mkR_sx hf, mkR_sd hf, mkR_si hf, mkR_sln hf]; exact bd_mk
  | 3, _ => simp only [mkR_snx, mkR_sg, mkR_sos, mkR_svs, mkR_sds, mkR_sir, mkR_smd, mkR_slo, mkR_sop hf, mkR_sfm hf, mkR_sr hf, mkR_sx hf, mkR_sd hf, mkR_si hf, mkR_sln hf]; exact bd_mk
  | 4, _ => simp only [mkR_snx, mkR_sg, mkR_sos, mkR_svs, mkR_sds, mkR_sir, mkR_smd, mkR_slo, mkR_sop hf, mkR_sfm hf, mkR_sr hf, mkR_sx hf, mkR_sd hf, mkR_si hf, mkR_sln hf]; exact bd_mk
  | 5, _ => simp only [mkR_snx, mkR_sg, mkR_sos, mkR_svs, mkR_sds, mkR_sir, mkR_smd, mkR_slo, mkR_sop hf, mkR_sfm hf, mkR_sr hf, mkR_sx hf, mkR_sd hf, mkR_si hf, mkR_sln hf]; exact bd_mk
  | 6, _ => simp only [mkR_snx, mkR_sg, mkR_sos, mkR_svs, mkR_sds, mkR_sir, mkR_smd, mkR_slo, mkR_sop hf, mkR_sfm hf, mkR_sr hf, mkR_sx hf, mkR_sd hf, mkR_si hf, mkR_sln hf]; exact bd_mk
theorem bd_g {σ : St} {v0 f : Nat} {τ : St} (h : Bd σ v0 f τ) : τ v0 3 = 0 := by
  obtain ⟨_, _, _, _, _, _, _, _, _, _, _, _, _, _, rfl⟩ := h
  exact mkR_g
theorem bd_c {σ : St} {v0 f : Nat} {τ : St} (h : Bd σ v0 f τ) : ∃ nx os vs ds ir md lo op fm r x d i ln, τ = mkR σ v0 f nx 0 os vs ds ir md lo op fm r x d i ln := h
theorem le_nlt (a b : Int32) : (a ≤ b) = ¬ (b < a) := propext ⟨fun h k => by
    have h1 := Int32.le_iff_toInt_le.mp h; have h2 := Int32.lt_iff_toInt_lt.mp k; omega, fun h => Int32.le_iff_toInt_le.mpr (by
    have := mt Int32.lt_iff_toInt_lt.mpr h; omega)⟩
section
variable {σ : St} {v0 f s q n p : Nat} {nx g os vs ds ir md lo op fm r x d i ln : Int32}
theorem cx_expect (hf : f ≠ v0) (h0 : ch v0 0 = f) {o' f' r' v' : Int32} : Reader_expect v0 o' f' r' v' (mkR σ v0 f nx g os vs ds ir md lo op fm r x d i ln) = some (mkR σ v0 f nx g os v' ds ir md lo o' f' r' x d i ln) := by
  unfold Reader_expect; simp only [nm_of, cl_of, cv_of, zb_0, zb_1, mkR_nx, mkR_g, mkR_os, mkR_vs, mkR_ds, mkR_ir, mkR_md, mkR_lo, mkR_op hf, mkR_fm hf, mkR_r hf, mkR_x hf, mkR_d hf, mkR_i hf, mkR_ln hf, mkR_snx, mkR_sg, mkR_sos, mkR_svs, mkR_sds, mkR_sir, mkR_smd, mkR_slo, mkR_sop hf, mkR_sfm hf, mkR_sr hf, mkR_sx hf, mkR_sd hf, mkR_si hf, mkR_sln hf, h0]
theorem cx_operand (hf : f ≠ v0) (h0 : ch v0 0 = f) {s' o' v' : Int32} : Reader_expectOperand v0 s' o' v' (mkR σ v0 f nx g os vs ds ir md lo op fm r x d i ln) = some (mkR σ v0 f nx g s' v' ds ir md lo o' fm r x d i ln) := by
  unfold Reader_expectOperand; simp only [nm_of, cl_of, cv_of, zb_0, zb_1, mkR_nx, mkR_g, mkR_os, mkR_vs, mkR_ds, mkR_ir, mkR_md, mkR_lo, mkR_op hf, mkR_fm hf, mkR_r hf, mkR_x hf, mkR_d hf, mkR_i hf, mkR_ln hf, mkR_snx, mkR_sg, mkR_sos, mkR_svs, mkR_sds, mkR_sir, mkR_smd, mkR_slo, mkR_sop hf, mkR_sfm hf, mkR_sr hf, mkR_sx hf, mkR_sd hf, mkR_si hf, mkR_sln hf, h0]
theorem cx_branchB (hf : f ≠ v0) (h0 : ch v0 0 = f) {c z : Int32} : Reader_expectBranch v0 c z (mkR σ v0 f nx 0 os vs ds ir md lo op fm r x d i ln) = some (mkR σ v0 f nx 0 os z ds ir md lo 25 8 c x d i ln) := by
  unfold Reader_expectBranch Reader_expectBranch_B20; simp only [nm_of, cl_of, cv_of, zb_0, zb_1, mkR_nx, mkR_g, mkR_os, mkR_vs, mkR_ds, mkR_ir, mkR_md, mkR_lo, mkR_op hf, mkR_fm hf, mkR_r hf, mkR_x hf, mkR_d hf, mkR_i hf, mkR_ln hf, mkR_snx, mkR_sg, mkR_sos, mkR_svs, mkR_sds, mkR_sir, mkR_smd, mkR_slo, mkR_sop hf, mkR_sfm hf, mkR_sr hf, mkR_sx hf, mkR_sd hf, mkR_si hf, mkR_sln hf, cx_expect hf h0, if_pos]
theorem cx_branch (hf : f ≠ v0) (h0 : ch v0 0 = f) {c z : Int32} : Reader_expectBranch v0 c z (mkR σ v0 f nx 1 os vs ds ir md lo op fm r x d i ln) = some (mkR σ v0 f nx (if c < 0 ∨ 15 < c ∨ c = 10 ∨ c = 11 then 0 else 1) os z ds ir md lo 25 8 c x d i ln) := by
  unfold Reader_expectBranch Reader_expectBranch_B20 House_isCondition
  by_cases c1 : c < 0
  · simp [nm_of, cl_of, cv_of, zb_0, zb_1, mkR_nx, mkR_g, mkR_os, mkR_vs, mkR_ds, mkR_ir, mkR_md, mkR_lo, mkR_op hf, mkR_fm hf, mkR_r hf, mkR_x hf, mkR_d hf, mkR_i hf, mkR_ln hf, mkR_snx, mkR_sg, mkR_sos, mkR_svs, mkR_sds, mkR_sir, mkR_smd, mkR_slo, mkR_sop hf, mkR_sfm hf, mkR_sr hf, mkR_sx hf, mkR_sd hf, mkR_si hf, mkR_sln hf, cx_expect hf h0, c1]
  · by_cases c2 : 15 < c
    · simp [nm_of, cl_of, cv_of, zb_0, zb_1, mkR_nx, mkR_g, mkR_os, mkR_vs, mkR_ds, mkR_ir, mkR_md, mkR_lo, mkR_op hf, mkR_fm hf, mkR_r hf, mkR_x hf, mkR_d hf, mkR_i hf, mkR_ln hf, mkR_snx, mkR_sg, mkR_sos, mkR_svs, mkR_sds, mkR_sir, mkR_smd, mkR_slo, mkR_sop hf, mkR_sfm hf, mkR_sr hf, mkR_sx hf, mkR_sd hf, mkR_si hf, mkR_sln hf, cx_expect hf h0, c1, c2]
    · by_cases c3 : c = 10
      · simp [nm_of, cl_of, cv_of, zb_0, zb_1, mkR_nx, mkR_g, mkR_os, mkR_vs, mkR_ds, mkR_ir, mkR_md, mkR_lo, mkR_op hf, mkR_fm hf, mkR_r hf, mkR_x hf, mkR_d hf, mkR_i hf, mkR_ln hf, mkR_snx, mkR_sg, mkR_sos, mkR_svs, mkR_sds, mkR_sir, mkR_smd, mkR_slo, mkR_sop hf, mkR_sfm hf, mkR_sr hf, mkR_sx hf, mkR_sd hf, mkR_si hf, mkR_sln hf, cx_expect hf h0, c1, c2, c3]
      · by_cases c4 : c = 11
        · simp [nm_of, cl_of, cv_of, zb_0, zb_1, mkR_nx, mkR_g, mkR_os, mkR_vs, mkR_ds, mkR_ir, mkR_md, mkR_lo, mkR_op hf, mkR_fm hf, mkR_r hf, mkR_x hf, mkR_d hf, mkR_i hf, mkR_ln hf, mkR_snx, mkR_sg, mkR_sos, mkR_svs, mkR_sds, mkR_sir, mkR_smd, mkR_slo, mkR_sop hf, mkR_sfm hf, mkR_sr hf, mkR_sx hf, mkR_sd hf, mkR_si hf, mkR_sln hf, cx_expect hf h0, c1, c2, c3, c4]
        · simp [nm_of, cl_of, cv_of, zb_0, zb_1, mkR_nx, mkR_g, mkR_os, mkR_vs, mkR_ds, mkR_ir, mkR_md, mkR_lo, mkR_op hf, mkR_fm hf, mkR_r hf, mkR_x hf, mkR_d hf, mkR_i hf, mkR_ln hf, mkR_snx, mkR_sg, mkR_sos, mkR_svs, mkR_sds, mkR_sir, mkR_smd, mkR_slo, mkR_sop hf, mkR_sfm hf, mkR_sr hf, mkR_sx hf, mkR_sd hf, mkR_si hf, mkR_sln hf, cx_expect hf h0, c1, c2, c3, c4]
/-- a state of the reader behind the first byte -/
def SH (σ : St) (v0 f : Nat) (w : Int32 × Int32 × Int32 × Int32 × Int32) (nx ds ir md lo ln : Int32) (τ : St) : Prop :=
  if w.1 = 9 then Bd σ v0 f τ else τ = mkR σ v0 f nx 1 w.1 w.2.2.2.2 ds ir md lo w.2.1 w.2.2.1 w.2.2.2.1 0 0 0 ln
end
