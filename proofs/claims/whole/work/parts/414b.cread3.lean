section
variable {σ : St} {v0 f s q n p p' : Nat} {nx g os vs ds ir md lo op fm r x d i ln : Int32}
theorem bd_v (hf : f ≠ v0) {τ : St} (h : Bd σ v0 f τ) {k : Nat} {w : Int32} (hk : (decide (k = 2 ∨ k = 4 ∨ k = 5 ∨ k = 6 ∨ k = 7 ∨ k = 8 ∨ k = 9)) = true) : Bd σ v0 f (s2 τ v0 k w) := bd_s hf h k w (of_decide_eq_true hk)
theorem bd_w (hf : f ≠ v0) {τ : St} (h : Bd σ v0 f τ) {k : Nat} {w : Int32} (hk : (decide (k < 7)) = true) : Bd σ v0 f (s2 τ f k w) := bd_f hf h k w (of_decide_eq_true hk)
theorem bd_145 (hf : f ≠ v0) {τ : St} (h : Bd σ v0 f τ) {a b c e t1 : Int32} : wv (Reader_takeOperand_B145 v0 a b c e f t1 τ) (Bd σ v0 f) := by
  unfold Reader_takeOperand_B145
  simp only [wv_ite, wv_nm, wv_some]
  refine ⟨fun _ => ⟨fun _ => ?_, fun _ => ?_⟩, fun _ => ⟨fun _ => ?_, fun _ => ⟨fun _ => ?_, fun _ => ?_⟩⟩⟩
  all_goals repeat (first | exact h | exact bd_mk | (refine bd_v hf ?_ rfl) | (refine bd_w hf ?_ rfl) | (refine bd_s0 hf ?_))
theorem bd_39 (H : RH v0 f s q) (hn : σ s 2 = nI n) (hN : n ≤ 1100) {τ : St} (h : Bd σ v0 f τ) {a b : Int32} (hb : b = 0 ∨ b = 1) : wv (Reader_takeOperand_B39 v0 a v0 b τ) (Bd σ v0 f) := by
  have hf := H.2.2.2.1
  have h0 := H.1
  unfold Reader_takeOperand_B39
  rw [zb_ok hb, wv_nm, wv_nm]
  have h : Bd σ v0 f (s2 (s2 τ v0 7 b) v0 6 0) := by repeat (first | exact h | exact bd_mk | (refine bd_v hf ?_ rfl) | (refine bd_w hf ?_ rfl) | (refine bd_s0 hf ?_))
  generalize s2 (s2 τ v0 7 b) v0 6 0 = τ at h ⊢
  simp only [wv_ite, wv_nm, wv_some, h0]
  refine ⟨fun _ => ⟨fun _ => ⟨fun _ => bd_145 hf h, fun _ => ⟨fun _ => bd_145 hf h, fun _ => bd_145 hf h⟩⟩, fun _ => ?_⟩, fun _ => h⟩
  rw [wv_cl]
  refine wp_mono (bd_take H hn hN h) fun a τ h => ?_
  simp only [wv_ite, wv_nm, wv_some]
  exact ⟨fun _ => ⟨fun _ => bd_145 hf h, fun _ => ⟨fun _ => bd_145 hf h, fun _ => bd_145 hf h⟩⟩, fun _ => ⟨fun _ => bd_145 hf h, fun _ => ⟨fun _ => bd_145 hf h, fun _ => bd_145 hf h⟩⟩⟩
theorem bd_operand (H : RH v0 f s q) (hn : σ s 2 = nI n) (hN : n ≤ 1100) {τ : St} (h : Bd σ v0 f τ) : wv (Reader_takeOperand v0 τ) (Bd σ v0 f) := by
  have hf := H.2.2.2.1
  unfold Reader_takeOperand
  rw [wv_cl]
  refine wp_mono (bd_take H hn hN h) fun a τ h => ?_
  simp only [wv_ite, wv_nm, wv_some]
  exact ⟨fun _ => bd_39 H hn hN (bd_v hf (bd_v hf h rfl) rfl) (Or.inl rfl), fun _ => bd_39 H hn hN (bd_v hf (bd_v hf h rfl) rfl) (Or.inr rfl)⟩
theorem cn_opndN (H : RH v0 f s q) (hn : σ s 2 = nI n) (hN : n ≤ 1100) (hq : p < 2 ^ 29) (h : opnd (σ q) n p = none) :
    wv (Reader_takeOperand v0 (mkR σ v0 f (nI p) g os vs ds ir md lo op fm r x d i ln)) (Bd σ v0 f) := by
  have hf := H.2.2.2.1
  have h0 := H.1
  unfold opnd at h
  by_cases hp : p < n
  · rw [if_pos hp] at h
    by_cases c3 : shr (σ q p) 6 = 3
    · rw [if_pos c3] at h; cases h
    · rw [if_neg c3] at h
      by_cases c4 : σ q p &&& 7 = 4
      · rw [if_pos c4] at h
        by_cases hp1 : p + 1 < n
        · rw [if_pos hp1] at h; split at h <;> cases h
        · unfold Reader_takeOperand Reader_takeOperand_B39
          rw [ct H hn hN hp, cl_of]
          simp only [nm_of, cl_of, cv_of, zb_0, zb_1, mkR_nx, mkR_g, mkR_os, mkR_vs, mkR_ds, mkR_ir, mkR_md, mkR_lo, mkR_op hf, mkR_fm hf, mkR_r hf, mkR_x hf, mkR_d hf, mkR_i hf, mkR_ln hf, mkR_snx, mkR_sg, mkR_sos, mkR_svs, mkR_sds, mkR_sir, mkR_smd, mkR_slo, mkR_sop hf, mkR_sfm hf, mkR_sr hf, mkR_sx hf, mkR_sd hf, mkR_si hf, mkR_sln hf, c3, not_false_eq_true, if_true, h0, c4, not_true, if_false]
          rw [ctO H hn hN (out_of hN (by omega) hp1), cl_of]
          simp only [wv_ite, wv_nm, wv_some]
          exact ⟨fun _ => ⟨fun _ => bd_145 hf bd_mk, fun _ => ⟨fun _ => bd_145 hf bd_mk, fun _ => bd_145 hf bd_mk⟩⟩, fun _ => ⟨fun _ => bd_145 hf bd_mk, fun _ => ⟨fun _ => bd_145 hf bd_mk, fun _ => bd_145 hf bd_mk⟩⟩⟩
      · rw [if_neg c4] at h; cases h
  · unfold Reader_takeOperand
    rw [ctO H hn hN (out_of hN (by omega) hp), cl_of]
    simp only [wv_ite, wv_nm, wv_some]
    exact ⟨fun _ => bd_39 H hn hN (bd_v hf (bd_v hf bd_mk rfl) rfl) (Or.inl rfl), fun _ => bd_39 H hn hN (bd_v hf (bd_v hf bd_mk rfl) rfl) (Or.inr rfl)⟩
theorem opnd_end {row : Nat → Int32} {a b c : Int32} (h : opnd row n p = some (a, b, c, p')) : p < p' ∧ p' ≤ n ∧ (a = 0 ∨ a = 1) ∧ (a = 1 → b = 0) := by
  unfold opnd at h
  by_cases hp : p < n
  · rw [if_pos hp] at h
    split at h
    · cases h; exact ⟨by omega, by omega, Or.inr rfl, fun _ => rfl⟩
    · split at h
      · split at h
        · split at h <;> cases h <;> exact ⟨by omega, by omega, Or.inl rfl, fun h => absurd h (by decide)⟩
        · cases h
      · cases h; exact ⟨by omega, by omega, Or.inl rfl, fun h => absurd h (by decide)⟩
  · rw [if_neg hp] at h; cases h
theorem cn_gop (hf : f ≠ v0) {l : Int32} : Reader_groupOp v0 l (mkR σ v0 f nx g os vs ds ir md lo op fm r x d i ln) = some (gop l md ir, mkR σ v0 f nx g os vs ds ir md lo op fm r x d i ln) := by
  unfold Reader_groupOp gop
  simp only [mkR_nx, mkR_g, mkR_os, mkR_vs, mkR_ds, mkR_ir, mkR_md, mkR_lo, mkR_op hf, mkR_fm hf, mkR_r hf, mkR_x hf, mkR_d hf, mkR_i hf, mkR_ln hf]
  repeat' split
  all_goals first | rfl | (subst_vars; first | rfl | contradiction)
theorem bd_gop (hf : f ≠ v0) {τ : St} (h : Bd σ v0 f τ) {l : Int32} : wp (Reader_groupOp v0 l τ) fun _ => Bd σ v0 f := by
  obtain ⟨_, _, _, _, _, _, _, _, _, _, _, _, _, _, rfl⟩ := h
  rw [cn_gop hf]; exact wp_some.mpr bd_mk
theorem bd_form (hf : f ≠ v0) (h0 : ch v0 0 = f) {τ : St} (h : Bd σ v0 f τ) {l : Int32} : wv (Reader_giveForm v0 l τ) (Bd σ v0 f) := by
  obtain ⟨nx, os, vs, ds, ir, md, lo, op, fm, r, x, d, i, ln, rfl⟩ := h
  unfold Reader_giveForm Reader_giveForm_B123 Reader_giveForm_B142 Reader_giveForm_B253 Reader_giveForm_B270 Reader_giveForm_B24 Reader_giveForm_B49
  simp only [cn_gop hf, nm_of, cl_of, cv_of, zb_0, zb_1, mkR_nx, mkR_g, mkR_os, mkR_vs, mkR_ds, mkR_ir, mkR_md, mkR_lo, mkR_op hf, mkR_fm hf, mkR_r hf, mkR_x hf, mkR_d hf, mkR_i hf, mkR_ln hf, mkR_snx, mkR_sg, mkR_sos, mkR_svs, mkR_sds, mkR_sir, mkR_smd, mkR_slo, mkR_sop hf, mkR_sfm hf, mkR_sr hf, mkR_sx hf, mkR_sd hf, mkR_si hf, mkR_sln hf, h0, if_true]
  simp only [wv_ite, wv_some]
  repeat' (first | (refine ⟨fun _ => ?_, fun _ => ?_⟩) | exact bd_mk)
theorem cn_form (hf : f ≠ v0) (h0 : ch v0 0 = f) {l : Int32} : wv (Reader_giveForm v0 l (mkR σ v0 f nx 1 os vs ds ir md lo op fm r x d i ln)) fun τ =>
    match gf l os op vs md lo ir x with
    | none => Bd σ v0 f τ
    | some (o, m, r', x') => τ = mkR σ v0 f nx 1 os vs ds ir md lo o m r' x' d i ln := by
  unfold Reader_giveForm Reader_giveForm_B123 Reader_giveForm_B142 Reader_giveForm_B253 Reader_giveForm_B270 Reader_giveForm_B24 Reader_giveForm_B49
  simp only [cn_gop hf, nm_of, cl_of, cv_of, zb_0, zb_1, mkR_nx, mkR_g, mkR_os, mkR_vs, mkR_ds, mkR_ir, mkR_md, mkR_lo, mkR_op hf, mkR_fm hf, mkR_r hf, mkR_x hf, mkR_d hf, mkR_i hf, mkR_ln hf, mkR_snx, mkR_sg, mkR_sos, mkR_svs, mkR_sds, mkR_sir, mkR_smd, mkR_slo, mkR_sop hf, mkR_sfm hf, mkR_sr hf, mkR_sx hf, mkR_sd hf, mkR_si hf, mkR_sln hf, h0]
  unfold gf
  by_cases c1 : os = 1
  · by_cases c2 : ir = 0
    · simp [c1, c2, wv_some]
    · simp [c1, c2, wv_some]
  · by_cases c2 : os = 2
    · by_cases c3 : ir = 0
      · simp [c2, c3, wv_some]
      · by_cases c4 : op = 10
        · simp [c2, c3, c4, wv_some, bd_mk]
        · simp [c2, c3, c4, wv_some]
    · by_cases c5 : ir = 0
      · subst c5
        by_cases c3 : gop l md 0 = -1
        · by_cases c4 : vs = 0
          · simp [c1, c2, c3, c4, wv_some, bd_mk]
          · simp [c1, c2, c3, c4, wv_some, bd_mk]
        · by_cases c4 : vs = 0
          · simp [c1, c2, c3, c4, wv_some]
          · simp [c1, c2, c3, c4, wv_some]
      · by_cases c3 : gop l md ir = -1
        · by_cases c4 : vs = 0
          · simp [c1, c2, c3, c4, c5, wv_some, bd_mk]
          · simp [c1, c2, c3, c4, c5, wv_some, bd_mk]
        · by_cases c4 : vs = 0
          · simp [c1, c2, c3, c4, c5, wv_some]
          · simp [c1, c2, c3, c4, c5, wv_some]
theorem nI_sub {a b : Nat} (h : b ≤ a) (ha : a < 2 ^ 31) : nI a - nI b = nI (a - b) := by
  have e : nI a = nI b + nI (a - b) := by rw [nI_add]; congr 1; omega
  rw [e, Int32.add_comm, Int32.add_sub_cancel]
/-- what a reader says, and what it has found -/
def RD (σ : St) (v0 f : Nat) (p : Nat) (o : Option Ins) (a : Int32) (τ : St) : Prop :=
  match o with
  | none => a = 0 ∧ Bd σ v0 f τ
  | some (op, fm, r, x, d, i, e) => a = 1 ∧ ∃ os vs ds ir md lo, τ = mkR σ v0 f (nI e) 1 os vs ds ir md lo op fm r x d i (nI (e - p))
theorem bd_91 (H : RH v0 f s q) (hn : σ s 2 = nI n) (hN : n ≤ 1100) {τ : St} (h : Bd σ v0 f τ) {l : Int32} : wp (Reader_read_B91 v0 l τ) fun a τ => a = 0 ∧ Bd σ v0 f τ := by
  have hf := H.2.2.2.1
  have h0 := H.1
  unfold Reader_read_B91
  rw [wp_cl]
  refine wp_mono (bd_num H hn hN h) fun a τ h => ?_
  rw [wp_nm, wp_nm, h0]
  have h : Bd σ v0 f (s2 (s2 τ f 5 a) f 6 (s2 τ f 5 a v0 2 - l)) := by repeat (first | exact h | exact bd_mk | (refine bd_v hf ?_ rfl) | (refine bd_w hf ?_ rfl) | (refine bd_s0 hf ?_))
  rw [bd_g h, zb_0]
  exact wp_some.mpr ⟨rfl, h⟩
theorem bd_60 (H : RH v0 f s q) (hn : σ s 2 = nI n) (hN : n ≤ 1100) {τ : St} (h : Bd σ v0 f τ) {l k : Int32} : wp (Reader_read_B60 v0 l k τ) fun a τ => a = 0 ∧ Bd σ v0 f τ := by
  have hf := H.2.2.2.1
  have h0 := H.1
  unfold Reader_read_B60
  refine wp_ite.mpr ⟨fun _ => bd_91 H hn hN h, fun _ => ?_⟩
  rw [wp_cv]
  refine wv_mono (bd_operand H hn hN h) fun τ h => ?_
  rw [wp_cv]
  refine wv_mono (bd_form hf h0 h) fun τ h => ?_
  rw [wp_cl]
  refine wp_mono (bd_num H hn hN h) fun a τ h => ?_
  rw [wp_nm, h0]
  exact bd_91 H hn hN (bd_w hf h rfl)
theorem cn_91 (H : RH v0 f s q) (hn : σ s 2 = nI n) (hN : n ≤ 1100) {p0 : Nat} (h0p : p0 ≤ p) (hp : p ≤ n) :
    wp (Reader_read_B91 v0 (nI p0) (mkR σ v0 f (nI p) 1 os vs ds ir md lo op fm r x d i ln)) (RD σ v0 f p0 (dI (σ q) n vs op fm r x d p)) := by
  have hf := H.2.2.2.1
  have h0 := H.1
  unfold Reader_read_B91 dI
  rw [wp_cl, mkR_vs]
  cases hd : num (σ q) n vs p with
  | none =>
    refine wp_mono (cn_numN H hn hN (by omega) hd) fun a τ h => ?_
    rw [wp_nm, wp_nm, h0]
    have h : Bd σ v0 f (s2 (s2 τ f 5 a) f 6 (s2 τ f 5 a v0 2 - nI p0)) := by repeat (first | exact h | exact bd_mk | (refine bd_v hf ?_ rfl) | (refine bd_w hf ?_ rfl) | (refine bd_s0 hf ?_))
    rw [bd_g h, zb_0]
    exact wp_some.mpr ⟨rfl, h⟩
  | some w =>
    obtain ⟨v, p'⟩ := w
    have he := num_end hd hp
    rw [cn_num H hn hN hd, wp_some, wp_nm, wp_nm, h0]
    simp only [nm_of, cl_of, cv_of, zb_0, zb_1, mkR_nx, mkR_g, mkR_os, mkR_vs, mkR_ds, mkR_ir, mkR_md, mkR_lo, mkR_op hf, mkR_fm hf, mkR_r hf, mkR_x hf, mkR_d hf, mkR_i hf, mkR_ln hf, mkR_snx, mkR_sg, mkR_sos, mkR_svs, mkR_sds, mkR_sir, mkR_smd, mkR_slo, mkR_sop hf, mkR_sfm hf, mkR_sr hf, mkR_sx hf, mkR_sd hf, mkR_si hf, mkR_sln hf]
    refine wp_some.mpr ⟨rfl, os, vs, ds, ir, md, lo, ?_⟩
    rw [nI_sub (by omega) (by omega)]
theorem cn_60 (H : RH v0 f s q) (hn : σ s 2 = nI n) (hN : n ≤ 1100) {p0 : Nat} (h0p : p0 ≤ p) (hp : p ≤ n) {l : Int32} {w : Int32 × Int32 × Int32 × Int32 × Int32} {τ : St} (h : SH σ v0 f w (nI p) ds ir md lo ln τ) :
    wp (Reader_read_B60 v0 (nI p0) l τ) (RD σ v0 f p0 (dB (σ q) n l w p)) := by
  have hf := H.2.2.2.1
  have h0 := H.1
  unfold SH at h
  unfold dB
  by_cases c9 : w.1 = 9
  · rw [if_pos c9] at h ⊢
    exact bd_60 H hn hN h
  · rw [if_neg c9] at h ⊢
    subst h
    unfold Reader_read_B60
    rw [mkR_os]
    by_cases c0 : w.1 = 0
    · rw [if_pos c0, if_pos c0]
      exact cn_91 H hn hN h0p hp
    · rw [if_neg c0, if_neg c0]
      cases ho : opnd (σ q) n p with
      | none =>
        rw [wp_cv]
        refine wv_mono (cn_opndN H hn hN (by omega) ho) fun τ h => ?_
        rw [wp_cv]
        refine wv_mono (bd_form hf h0 h) fun τ h => ?_
        rw [wp_cl]
        refine wp_mono (bd_num H hn hN h) fun a τ h => ?_
        rw [wp_nm, h0]
        exact bd_91 H hn hN (bd_w hf h rfl)
      | some u =>
        obtain ⟨ir', x', ds', p'⟩ := u
        obtain ⟨e1, e2, _, _⟩ := opnd_end ho
        rw [cn_opnd H hn hN ho, cv_of, wp_cv]
        show wv _ _
        refine wv_mono (cn_form hf h0) fun τ h => ?_
        rw [wp_cl]
        show wp _ (fun a σ1 => wp _ (RD σ v0 f p0 (dO (σ q) n l w.1 w.2.1 w.2.2.2.2 ((shr (σ q p) 3) &&& 7) (σ q p &&& 7) ir' x' ds' p')))
        cases hg : gf l w.1 w.2.1 w.2.2.2.2 ((shr (σ q p) 3) &&& 7) (σ q p &&& 7) ir' x' with
        | none =>
          rw [hg] at h
          have e3 : dO (σ q) n l w.1 w.2.1 w.2.2.2.2 ((shr (σ q p) 3) &&& 7) (σ q p &&& 7) ir' x' ds' p' = none := by unfold dO; rw [hg]
          rw [e3]
          refine wp_mono (bd_num H hn hN h) fun a τ h => ?_
          rw [wp_nm, h0]
          exact bd_91 H hn hN (bd_w hf h rfl)
        | some u =>
          obtain ⟨o', m', r', x''⟩ := u
          rw [hg] at h
          have e3 : dO (σ q) n l w.1 w.2.1 w.2.2.2.2 ((shr (σ q p) 3) &&& 7) (σ q p &&& 7) ir' x' ds' p' = dD (σ q) n ds' w.2.2.2.2 o' m' r' x'' p' := by unfold dO; rw [hg]
          rw [e3]
          subst h
          simp only [mkR_ds]
          unfold dD
          cases hd : num (σ q) n ds' p' with
          | none =>
            refine wp_mono (cn_numN H hn hN (by omega) hd) fun a τ h => ?_
            rw [wp_nm, h0]
            exact bd_91 H hn hN (bd_w hf h rfl)
          | some u =>
            obtain ⟨v, p''⟩ := u
            have he := num_end hd e2
            rw [cn_num H hn hN hd, wp_some, wp_nm, h0, mkR_sd hf]
            exact cn_91 H hn hN (by omega) (by omega)
theorem bd_sh0 (hf : f ≠ v0) (h0 : ch v0 0 = f) : Reader_shape v0 0 (mkR σ v0 f nx 0 os vs ds ir md lo op fm r x d i ln) = some (mkR σ v0 f nx 0 os vs ds ir md lo op fm r x d i ln) := by
  unfold Reader_shape Reader_shapeArithmetic
  rw [if_neg (by decide), if_pos (by decide), if_pos (by decide)]
  simp only [nm_of, cl_of, cv_of, zb_0, zb_1, mkR_nx, mkR_g, mkR_os, mkR_vs, mkR_ds, mkR_ir, mkR_md, mkR_lo, mkR_op hf, mkR_fm hf, mkR_r hf, mkR_x hf, mkR_d hf, mkR_i hf, mkR_ln hf, mkR_snx, mkR_sg, mkR_sos, mkR_svs, mkR_sds, mkR_sir, mkR_smd, mkR_slo, mkR_sop hf, mkR_sfm hf, mkR_sr hf, mkR_sx hf, mkR_sd hf, mkR_si hf, mkR_sln hf]
theorem bd_sh2 (hf : f ≠ v0) (h0 : ch v0 0 = f) : Reader_shapeBehind15 v0 0 (mkR σ v0 f nx 0 os vs ds ir md lo op fm r x d i ln) = some (mkR σ v0 f nx 0 os vs ds ir md lo op fm r x d i ln) := by
  unfold Reader_shapeBehind15
  rw [if_pos (by decide), if_pos (by decide)]
  simp only [nm_of, cl_of, cv_of, zb_0, zb_1, mkR_nx, mkR_g, mkR_os, mkR_vs, mkR_ds, mkR_ir, mkR_md, mkR_lo, mkR_op hf, mkR_fm hf, mkR_r hf, mkR_x hf, mkR_d hf, mkR_i hf, mkR_ln hf, mkR_snx, mkR_sg, mkR_sos, mkR_svs, mkR_sds, mkR_sir, mkR_smd, mkR_slo, mkR_sop hf, mkR_sfm hf, mkR_sr hf, mkR_sx hf, mkR_sd hf, mkR_si hf, mkR_sln hf]
theorem cn_readO (H : RH v0 f s q) (hn : σ s 2 = nI n) (hN : n ≤ 1100) {l : Int32} (h : l < 0 ∨ ¬ l < nI n) :
    wp (Reader_read v0 l σ) (fun a τ => a = 0 ∧ Bd σ v0 f τ) := by
  have hf := H.2.2.2.1
  have h0 := H.1
  have e := mkR_self σ hf
  unfold Reader_read Instruction_fill
  rw [e]
  simp only [nm_of, cl_of, cv_of, zb_0, zb_1, mkR_nx, mkR_g, mkR_os, mkR_vs, mkR_ds, mkR_ir, mkR_md, mkR_lo, mkR_op hf, mkR_fm hf, mkR_r hf, mkR_x hf, mkR_d hf, mkR_i hf, mkR_ln hf, mkR_snx, mkR_sg, mkR_sos, mkR_svs, mkR_sds, mkR_sir, mkR_smd, mkR_slo, mkR_sop hf, mkR_sfm hf, mkR_sr hf, mkR_sx hf, mkR_sd hf, mkR_si hf, mkR_sln hf, h0]
  rw [← e, ctO H hn hN h, cl_of, if_pos (by decide), bd_sh0 hf h0, cv_of]
  exact bd_60 H hn hN bd_mk
theorem cn_read (H : RH v0 f s q) (hn : σ s 2 = nI n) (hN : n ≤ 1100) (hp : p < 2 ^ 28) :
    wp (Reader_read v0 (nI p) σ) (RD σ v0 f p (dc (σ q) n p)) := by
  have hf := H.2.2.2.1
  have h0 := H.1
  have e := mkR_self σ hf
  unfold dc
  by_cases h : p < n
  · unfold Reader_read Instruction_fill
    rw [e]
    simp only [nm_of, cl_of, cv_of, zb_0, zb_1, mkR_nx, mkR_g, mkR_os, mkR_vs, mkR_ds, mkR_ir, mkR_md, mkR_lo, mkR_op hf, mkR_fm hf, mkR_r hf, mkR_x hf, mkR_d hf, mkR_i hf, mkR_ln hf, mkR_snx, mkR_sg, mkR_sos, mkR_svs, mkR_sds, mkR_sir, mkR_smd, mkR_slo, mkR_sop hf, mkR_sfm hf, mkR_sr hf, mkR_sx hf, mkR_sd hf, mkR_si hf, mkR_sln hf, h0]
    rw [← e]
    rw [if_pos h, ct H hn hN h, cl_of]
    by_cases c : σ q p = 15
    · rw [if_neg (not_not_intro c), if_pos c]
      by_cases h1 : p + 1 < n
      · rw [if_pos h1, ct H hn hN h1, cl_of, wp_cv, c]
        exact wv_mono (cx_shape2 hf h0) fun τ h => cn_60 H hn hN (by omega) (by omega) h
      · rw [if_neg h1, ctO H hn hN (out_of hN (by omega) h1), cl_of, bd_sh2 hf h0, cv_of]
        exact bd_60 H hn hN bd_mk
    · rw [if_pos c, if_neg c, wp_cv]
      exact wv_mono (cx_shape hf h0) fun τ h => cn_60 H hn hN (by omega) (by omega) h
  · rw [if_neg h]
    exact cn_readO H hn hN (out_of hN (by omega) h)
end
