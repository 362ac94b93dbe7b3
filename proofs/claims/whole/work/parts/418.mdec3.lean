/-- an INSTRUCTION with an operand: the operand and D, then what they tell, then I -/
def dT (row : Nat → Int32) (n : Nat) (l os op vs : Int32) (p : Nat) : Option Ins :=
  match tk row n p with
  | none => none
  | some (ir, x, d, p') => match gf l os op vs ((shr (row p) 3) &&& 7) (row p &&& 7) ir x with
    | none => none
    | some (o, fm, r, x') => dI row n vs o fm r x' d p'
theorem dT_eq {row : Nat → Int32} {n p : Nat} {l os op vs : Int32} : (match opnd row n p with
    | none => none
    | some (ir, x, ds, p') => dO row n l os op vs ((shr (row p) 3) &&& 7) (row p &&& 7) ir x ds p') = dT row n l os op vs p := by
  unfold dT tk dO dD
  cases opnd row n p with
  | none => rfl
  | some u =>
    obtain ⟨ir, x, ds, p'⟩ := u
    simp only []
    cases hn : num row n ds p' with
    | none => cases hg : gf l os op vs ((shr (row p) 3) &&& 7) (row p &&& 7) ir x <;> rfl
    | some w => cases hg : gf l os op vs ((shr (row p) 3) &&& 7) (row p &&& 7) ir x <;> simp only [hg]
theorem dB_T {row : Nat → Int32} {n p : Nat} {l : Int32} {s : Int32 × Int32 × Int32 × Int32 × Int32} (h9 : ¬ s.1 = 9) (h0 : ¬ s.1 = 0) : dB row n l s p = dT row n l s.1 s.2.1 s.2.2.2.2 p := by
  unfold dB; rw [if_neg h9, if_neg h0]; exact dT_eq
section
variable {σ : St} {v0 q n p p' p'' j : Nat} {aT op fm r x d i kf m : Int32}
def Lm (σ : St) (v0 : Nat) (τ : St) : Prop := ∃ fr li aT op fm r x d i kf m, τ = mkM σ v0 fr li aT op fm r x d i kf m
theorem lm_mk {fr li : Int32} : Lm σ v0 (mkM σ v0 fr li aT op fm r x d i kf m) := ⟨_, _, _, _, _, _, _, _, _, _, _, rfl⟩
theorem ov_lm {τ : St} (h : Ov σ v0 q n j τ) : Lm σ v0 τ := by
  obtain ⟨p, op, fm, r, x, d, i, kf, m, h1, h2, rfl⟩ := h; exact lm_mk
def KD (σ : St) (v0 q n : Nat) (o : Option Ins) (a : Int32) (τ : St) : Prop := match o with
  | none => (a = 0 ∧ Lm σ v0 τ) ∨ ((a = 0 ∨ a = 1) ∧ Ov σ v0 q n 20 τ)
  | some (op, fm, r, x, d, i, e) => a = 1 ∧ e ≤ n ∧ ∃ kf m, τ = mkM σ v0 (nI q) (nI n) (nI e) op fm r x d i kf m
theorem kd_zb {o : Option Ins} {a : Int32} {τ : St} (h : KD σ v0 q n o a τ) : a = 0 ∨ a = 1 := by
  unfold KD at h
  cases o with
  | none => rcases h with ⟨h, _⟩ | ⟨h, _⟩
            · exact Or.inl h
            · exact h
  | some u => exact Or.inr h.1
theorem kd_ov {a : Int32} {τ : St} (ha : a = 0 ∨ a = 1) (h : Ov σ v0 q n j τ) (hj : j ≤ 20) : KD σ v0 q n none a τ := Or.inr ⟨ha, ov_le h hj⟩
theorem kd_z {o : Option Ins} {x : Option (Int32 × St)} (h : wp x (KD σ v0 q n o)) : wp (cl x fun a τ => zb a (some (a, τ))) (KD σ v0 q n o) := by
  rw [wp_cl]; exact wp_mono h fun a τ k => by rw [zb_ok (kd_zb k)]; exact wp_some.mpr k
theorem kd_left (H : MqH v0 q n) (hB : ∀ k, k < n → BY (σ q k)) (hp : p ≤ n) {l o : Int32} : wp (Mo_left v0 o (mkM σ v0 (nI q) (nI n) (nI p) op fm 0 0 0 0 kf m)) (KD σ v0 q n (dT (σ q) n l 1 o 0 p)) := by
  unfold Mo_left Mo_is
  rw [wp_cv]
  refine wv_mono (mn_told H hB hp) fun τ h => ?_
  unfold TO at h; unfold dT
  cases ht : tk (σ q) n p with
  | none =>
    rw [ht] at h
    simp only [wp_ite, wp_nm, nm_of, cl_of, zb_1, wp_some]
    exact ⟨fun _ => kd_ov (Or.inr rfl) (ov_s (ov_s (ov_s (ov_s h rfl) rfl) rfl) rfl) (by omega), fun _ => kd_ov (Or.inr rfl) (ov_s (ov_s (ov_s h rfl) rfl) rfl) (by omega)⟩
  | some u =>
    obtain ⟨ir, x', d', p'⟩ := u
    rw [ht] at h
    obtain ⟨h1, h2, h3, h4⟩ := tk_end ht
    subst h
    rcases h3 with rfl | rfl
    · simp [nm_of, cl_of, cv_of, zb_0, zb_1, mkM_fr, mkM_li, mkM_aT, mkM_op, mkM_fm, mkM_r, mkM_x, mkM_d, mkM_i, mkM_kf, mkM_m, mkM_sfr, mkM_sli, mkM_saT, mkM_sop, mkM_sfm, mkM_sr, mkM_sx, mkM_sd, mkM_si, mkM_skf, mkM_sm, gf, dI, num_0, wp_some, KD, h2]
      exact ⟨_, _, rfl⟩
    · simp [nm_of, cl_of, cv_of, zb_0, zb_1, mkM_fr, mkM_li, mkM_aT, mkM_op, mkM_fm, mkM_r, mkM_x, mkM_d, mkM_i, mkM_kf, mkM_m, mkM_sfr, mkM_sli, mkM_saT, mkM_sop, mkM_sfm, mkM_sr, mkM_sx, mkM_sd, mkM_si, mkM_skf, mkM_sm, gf, dI, num_0, wp_some, KD, h2]
      exact ⟨_, _, rfl⟩
def RgI (σ : St) (v0 q n p : Nat) (o : Int32) (a : Int32) (τ : St) : Prop := a = 1 ∧ match tk (σ q) n p with
  | none => Ov σ v0 q n 8 τ
  | some (ir, x', d', p') => τ = mkM σ v0 (nI q) (nI n) (nI p') o (if ir = 0 then 3 else 2) ((shr (σ q p) 3) &&& 7) (if ir = 0 then x' else σ q p &&& 7) d' 0 ((shr (σ q p) 3) &&& 7) (if ir = 0 then 1 else 0)
theorem kd_ri (H : MqH v0 q n) (hB : ∀ k, k < n → BY (σ q k)) (hp : p ≤ n) {o : Int32} : wp (Mo_right v0 o (mkM σ v0 (nI q) (nI n) (nI p) op fm 0 0 0 0 kf m)) (RgI σ v0 q n p o) := by
  unfold Mo_right Mo_is
  rw [wp_cv]
  refine wv_mono (mn_told H hB hp) fun τ h => ?_
  unfold TO at h; unfold RgI
  cases ht : tk (σ q) n p with
  | none =>
    rw [ht] at h
    simp only [wp_ite, wp_nm, nm_of, cl_of, zb_1, wp_some]
    exact ⟨fun _ => ⟨trivial, (ov_s (ov_s (ov_s h rfl) rfl) rfl)⟩, fun _ => ⟨trivial, (ov_s (ov_s (ov_s h rfl) rfl) rfl)⟩⟩
  | some u =>
    obtain ⟨ir, x', d', p'⟩ := u
    rw [ht] at h
    obtain ⟨h1, h2, h3, h4⟩ := tk_end ht
    subst h
    rcases h3 with rfl | rfl
    · simp [nm_of, cl_of, cv_of, zb_0, zb_1, mkM_fr, mkM_li, mkM_aT, mkM_op, mkM_fm, mkM_r, mkM_x, mkM_d, mkM_i, mkM_kf, mkM_m, mkM_sfr, mkM_sli, mkM_saT, mkM_sop, mkM_sfm, mkM_sr, mkM_sx, mkM_sd, mkM_si, mkM_skf, mkM_sm, wp_some]
    · simp [nm_of, cl_of, cv_of, zb_0, zb_1, mkM_fr, mkM_li, mkM_aT, mkM_op, mkM_fm, mkM_r, mkM_x, mkM_d, mkM_i, mkM_kf, mkM_m, mkM_sfr, mkM_sli, mkM_saT, mkM_sop, mkM_sfm, mkM_sr, mkM_sx, mkM_sd, mkM_si, mkM_skf, mkM_sm, wp_some]
theorem kd_right (H : MqH v0 q n) (hB : ∀ k, k < n → BY (σ q k)) (hp : p ≤ n) {l o : Int32} (ho : ¬ o = 10) : wp (Mo_right v0 o (mkM σ v0 (nI q) (nI n) (nI p) op fm 0 0 0 0 kf m)) (KD σ v0 q n (dT (σ q) n l 2 o 0 p)) := by
  refine wp_mono (kd_ri H hB hp) fun a τ h => ?_
  unfold RgI at h; unfold dT
  cases ht : tk (σ q) n p with
  | none => rw [ht] at h; exact kd_ov (Or.inr h.1) h.2 (by omega)
  | some u =>
    obtain ⟨ir, x', d', p'⟩ := u
    rw [ht] at h
    obtain ⟨h1, h2, h3, h4⟩ := tk_end ht
    obtain ⟨rfl, rfl⟩ := h
    rcases h3 with rfl | rfl
    · simp [gf, dI, num_0, KD, h2]
      exact ⟨_, _, rfl⟩
    · simp [gf, dI, num_0, KD, h2, ho]
      exact ⟨_, _, rfl⟩
theorem mn_alone {o nb : Int32} : Mo_alone v0 o nb (mkM σ v0 (nI q) (nI n) aT op fm 0 x d i kf m) = some (1, mkM σ v0 (nI q) (nI n) aT o (if m = 0 then (if nb = 0 then 1 else 5) else (if nb = 0 then 7 else 6)) (if m = 0 then x else 0) (if m = 0 then 0 else x) d i kf m) := by
  unfold Mo_alone Mo_alone_B20 Mo_is
  by_cases c : m = 0 <;> by_cases e : nb = 0 <;> simp [c, e, nm_of, cl_of, cv_of, zb_0, zb_1, mkM_fr, mkM_li, mkM_aT, mkM_op, mkM_fm, mkM_r, mkM_x, mkM_d, mkM_i, mkM_kf, mkM_m, mkM_sfr, mkM_sli, mkM_saT, mkM_sop, mkM_sfm, mkM_sr, mkM_sx, mkM_sd, mkM_si, mkM_skf, mkM_sm]
theorem ov_alone {τ : St} {o nb : Int32} (h : Ov σ v0 q n j τ) : wp (Mo_alone v0 o nb τ) fun _ => Ov σ v0 q n j := by
  unfold Mo_alone Mo_alone_B20 Mo_is
  simp only [wp_ite, wp_nm, nm_of, cl_of, zb_1, wp_some]
  refine ⟨fun _ => ⟨fun _ => ⟨fun _ => ?_, fun _ => ?_⟩, fun _ => ⟨fun _ => ?_, fun _ => ?_⟩⟩, fun _ => ⟨fun _ => ⟨fun _ => ?_, fun _ => ?_⟩, fun _ => ⟨fun _ => ?_, fun _ => ?_⟩⟩⟩
  all_goals repeat (first | exact h | refine ov_s ?_ rfl)
end
