section
variable {σ : St} {v0 q n p p' p'' j : Nat} {aT op fm r x d i kf m : Int32}
theorem num_1 {row : Nat → Int32} : num row n 1 p = if p < n then some (i2b (row p), p + 1) else none := by
  unfold num; rw [if_neg (by decide), if_neg (by decide)]; simp
theorem num_2 {row : Nat → Int32} : num row n 2 p = if p < n then some (row p, p + 1) else none := by
  unfold num; rw [if_neg (by decide), if_neg (by decide)]; simp
theorem num_4 {row : Nat → Int32} : num row n 4 p = if p + 3 < n then some (b4 row p, p + 4) else none := by
  unfold num; rw [if_neg (by decide)]; simp
theorem num_0 {row : Nat → Int32} : num row n 0 p = some (0, p) := by unfold num; simp
/-- small(), four() -/
theorem mn_s (H : MqH v0 q n) (hB : ∀ k, k < n → BY (σ q k)) (hp : p ≤ n) : wp (Mo_small v0 (mkM σ v0 (nI q) (nI n) (nI p) op fm r x d i kf m)) fun a τ => match num (σ q) n 1 p with
    | none => Ov σ v0 q n 4 τ
    | some (v, p') => a = v ∧ τ = mkM σ v0 (nI q) (nI n) (nI p') op fm r x d i kf m := by
  rw [num_1]
  by_cases h : p < n
  · rw [if_pos h, mn_small H hB h]; exact wp_some.mpr ⟨rfl, rfl⟩
  · rw [if_neg h]; exact mn_smallN H hp h
theorem mn_f (H : MqH v0 q n) (hB : ∀ k, k < n → BY (σ q k)) (hp : p ≤ n) : wp (Mo_four v0 (mkM σ v0 (nI q) (nI n) (nI p) op fm r x d i kf m)) fun a τ => match num (σ q) n 4 p with
    | none => Ov σ v0 q n 4 τ
    | some (v, p') => a = v ∧ τ = mkM σ v0 (nI q) (nI n) (nI p') op fm r x d i kf m := by
  rw [num_4]
  by_cases h : p + 3 < n
  · rw [if_pos h, mn_four H hB h]; exact wp_some.mpr ⟨rfl, rfl⟩
  · rw [if_neg h]; exact mn_fourN H hp h
theorem mn_n (H : MqH v0 q n) (hB : ∀ k, k < n → BY (σ q k)) (hp : p ≤ n) : wp (Mo_next v0 (mkM σ v0 (nI q) (nI n) (nI p) op fm r x d i kf m)) fun a τ => match num (σ q) n 2 p with
    | none => Ov σ v0 q n 4 τ
    | some (v, p') => a &&& 255 = v ∧ τ = mkM σ v0 (nI q) (nI n) (nI p') op fm r x d i kf m := by
  rw [num_2]
  by_cases h : p < n
  · rw [if_pos h, mn_next H h]; exact wp_some.mpr ⟨by_255 (hB p h), rfl⟩
  · have := H.2.2.2.2.1
    rw [if_neg h, mn_nextO (p := p) H.2.2.2.2.1 (by omega) (by omega)]; exact wp_some.mpr (ov_mk (by omega) (by omega))
theorem mn_150 (H : MqH v0 q n) (hB : ∀ k, k < n → BY (σ q k)) (hp : p ≤ n) {mo ba ix sc v7 : Int32} (hm : mo = 0 ∨ mo = 1 ∨ mo = 2) (h7 : v7 = (if mo = 0 ∧ ba = 5 then 1 else 0)) :
    wv (Mo_told_B150 v0 mo ba ix sc v7 (mkM σ v0 (nI q) (nI n) (nI p) op fm r x 0 i kf m)) fun τ => match num (σ q) n (mx_d mo ba) p with
    | none => Ov σ v0 q n 4 τ
    | some (v, p') => τ = mkM σ v0 (nI q) (nI n) (nI p') op fm r (mx_x mo ba ix sc) v i kf m := by
  unfold Mo_told_B150 Mo_told_B197 mx_d mx_x
  subst h7
  rcases hm with rfl | rfl | rfl
  · by_cases c : ba = 5
    · subst c
      simp only [if_true, if_false, not_false_eq_true, and_self, show ¬ (0 : Int32) = 1 by decide, show ¬ (0 : Int32) = 2 by decide, show ¬ (1 : Int32) = 0 by decide]
      rw [wv_cl]
      refine wp_mono (mn_f H hB hp) fun a τ h => ?_
      cases hd : num (σ q) n 4 p with
      | none => rw [hd] at h; simp only [wv_nm, wv_some]; exact ov_s (ov_s h rfl) rfl
      | some u => rw [hd] at h; obtain ⟨rfl, rfl⟩ := h; simp only [wv_nm, wv_some, mkM_sfr, mkM_sli, mkM_saT, mkM_sop, mkM_sfm, mkM_sr, mkM_sx, mkM_sd, mkM_si, mkM_skf, mkM_sm]
    · simp only [c, if_true, if_false, not_false_eq_true, and_false, show ¬ (0 : Int32) = 1 by decide, show ¬ (0 : Int32) = 2 by decide, num_0]
      simp only [wv_nm, wv_some, mkM_sfr, mkM_sli, mkM_saT, mkM_sop, mkM_sfm, mkM_sr, mkM_sx, mkM_sd, mkM_si, mkM_skf, mkM_sm]
  · simp only [if_true, if_false, not_true, false_and, show ¬ (1 : Int32) = 0 by decide]
    rw [wv_cl]
    refine wp_mono (mn_s H hB hp) fun a τ h => ?_
    cases hd : num (σ q) n 1 p with
    | none => rw [hd] at h; simp only [wv_nm, wv_some]; exact ov_s (ov_s h rfl) rfl
    | some u => rw [hd] at h; obtain ⟨rfl, rfl⟩ := h; simp only [wv_nm, wv_some, mkM_sfr, mkM_sli, mkM_saT, mkM_sop, mkM_sfm, mkM_sr, mkM_sx, mkM_sd, mkM_si, mkM_skf, mkM_sm]
  · simp only [if_true, if_false, not_false_eq_true, false_and, show ¬ (2 : Int32) = 0 by decide, show ¬ (2 : Int32) = 1 by decide]
    rw [wv_cl]
    refine wp_mono (mn_f H hB hp) fun a τ h => ?_
    cases hd : num (σ q) n 4 p with
    | none => rw [hd] at h; simp only [wv_nm, wv_some]; exact ov_s (ov_s h rfl) rfl
    | some u => rw [hd] at h; obtain ⟨rfl, rfl⟩ := h; simp only [wv_nm, wv_some, mkM_sfr, mkM_sli, mkM_saT, mkM_sop, mkM_sfm, mkM_sr, mkM_sx, mkM_sd, mkM_si, mkM_skf, mkM_sm]
theorem ov_150 (hn : n ≤ 6000) {τ : St} (hj : j ≤ 50) (h : Ov σ v0 q n j τ) {a b c e g : Int32} : wv (Mo_told_B150 v0 a b c e g τ) (Ov σ v0 q n (j + 4)) := by
  unfold Mo_told_B150 Mo_told_B197
  refine wv_ite.mpr ⟨fun _ => wv_ite.mpr ⟨fun _ => ?_, fun _ => wv_ite.mpr ⟨fun _ => ?_, fun _ => ?_⟩⟩, fun _ => ?_⟩
  · rw [wv_cl]; refine wp_mono (ov_four hn (by omega) h) fun _ _ h => ?_
    simp only [wv_ite, wv_nm, wv_some]
    exact ⟨fun _ => ov_s (ov_s h rfl) rfl, fun _ => ov_s (ov_s h rfl) rfl⟩
  · have h := ov_le h (show j ≤ j + 4 by omega)
    simp only [wv_ite, wv_nm, wv_some]
    exact ⟨fun _ => ov_s (ov_s h rfl) rfl, fun _ => ov_s (ov_s h rfl) rfl⟩
  · rw [wv_cl]; refine wp_mono (ov_four hn (by omega) h) fun _ _ h => ?_
    simp only [wv_ite, wv_nm, wv_some]
    exact ⟨fun _ => ov_s (ov_s h rfl) rfl, fun _ => ov_s (ov_s h rfl) rfl⟩
  · rw [wv_cl]; refine wp_mono (ov_small hn (by omega) h) fun _ _ h => ?_
    have h := ov_le h (show j + 1 ≤ j + 4 by omega)
    simp only [wv_ite, wv_nm, wv_some]
    exact ⟨fun _ => ov_s (ov_s h rfl) rfl, fun _ => ov_s (ov_s h rfl) rfl⟩
theorem ov_135 (hn : n ≤ 6000) {τ : St} (hj : j ≤ 50) (h : Ov σ v0 q n j τ) {a b c e g : Int32} : wv (Mo_told_B135 v0 a b c e g τ) (Ov σ v0 q n (j + 4)) := by
  unfold Mo_told_B135
  exact wv_ite.mpr ⟨fun _ => ov_150 hn hj h, fun _ => ov_150 hn hj h⟩
theorem ov_80 (hn : n ≤ 6000) {τ : St} (hj : j ≤ 40) (h : Ov σ v0 q n j τ) {a b c e g k : Int32} : wv (Mo_told_B80 v0 a b c e g k τ) (Ov σ v0 q n (j + 5)) := by
  unfold Mo_told_B80
  refine wv_ite.mpr ⟨fun _ => wv_mono (ov_150 hn (by omega) h) fun _ h => ov_le h (by omega), fun _ => ?_⟩
  rw [wv_cl]
  refine wp_mono (ov_next hn (by omega) h) fun _ _ h => ?_
  simp only [wv_ite, wv_nm]
  have := fun (a b c e g : Int32) => ov_135 (a := a) (b := b) (c := c) (e := e) (g := g) hn (show j + 1 ≤ 50 by omega) h
  exact ⟨fun _ => wv_mono (this _ _ _ _ _) fun _ h => ov_le h (by omega), fun _ => ⟨fun _ => wv_mono (this _ _ _ _ _) fun _ h => ov_le h (by omega), fun _ => wv_mono (this _ _ _ _ _) fun _ h => ov_le h (by omega)⟩⟩
theorem ov_40 (hn : n ≤ 6000) {τ : St} (hj : j ≤ 40) (h : Ov σ v0 q n j τ) {a b e : Int32} (he : e = 0 ∨ e = 1) : wv (Mo_told_B40 v0 a b v0 e τ) (Ov σ v0 q n (j + 5)) := by
  unfold Mo_told_B40
  rw [zb_ok he]
  have h2 : Ov σ v0 q n j (s2 (s2 τ v0 53 e) v0 49 b) := ov_s (ov_s h rfl) rfl
  simp only [wv_ite, wv_nm, wv_some]
  exact ⟨fun _ => ⟨fun _ => ov_80 hn hj h2, fun _ => ⟨fun _ => ov_80 hn hj h2, fun _ => ov_80 hn hj h2⟩⟩, fun _ => ov_le h2 (by omega)⟩
theorem ov_told (hn : n ≤ 6000) {τ : St} (hj : j ≤ 30) (h : Ov σ v0 q n j τ) : wv (Mo_told v0 τ) (Ov σ v0 q n (j + 6)) := by
  unfold Mo_told
  rw [wv_cl]
  refine wp_mono (ov_next hn (by omega) h) fun _ _ h => ?_
  simp only [wv_ite, wv_nm]
  exact ⟨fun _ => ov_40 hn (by omega) (ov_s h rfl) (Or.inl rfl), fun _ => ov_40 hn (by omega) (ov_s h rfl) (Or.inr rfl)⟩
/-- the operand's bytes and D together -/
def tk (row : Nat → Int32) (n p : Nat) : Option (Int32 × Int32 × Int32 × Nat) :=
  match opnd row n p with
  | none => none
  | some (ir, x, ds, p') => match num row n ds p' with
    | none => none
    | some (d, p'') => some (ir, x, d, p'')
theorem tk_end {row : Nat → Int32} {a b c : Int32} (h : tk row n p = some (a, b, c, p')) : p < p' ∧ p' ≤ n ∧ (a = 0 ∨ a = 1) ∧ (a = 1 → b = 0) := by
  unfold tk at h
  cases ho : opnd row n p with
  | none => rw [ho] at h; cases h
  | some u =>
    obtain ⟨ir, x, ds, p1⟩ := u
    rw [ho] at h
    obtain ⟨h1, h2, h3, h4⟩ := opnd_end ho
    cases hd : num row n ds p1 with
    | none => simp only [hd] at h; cases h
    | some u =>
      obtain ⟨dd, p2⟩ := u
      simp only [hd] at h
      have := num_end hd h2
      cases h
      exact ⟨by omega, by omega, h3, h4⟩
def TO (σ : St) (v0 q n p : Nat) (op fm r i : Int32) (τ : St) : Prop := match tk (σ q) n p with
    | none => Ov σ v0 q n 8 τ
    | some (ir, x', d', p') => τ = mkM σ v0 (nI q) (nI n) (nI p') op fm r (if ir = 0 then x' else σ q p &&& 7) d' i ((shr (σ q p) 3) &&& 7) (if ir = 0 then 1 else 0)
theorem to_of {ir x' ds : Int32} (ho : opnd (σ q) n p = some (ir, x', ds, p')) {τ : St} (h : match num (σ q) n ds p' with
    | none => Ov σ v0 q n 4 τ
    | some (v, p'') => τ = mkM σ v0 (nI q) (nI n) (nI p'') op fm r (if ir = 0 then x' else σ q p &&& 7) v i ((shr (σ q p) 3) &&& 7) (if ir = 0 then 1 else 0)) : TO σ v0 q n p op fm r i τ := by
  unfold TO
  cases hd : num (σ q) n ds p' with
  | none =>
    have e : tk (σ q) n p = none := by unfold tk; rw [ho]; simp only [hd]
    rw [hd] at h; rw [e]; exact ov_le h (by omega)
  | some u =>
    have e : tk (σ q) n p = some (ir, x', u.1, u.2) := by unfold tk; rw [ho]; simp only [hd]
    rw [hd] at h; rw [e]; exact h
theorem mn_told (H : MqH v0 q n) (hB : ∀ k, k < n → BY (σ q k)) (hp : p ≤ n) : wv (Mo_told v0 (mkM σ v0 (nI q) (nI n) (nI p) op fm r 0 0 i kf m)) (TO σ v0 q n p op fm r i) := by
  have hn := H.2.2.2.2.1
  unfold Mo_told
  by_cases h : p < n
  · rw [mn_next H h, cl_of, nm_of, nm_of, nm_of, nm_of, mkM_skf, by_255 (hB p h)]
    simp only [by_m3 (hB p h)]
    by_cases c3 : shr (σ q p) 6 = 3
    · rw [if_pos c3]
      unfold Mo_told_B40
      simp only [nm_of, cl_of, cv_of, zb_0, zb_1, mkM_fr, mkM_li, mkM_aT, mkM_op, mkM_fm, mkM_r, mkM_x, mkM_d, mkM_i, mkM_kf, mkM_m, mkM_sfr, mkM_sli, mkM_saT, mkM_sop, mkM_sfm, mkM_sr, mkM_sx, mkM_sd, mkM_si, mkM_skf, mkM_sm, not_true, if_false]
      refine wv_some.mpr (to_of (ds := 0) (p' := p + 1) (ir := 1) (x' := 0) ?_ ?_)
      · unfold opnd; rw [if_pos h, if_pos c3]
      · rw [num_0]; simp
    · rw [if_neg c3]
      have hm : shr (σ q p) 6 = 0 ∨ shr (σ q p) 6 = 1 ∨ shr (σ q p) 6 = 2 := by
        rcases by_m4 (hB p h) with a | a | a | a
        · exact Or.inl a
        · exact Or.inr (Or.inl a)
        · exact Or.inr (Or.inr a)
        · exact absurd a c3
      unfold Mo_told_B40
      simp only [nm_of, cl_of, cv_of, zb_0, zb_1, mkM_fr, mkM_li, mkM_aT, mkM_op, mkM_fm, mkM_r, mkM_x, mkM_d, mkM_i, mkM_kf, mkM_m, mkM_sfr, mkM_sli, mkM_saT, mkM_sop, mkM_sfm, mkM_sr, mkM_sx, mkM_sd, mkM_si, mkM_skf, mkM_sm, show ¬ (1 : Int32) = 0 by decide, not_false_eq_true, if_true]
      unfold Mo_told_B80
      by_cases c4 : σ q p &&& 7 = 4
      · have c5 : ¬ σ q p &&& 7 = 5 := by rw [c4]; decide
        simp only [c5, c4, show ¬ (4 : Int32) = 5 by decide, not_false_eq_true, not_true, if_true, if_false]
        by_cases hp1 : p + 1 < n
        · rw [mn_next H hp1, cl_of, nm_of, nm_of, nm_of, nm_of, by_255 (hB _ hp1)]
          unfold Mo_told_B135
          by_cases c7 : (shr (σ q (p + 1)) 3) &&& 7 = 4
          · have ho : opnd (σ q) n p = some (0, mx_x (shr (σ q p) 6) (σ q (p + 1) &&& 7) 8 0, mx_d (shr (σ q p) 6) (σ q (p + 1) &&& 7), p + 2) := by
              unfold opnd; rw [if_pos h, if_neg c3, if_pos c4, if_pos hp1, if_pos c7]
            simp only [c7, not_true, if_false]
            have fin : ∀ v7, v7 = (if shr (σ q p) 6 = 0 ∧ σ q (p + 1) &&& 7 = 5 then (1 : Int32) else 0) → wv (Mo_told_B150 v0 (shr (σ q p) 6) (σ q (p + 1) &&& 7) 8 0 v7 (mkM σ v0 (nI q) (nI n) (nI (p + 1 + 1)) op fm r 4 0 i ((shr (σ q p) 3) &&& 7) 1)) (TO σ v0 q n p op fm r i) := fun v7 h7 =>
              wv_mono (mn_150 H hB (by omega) hm h7) fun τ h => to_of ho (by simpa using h)
            by_cases b5 : σ q (p + 1) &&& 7 = 5
            · by_cases m0 : shr (σ q p) 6 = 0
              · simp only [b5, m0, not_true, if_false]
                have := fin 1 (by simp [b5, m0])
                rw [b5, m0] at this; exact this
              · simp only [b5, m0, not_true, if_false, not_false_eq_true, if_true]
                have := fin 0 (by simp [m0])
                rw [b5] at this; exact this
            · simp only [b5, not_false_eq_true, if_true]
              exact fin 0 (by simp [b5])
          · have ho : opnd (σ q) n p = some (0, mx_x (shr (σ q p) 6) (σ q (p + 1) &&& 7) ((shr (σ q (p + 1)) 3) &&& 7) (shr (σ q (p + 1)) 6), mx_d (shr (σ q p) 6) (σ q (p + 1) &&& 7), p + 2) := by
              unfold opnd; rw [if_pos h, if_neg c3, if_pos c4, if_pos hp1, if_neg c7]
            simp only [c7, not_false_eq_true, if_true]
            have fin : ∀ v7, v7 = (if shr (σ q p) 6 = 0 ∧ σ q (p + 1) &&& 7 = 5 then (1 : Int32) else 0) → wv (Mo_told_B150 v0 (shr (σ q p) 6) (σ q (p + 1) &&& 7) ((shr (σ q (p + 1)) 3) &&& 7) (shr (σ q (p + 1)) 6) v7 (mkM σ v0 (nI q) (nI n) (nI (p + 1 + 1)) op fm r 4 0 i ((shr (σ q p) 3) &&& 7) 1)) (TO σ v0 q n p op fm r i) := fun v7 h7 =>
              wv_mono (mn_150 H hB (by omega) hm h7) fun τ h => to_of ho (by simpa using h)
            by_cases b5 : σ q (p + 1) &&& 7 = 5
            · by_cases m0 : shr (σ q p) 6 = 0
              · simp only [b5, m0, not_true, if_false]
                have := fin 1 (by simp [b5, m0])
                rw [b5, m0] at this; exact this
              · simp only [b5, m0, not_true, if_false, not_false_eq_true, if_true]
                have := fin 0 (by simp [m0])
                rw [b5] at this; exact this
            · simp only [b5, not_false_eq_true, if_true]
              exact fin 0 (by simp [b5])
        · have ho : tk (σ q) n p = none := by
            unfold tk opnd; rw [if_pos h, if_neg c3, if_pos c4, if_neg hp1]
          have fin : ∀ (a b c e g : Int32), wv (Mo_told_B135 v0 a b c e g (mkM σ v0 (nI q) (nI n) (nI (p + 1 + 1)) op fm r 4 0 i ((shr (σ q p) 3) &&& 7) 1)) (TO σ v0 q n p op fm r i) := fun a b c e g =>
            wv_mono (ov_135 (j := 1) hn (by omega) (ov_mk (by omega) (by omega))) fun τ h => by unfold TO; rw [ho]; exact ov_le h (by omega)
          rw [mn_nextO (p := p + 1) hn (by omega) (by omega), cl_of, nm_of, nm_of, nm_of, nm_of]
          exact wv_ite.mpr ⟨fun _ => fin _ _ _ _ _, fun _ => wv_ite.mpr ⟨fun _ => fin _ _ _ _ _, fun _ => fin _ _ _ _ _⟩⟩
      · have ho : opnd (σ q) n p = some (0, mx_x (shr (σ q p) 6) (σ q p &&& 7) 8 0, mx_d (shr (σ q p) 6) (σ q p &&& 7), p + 1) := by
          unfold opnd; rw [if_pos h, if_neg c3, if_neg c4]
        have fin : ∀ v7, v7 = (if shr (σ q p) 6 = 0 ∧ σ q p &&& 7 = 5 then (1 : Int32) else 0) → wv (Mo_told_B150 v0 (shr (σ q p) 6) (σ q p &&& 7) 8 0 v7 (mkM σ v0 (nI q) (nI n) (nI (p + 1)) op fm r (σ q p &&& 7) 0 i ((shr (σ q p) 3) &&& 7) 1)) (TO σ v0 q n p op fm r i) := fun v7 h7 =>
          wv_mono (mn_150 H hB (by omega) hm h7) fun τ h => to_of ho (by simpa using h)
        simp only [c4, not_false_eq_true, if_true]
        by_cases b5 : σ q p &&& 7 = 5
        · by_cases m0 : shr (σ q p) 6 = 0
          · simp only [b5, m0, not_true, if_false]
            have := fin 1 (by simp [b5, m0])
            rw [b5, m0] at this; exact this
          · simp only [b5, m0, not_true, if_false, not_false_eq_true, if_true]
            have := fin 0 (by simp [m0])
            rw [b5] at this; exact this
        · simp only [b5, not_false_eq_true, if_true]
          exact fin 0 (by simp [b5])
  · have ho : tk (σ q) n p = none := by
      unfold tk opnd; rw [if_neg h]
    rw [mn_nextO (p := p) hn (by omega) (by omega), cl_of]
    have o1 : Ov σ v0 q n 1 (s2 (mkM σ v0 (nI q) (nI n) (nI (p + 1)) op fm r 0 0 i kf m) v0 52 ((shr (-1 &&& 255) 3) &&& 7)) := ov_s (ov_mk (by omega) (by omega)) rfl
    simp only [wv_ite, wv_nm]
    have fin : ∀ τ, Ov σ v0 q n (1 + 5) τ → TO σ v0 q n p op fm r i τ := fun τ h => by unfold TO; rw [ho]; exact ov_le h (by omega)
    exact ⟨fun _ => wv_mono (ov_40 hn (by omega) o1 (Or.inl rfl)) fin, fun _ => wv_mono (ov_40 hn (by omega) o1 (Or.inr rfl)) fin⟩
end
