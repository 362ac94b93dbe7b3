section
variable {σ : St} {v0 q n p p' p'' j : Nat} {aT op fm r x d i kf m : Int32}
theorem kd_i4 (H : MqH v0 q n) (hB : ∀ k, k < n → BY (σ q k)) (hp : p ≤ n) {o f' : Int32} : wp (cl (Mo_four v0 (mkM σ v0 (nI q) (nI n) (nI p) op fm r 0 0 0 kf m)) fun x4 σ3 => nm (s2 σ3 v0 51 x4) fun σ5 => cl (Mo_is v0 o f' σ5) fun x7 σ6 => zb x7 <| some (x7, σ6)) (KD σ v0 q n (dI (σ q) n 4 o f' r 0 0 p)) := by
  rw [wp_cl]
  refine wp_mono (mn_f H hB hp) fun a τ h => ?_
  unfold dI Mo_is
  cases hd : num (σ q) n 4 p with
  | none => rw [hd] at h; simp only [wp_nm, nm_of, cl_of, zb_1, wp_some]; exact kd_ov (Or.inr rfl) (ov_s (ov_s (ov_s h rfl) rfl) rfl) (by omega)
  | some u =>
    obtain ⟨v, p'⟩ := u
    have := num_end hd hp
    rw [hd] at h; obtain ⟨rfl, rfl⟩ := h
    simp only [wp_nm, nm_of, cl_of, zb_1, wp_some, mkM_sfr, mkM_sli, mkM_saT, mkM_sop, mkM_sfm, mkM_sr, mkM_sx, mkM_sd, mkM_si, mkM_skf, mkM_sm]
    exact ⟨rfl, this.2, _, _, rfl⟩
theorem kd_i1 (H : MqH v0 q n) (hB : ∀ k, k < n → BY (σ q k)) (hp : p ≤ n) {o f' : Int32} : wp (cl (Mo_small v0 (mkM σ v0 (nI q) (nI n) (nI p) op fm r 0 0 0 kf m)) fun x4 σ3 => nm (s2 σ3 v0 51 x4) fun σ5 => cl (Mo_is v0 o f' σ5) fun x7 σ6 => zb x7 <| some (x7, σ6)) (KD σ v0 q n (dI (σ q) n 1 o f' r 0 0 p)) := by
  rw [wp_cl]
  refine wp_mono (mn_s H hB hp) fun a τ h => ?_
  unfold dI Mo_is
  cases hd : num (σ q) n 1 p with
  | none => rw [hd] at h; simp only [wp_nm, nm_of, cl_of, zb_1, wp_some]; exact kd_ov (Or.inr rfl) (ov_s (ov_s (ov_s h rfl) rfl) rfl) (by omega)
  | some u =>
    obtain ⟨v, p'⟩ := u
    have := num_end hd hp
    rw [hd] at h; obtain ⟨rfl, rfl⟩ := h
    simp only [wp_nm, nm_of, cl_of, zb_1, wp_some, mkM_sfr, mkM_sli, mkM_saT, mkM_sop, mkM_sfm, mkM_sr, mkM_sx, mkM_sd, mkM_si, mkM_skf, mkM_sm]
    exact ⟨rfl, this.2, _, _, rfl⟩
theorem kd_i0 (hp : p ≤ n) {o f' : Int32} : wp (cl (Mo_is v0 o f' (mkM σ v0 (nI q) (nI n) (nI p) op fm r 0 0 0 kf m)) fun x7 σ6 => zb x7 <| some (x7, σ6)) (KD σ v0 q n (dI (σ q) n 0 o f' r 0 0 p)) := by
  unfold dI Mo_is
  simp only [num_0, wp_nm, nm_of, cl_of, zb_1, wp_some, mkM_sfr, mkM_sli, mkM_saT, mkM_sop, mkM_sfm, mkM_sr, mkM_sx, mkM_sd, mkM_si, mkM_skf, mkM_sm]
  exact ⟨rfl, hp, _, _, rfl⟩
theorem md_ne {v : Int32} (h : BY v) : ¬ (shr v 3) &&& 7 = -1 := by_dec (P := fun v => ¬ (shr v 3) &&& 7 = -1) (by decide +kernel) h.1 h.2
/-- a group behind told(): where the operand is beyond the end -/
theorem kd_375 (H : MqH v0 q n) (hB : ∀ k, k < n → BY (σ q k)) (hp : p ≤ n) {l z : Int32} (hl : l = 129 ∧ z = 4 ∨ l = 131 ∧ z = 1) : wp (Mo_known_B375 v0 l (mkM σ v0 (nI q) (nI n) (nI p) op fm 0 0 0 0 kf m)) (KD σ v0 q n (dT (σ q) n l 3 0 z p)) := by
  unfold Mo_known_B375
  rw [wp_cv]
  refine wv_mono (mn_told H hB hp) fun τ h => ?_
  unfold TO at h; unfold dT
  cases ht : tk (σ q) n p with
  | none =>
    rw [ht] at h
    rw [wp_cl]
    refine wp_mono (ov_alone h) fun _ _ h => ?_
    refine wp_ite.mpr ⟨fun _ => ?_, fun _ => ?_⟩
    · rw [wp_cl]; refine wp_mono (ov_small H.2.2.2.2.1 (by omega) h) fun _ _ h => ?_
      exact wp_some.mpr (kd_ov (Or.inr rfl) (ov_s h rfl) (by omega))
    · rw [wp_cl]; refine wp_mono (ov_four H.2.2.2.2.1 (by omega) h) fun _ _ h => ?_
      exact wp_some.mpr (kd_ov (Or.inr rfl) (ov_s h rfl) (by omega))
  | some u =>
    obtain ⟨ir, x', d', p'⟩ := u
    rw [ht] at h
    obtain ⟨h1, h2, h3, h4⟩ := tk_end ht
    subst h
    have hg := md_ne (hB p (by omega))
    have hgo : gop l ((shr (σ q p) 3) &&& 7) ir = (shr (σ q p) 3) &&& 7 := by
      unfold gop; rcases hl with ⟨rfl, _⟩ | ⟨rfl, _⟩ <;> simp
    have hz : ¬ z = 0 := by rcases hl with ⟨_, rfl⟩ | ⟨_, rfl⟩ <;> decide
    have hgf : gf l 3 0 z ((shr (σ q p) 3) &&& 7) (σ q p &&& 7) ir x' = some ((shr (σ q p) 3) &&& 7, if ir = 0 then 6 else 5, if ir = 0 then 0 else σ q p &&& 7, x') := by
      unfold gf; rw [hgo, if_neg (by decide), if_neg (by decide), if_neg hg, if_neg hz, if_neg hz]; split <;> simp
    simp only [hgf]
    rw [mn_alone, cl_of]
    have hs : (mkM σ v0 (nI q) (nI n) (nI p') (mkM σ v0 (nI q) (nI n) (nI p') op fm 0 (if ir = 0 then x' else σ q p &&& 7) d' 0 ((shr (σ q p) 3) &&& 7) (if ir = 0 then 1 else 0) v0 52) (if (if ir = 0 then (1 : Int32) else 0) = 0 then (if (1 : Int32) = 0 then 1 else 5) else (if (1 : Int32) = 0 then 7 else 6)) (if (if ir = 0 then (1 : Int32) else 0) = 0 then (if ir = 0 then x' else σ q p &&& 7) else 0) (if (if ir = 0 then (1 : Int32) else 0) = 0 then 0 else (if ir = 0 then x' else σ q p &&& 7)) d' 0 ((shr (σ q p) 3) &&& 7) (if ir = 0 then 1 else 0)) = mkM σ v0 (nI q) (nI n) (nI p') ((shr (σ q p) 3) &&& 7) (if ir = 0 then 6 else 5) (if ir = 0 then 0 else σ q p &&& 7) x' d' 0 ((shr (σ q p) 3) &&& 7) (if ir = 0 then 1 else 0) := by
      rw [mkM_kf]
      rcases h3 with rfl | rfl
      · simp
      · simp [h4 rfl]
    rw [hs]
    unfold dI
    rcases hl with ⟨rfl, rfl⟩ | ⟨rfl, rfl⟩
    · rw [if_neg (by decide), wp_cl]
      refine wp_mono (mn_f H hB h2) fun a τ h => ?_
      cases hd : num (σ q) n 4 p' with
      | none => rw [hd] at h; exact wp_some.mpr (kd_ov (Or.inr rfl) (ov_s h rfl) (by omega))
      | some u =>
        obtain ⟨v, p''⟩ := u
        have := num_end hd h2
        rw [hd] at h; obtain ⟨rfl, rfl⟩ := h
        rw [wp_nm, mkM_si]
        exact wp_some.mpr ⟨rfl, this.2, _, _, rfl⟩
    · rw [if_pos (by decide), wp_cl]
      refine wp_mono (mn_s H hB h2) fun a τ h => ?_
      cases hd : num (σ q) n 1 p' with
      | none => rw [hd] at h; exact wp_some.mpr (kd_ov (Or.inr rfl) (ov_s h rfl) (by omega))
      | some u =>
        obtain ⟨v, p''⟩ := u
        have := num_end hd h2
        rw [hd] at h; obtain ⟨rfl, rfl⟩ := h
        rw [wp_nm, mkM_si]
        exact wp_some.mpr ⟨rfl, this.2, _, _, rfl⟩
theorem kd_141 (H : MqH v0 q n) (hB : ∀ k, k < n → BY (σ q k)) (hp : p ≤ n) : wp (cl (Mo_right v0 10 (mkM σ v0 (nI q) (nI n) (nI p) op fm 0 0 0 0 kf m)) fun x20 σ19 => if x20 = 0 then some (0, σ19) else if (σ19 v0 53) = 0 then some (0, σ19) else some (1, σ19)) (KD σ v0 q n (dT (σ q) n 141 2 10 0 p)) := by
  rw [wp_cl]
  refine wp_mono (kd_ri H hB hp) fun a τ h => ?_
  unfold RgI at h; unfold dT
  cases ht : tk (σ q) n p with
  | none =>
    rw [ht] at h
    simp only [wp_ite, wp_some]
    exact ⟨fun _ => kd_ov (Or.inl rfl) h.2 (by omega), fun _ => ⟨fun _ => kd_ov (Or.inl rfl) h.2 (by omega), fun _ => kd_ov (Or.inr rfl) h.2 (by omega)⟩⟩
  | some u =>
    obtain ⟨ir, x', d', p'⟩ := u
    rw [ht] at h
    obtain ⟨h1, h2, h3, h4⟩ := tk_end ht
    obtain ⟨rfl, rfl⟩ := h
    rcases h3 with rfl | rfl
    · simp [gf, dI, num_0, KD, h2, wp_some, mkM_m]
      exact ⟨_, _, rfl⟩
    · simp [gf, KD, wp_some, mkM_m]
      exact Or.inl lm_mk
theorem kd_193 (H : MqH v0 q n) (hB : ∀ k, k < n → BY (σ q k)) (hp : p ≤ n) : wp (cv (Mo_told v0 (mkM σ v0 (nI q) (nI n) (nI p) op fm 0 0 0 0 kf m)) fun σ23 => if ¬ (σ23 v0 52) = 4 then (if ¬ (σ23 v0 52) = 5 then Mo_known_B497 v0 v0 16 σ23 else Mo_known_B497 v0 v0 15 σ23) else Mo_known_B497 v0 v0 14 σ23) (KD σ v0 q n (dT (σ q) n 193 3 14 2 p)) := by
  have bad : ∀ {τ : St} {o : Int32}, Ov σ v0 q n 8 τ → wp (Mo_known_B497 v0 v0 o τ) (KD σ v0 q n none) := by
    intro τ o h
    unfold Mo_known_B497
    rw [wp_cl]
    refine wp_mono (ov_alone h) fun _ _ h => ?_
    rw [wp_cl]
    refine wp_mono (ov_next H.2.2.2.2.1 (by omega) h) fun a _ h => ?_
    have h := ov_s (k := 51) (w := a &&& 255) h rfl
    simp only [wp_ite, wp_nm, wp_some]
    exact ⟨fun _ => kd_ov (Or.inr rfl) h (by omega), fun _ => ⟨fun _ => kd_ov (Or.inr rfl) h (by omega), fun _ => ⟨fun _ => kd_ov (Or.inl rfl) h (by omega), fun _ => kd_ov (Or.inr rfl) h (by omega)⟩⟩⟩
  rw [wp_cv]
  refine wv_mono (mn_told H hB hp) fun τ h => ?_
  unfold TO at h; unfold dT
  cases ht : tk (σ q) n p with
  | none =>
    rw [ht] at h
    exact wp_ite.mpr ⟨fun _ => wp_ite.mpr ⟨fun _ => bad h, fun _ => bad h⟩, fun _ => bad h⟩
  | some u =>
    obtain ⟨ir, x', d', p'⟩ := u
    rw [ht] at h
    obtain ⟨h1, h2, h3, h4⟩ := tk_end ht
    subst h
    generalize hk : (shr (σ q p) 3) &&& 7 = k
    rw [mkM_kf]
    have go : ∀ o, (k = 4 → o = 14) → (k = 5 → o = 15) → (k = 7 → o = 16) → wp (Mo_known_B497 v0 v0 o (mkM σ v0 (nI q) (nI n) (nI p') op fm 0 (if ir = 0 then x' else σ q p &&& 7) d' 0 k (if ir = 0 then 1 else 0))) (KD σ v0 q n (match gf 193 3 14 2 k (σ q p &&& 7) ir x' with
        | none => none
        | some (o, fm, r, x') => dI (σ q) n 2 o fm r x' d' p')) := by
      intro o g4 g5 g7
      unfold Mo_known_B497
      rw [mn_alone, cl_of, wp_cl]
      refine wp_mono (mn_n H hB h2) fun a τ h => ?_
      by_cases e : k = 4 ∨ k = 5 ∨ k = 7
      · have hgo : gop 193 k ir = o := by
          unfold gop
          rcases e with rfl | rfl | rfl
          · rw [g4 rfl]; rfl
          · rw [g5 rfl]; rfl
          · rw [g7 rfl]; rfl
        have hgn : ¬ o = -1 := by
          rcases e with rfl | rfl | rfl
          · rw [g4 rfl]; decide
          · rw [g5 rfl]; decide
          · rw [g7 rfl]; decide
        have hgf : gf 193 3 14 2 k (σ q p &&& 7) ir x' = some (o, if ir = 0 then 6 else 5, if ir = 0 then 0 else σ q p &&& 7, x') := by
          unfold gf; rw [hgo, if_neg (by decide), if_neg (by decide), if_neg hgn]; rcases h3 with rfl | rfl <;> simp
        simp only [hgf]
        unfold dI
        cases hd : num (σ q) n 2 p' with
        | none =>
          rw [hd] at h
          simp only [wp_ite, wp_nm, wp_some]
          have h := ov_s (k := 51) (w := a &&& 255) h rfl
          exact ⟨fun _ => kd_ov (Or.inr rfl) h (by omega), fun _ => ⟨fun _ => kd_ov (Or.inr rfl) h (by omega), fun _ => ⟨fun _ => kd_ov (Or.inl rfl) h (by omega), fun _ => kd_ov (Or.inr rfl) h (by omega)⟩⟩⟩
        | some u =>
          obtain ⟨v, p''⟩ := u
          have := num_end hd h2
          rw [hd] at h; obtain ⟨rfl, rfl⟩ := h
          rw [wp_nm, mkM_si, mkM_kf]
          have fin : KD σ v0 q n (some (o, if ir = 0 then 6 else 5, if ir = 0 then 0 else σ q p &&& 7, x', d', a &&& 255, p'')) 1 (mkM σ v0 (nI q) (nI n) (nI p'') o (if (if ir = 0 then (1 : Int32) else 0) = 0 then (if (1 : Int32) = 0 then 1 else 5) else (if (1 : Int32) = 0 then 7 else 6)) (if (if ir = 0 then (1 : Int32) else 0) = 0 then (if ir = 0 then x' else σ q p &&& 7) else 0) (if (if ir = 0 then (1 : Int32) else 0) = 0 then 0 else (if ir = 0 then x' else σ q p &&& 7)) d' (a &&& 255) k (if ir = 0 then 1 else 0)) := by
            refine ⟨rfl, this.2, k, if ir = 0 then 1 else 0, ?_⟩
            rcases h3 with rfl | rfl
            · simp
            · simp [h4 rfl]
          simp only [wp_ite, wp_some]
          exact ⟨fun _ => fin, fun e4 => ⟨fun _ => fin, fun e5 => ⟨fun e7 => absurd e (by simp [e4, e5, e7]), fun _ => fin⟩⟩⟩
      · have e4 : ¬ k = 4 := fun h => e (Or.inl h)
        have e5 : ¬ k = 5 := fun h => e (Or.inr (Or.inl h))
        have e7 : ¬ k = 7 := fun h => e (Or.inr (Or.inr h))
        have hgf : gf 193 3 14 2 k (σ q p &&& 7) ir x' = none := by
          unfold gf gop; simp [e4, e5, e7]
        simp only [hgf]
        cases hd : num (σ q) n 2 p' with
        | none =>
          rw [hd] at h
          simp only [wp_ite, wp_nm, wp_some]
          have h := ov_s (k := 51) (w := a &&& 255) h rfl
          exact ⟨fun _ => kd_ov (Or.inr rfl) h (by omega), fun _ => ⟨fun _ => kd_ov (Or.inr rfl) h (by omega), fun _ => ⟨fun _ => kd_ov (Or.inl rfl) h (by omega), fun _ => kd_ov (Or.inr rfl) h (by omega)⟩⟩⟩
        | some u =>
          rw [hd] at h; obtain ⟨_, rfl⟩ := h
          rw [wp_nm, mkM_si, mkM_kf, if_neg e4, if_neg e5, if_pos e7]
          exact wp_some.mpr (Or.inl ⟨rfl, lm_mk⟩)
    refine wp_ite.mpr ⟨fun e4 => wp_ite.mpr ⟨fun e5 => go _ (fun h => absurd h e4) (fun h => absurd h e5) (fun _ => rfl), fun e5 => go _ (fun h => absurd h e4) (fun _ => rfl) (fun h => ?_)⟩, fun e4 => go _ (fun _ => rfl) (fun h => ?_) (fun h => ?_)⟩
    · exact absurd ((Decidable.not_not.mp e5).symm.trans h) (by decide)
    · exact absurd ((Decidable.not_not.mp e4).symm.trans h) (by decide)
    · exact absurd ((Decidable.not_not.mp e4).symm.trans h) (by decide)
end
