theorem RH13 : RH 13 14 7 8 := by unfold RH; decide
theorem R_lm {σ τ τ' : St} (h : R σ τ) (k : Lm τ 67 τ') : R σ τ' := by
  obtain ⟨fr, li, aT, op, fm, r, x, d, i, kf, m, rfl⟩ := k
  unfold R at h ⊢
  simp only [mkM_row, mkM_oth, s2_ne, s2_at, up_ne, up_at, ne_eq, not_false_eq_true, not_true_eq_false, if_true, if_false, Nat.reduceEqDiff, Nat.reduceLT, true_or, or_true, reduceIte]
  exact h
theorem R_rd {σ σ' τ : St} (h : R σ τ) (k : ∀ c, c ≠ 13 → c ≠ 14 → σ' c = σ c) : R σ' τ := by
  unfold R at h ⊢
  simp only [k, s2_ne, s2_at, up_ne, up_at, ne_eq, not_false_eq_true, not_true_eq_false, if_true, if_false, Nat.reduceEqDiff, Nat.reduceLT, true_or, or_true, reduceIte]
  exact h
theorem MqH69 {n : Nat} (h : n ≤ 1024) : MqH 67 69 n := by
  refine ⟨by decide, by decide, ?_, by decide, by omega, by decide⟩
  have : al 69 = 1024 := by decide
  omega
theorem bd_row {σ τ : St} {v0 f : Nat} (h : Bd σ v0 f τ) : ∀ c, c ≠ v0 → c ≠ f → τ c = σ c := by
  obtain ⟨_, _, _, _, _, _, _, _, _, _, _, _, _, _, rfl⟩ := h
  exact fun c h1 h2 => mkR_row h1 h2
theorem tt_decoded (p a : Int32) : TT (House_decoded 0 p a) (Mo_decoded 67 p a) := by
  intro σ τ h
  obtain ⟨n, t1, t2, t3, t4, t5, t6, t7⟩ := h.2.2.1
  have hB' : ∀ k, k < n → BY (τ 69 k) := fun k hk => by rw [← t5 k hk]; exact t4 k hk
  -- the reference where it throws
  have mt : ∀ (τ1 : St) (x : Int32), R σ τ1 → Mo_decoded_B50 67 p a x 67 1 τ1 = some (0, s2 τ1 67 0 1) := fun τ1 x _ => by
    unfold Mo_decoded_B50; rw [th_10, cl_of, if_neg (by decide)]
  have b0 : ∀ (τ1 : St), R σ τ1 → Mo_decoded_B29 67 p a 0 τ1 = some (0, s2 τ1 67 0 1) := fun τ1 h1 => by
    unfold Mo_decoded_B29; rw [if_pos rfl]; exact mt τ1 0 h1
  unfold House_decoded Mo_decoded
  rw [cc_0_4, cc_0_2, cc_13_0, t3, cc_67_5]
  by_cases hin : ¬ p < 0 ∧ p < nI n
  · obtain ⟨j, hj, rfl⟩ := nI_of hin.1
    have hjn := (nI_ltI hj (by omega)).mp hin.2
    rw [if_neg (c := nI j < 0) hin.1, if_neg (fun k => absurd ((nI_le' (by omega) hj).mp k) (by omega))]
    obtain ⟨x, τ1, e2, m1⟩ := mn_decode (σ := τ) (p := j) (MqH69 t1) hB' hjn
    rw [e2, cl_of]
    rw [← dc_c t5] at m1
    obtain ⟨y, σ1, e1, r1⟩ := cn_read (p := j) RH13 t2 (by omega) (by omega)
    unfold RD at r1
    unfold MD at m1
    cases hd : dc (σ 8) n j with
    | none =>
      rw [hd] at r1 m1
      obtain ⟨rfl, m2⟩ := m1
      obtain ⟨rfl, r2⟩ := r1
      have hR1 := R_lm h m2
      rw [b0 τ1 hR1]
      by_cases c1 : a < 0
      · rw [if_pos c1]; exact ⟨1, 0, _, _, _, rfl, rfl, R_th hR1, by decide, by rw [s2_row, upd_at, if_pos rfl]; rfl, fun h => absurd h (by decide)⟩
      · rw [if_neg c1]
        by_cases c2 : a ≤ 7
        · rw [if_pos c2, e1, cl_of, if_neg (by decide)]
          exact ⟨1, 0, _, _, _, rfl, rfl, R_th (R_rd hR1 (bd_row r2)), by decide, by rw [s2_row, upd_at, if_pos rfl]; rfl, fun h => absurd h (by decide)⟩
        · rw [if_neg c2]; exact ⟨1, 0, _, _, _, rfl, rfl, R_th hR1, by decide, by rw [s2_row, upd_at, if_pos rfl]; rfl, fun h => absurd h (by decide)⟩
    | some u =>
      obtain ⟨op, fm, r, xx, d, i, e⟩ := u
      rw [hd] at r1 m1
      obtain ⟨rfl, m2, m3, kf, m', rfl⟩ := m1
      obtain ⟨rfl, os, vs, ds, ir, md, lo, rfl⟩ := r1
      have hR1 := R_lm h (lm_mk (fr := nI 69) (li := nI n) (aT := nI e) (op := op) (fm := fm) (r := r) (x := xx) (d := d) (i := i) (kf := kf) (m := m'))
      unfold Mo_decoded_B29
      rw [if_neg (nI_ne0 (by omega) (by omega)), mt _ _ hR1]
      by_cases c1 : a < 0
      · rw [if_pos c1, if_pos c1]; exact ⟨1, 0, _, _, _, rfl, rfl, R_th hR1, by decide, by rw [s2_row, upd_at, if_pos rfl]; rfl, fun h => absurd h (by decide)⟩
      · rw [if_neg c1, if_neg c1]
        by_cases c2 : a ≤ 7
        · rw [if_pos c2, if_pos c2, e1, cl_of, if_pos (by decide)]
          have hR2 : R (mkR σ 13 14 (nI e) 1 os vs ds ir md lo op fm r xx d i (nI (e - j))) (s2 (mkM τ 67 (nI 69) (nI n) (nI e) op fm r xx d i kf m') 67 0 0) := R_th (R_rd hR1 (fun c h1 h2 => mkR_row h1 h2))
          have t0 : (s2 (mkM τ 67 (nI 69) (nI n) (nI e) op fm r xx d i kf m') 67 0 0) 67 0 = tc 0 := by rw [s2_row, upd_at, if_pos rfl]; rfl
          have fld : ∀ k, k ≠ 0 → (s2 (mkM τ 67 (nI 69) (nI n) (nI e) op fm r xx d i kf m') 67 0 0) 67 k = (mkM τ 67 (nI 69) (nI n) (nI e) op fm r xx d i kf m') 67 k := fun k hk => by rw [s2_row, upd_at, if_neg hk]
          have hf : (14 : Nat) ≠ 13 := by decide
          unfold Mo_decoded_B50 Instruction_part
          rw [th_00, cl_of, if_pos rfl, fld 46 (by decide), fld 47 (by decide), fld 48 (by decide), fld 49 (by decide), fld 50 (by decide), fld 51 (by decide), mkM_op, mkM_fm, mkM_r, mkM_x, mkM_d, mkM_i, mkR_ln hf, mkR_op hf, mkR_fm hf, mkR_r hf, mkR_x hf, mkR_d hf, mkR_i hf, cc_67_7]
          obtain ⟨k, hk, rfl⟩ := nI_of2 (n := 7) rfl c1 c2
          obtain q | q | q | q | q | q | q | q : k = 0 ∨ k = 1 ∨ k = 2 ∨ k = 3 ∨ k = 4 ∨ k = 5 ∨ k = 6 ∨ k = 7 := by omega
          · subst q; exact ⟨0, _, _, _, _, rfl, rfl, hR2, by decide, t0, fun _ => rfl⟩
          · subst q; exact ⟨0, _, _, _, _, rfl, rfl, hR2, by decide, t0, fun _ => rfl⟩
          · subst q; exact ⟨0, _, _, _, _, rfl, rfl, hR2, by decide, t0, fun _ => rfl⟩
          · subst q; exact ⟨0, _, _, _, _, rfl, rfl, hR2, by decide, t0, fun _ => rfl⟩
          · subst q; exact ⟨0, _, _, _, _, rfl, rfl, hR2, by decide, t0, fun _ => rfl⟩
          · subst q; exact ⟨0, _, _, _, _, rfl, rfl, hR2, by decide, t0, fun _ => rfl⟩
          · subst q; exact ⟨0, _, _, _, _, rfl, rfl, hR2, by decide, t0, fun _ => rfl⟩
          · subst q
            have em : Strip_markAt 7 (nI j) (mkR σ 13 14 (nI e) 1 os vs ds ir md lo op fm r xx d i (nI (e - j))) = some (σ 9 j, mkR σ 13 14 (nI e) 1 os vs ds ir md lo op fm r xx d i (nI (e - j))) := by
              unfold Strip_markAt
              rw [if_neg hin.1, mkR_row (c := 7) (by decide) (by decide), t2, if_pos hin.2, cc_7_1, ld_nI (by omega) (by decide), mkR_row (c := 9) (by decide) (by decide)]
            rw [em]
            have el : ∀ f : Int32 → Option (Int32 × St), ld (s2 (mkM τ 67 (nI 69) (nI n) (nI e) op fm r xx d i kf m') 67 0 0) 70 1024 (nI j) f = f (σ 9 j) := fun f => by
              rw [ld_nI (by omega) (by decide), s2_ne (by decide), mkM_row (by decide), t6 j hjn]
            rw [el]
            exact ⟨0, _, _, _, _, rfl, rfl, hR2, by decide, t0, fun _ => rfl⟩
        · rw [if_neg c2, if_neg c2]; exact ⟨1, 0, _, _, _, rfl, rfl, R_th hR1, by decide, by rw [s2_row, upd_at, if_pos rfl]; rfl, fun h => absurd h (by decide)⟩
  · have ho : p < 0 ∨ ¬ p < nI n := by
      by_cases c : p < 0
      · exact Or.inl c
      · exact Or.inr fun k => hin ⟨c, k⟩
    have e2 : (if p < 0 then Mo_decoded_B29 67 p a 0 τ else if nI n ≤ p then Mo_decoded_B29 67 p a 0 τ else cl (Mo_decode 67 69 (nI n) p τ) fun x2 σ1 => Mo_decoded_B29 67 p a x2 σ1) = some (0, s2 τ 67 0 1) := by
      rw [b0 τ h]
      by_cases c : p < 0
      · rw [if_pos c]
      · rw [if_neg c, if_pos (by rw [le_nlt]; exact ho.resolve_left c)]
    rw [e2]
    obtain ⟨y, σ1, e1, rfl, r2⟩ := cn_readO (σ := σ) RH13 t2 (by omega) ho
    by_cases c1 : a < 0
    · rw [if_pos c1]; exact ⟨1, 0, _, _, _, rfl, rfl, R_th h, by decide, by rw [s2_row, upd_at, if_pos rfl]; rfl, fun h => absurd h (by decide)⟩
    · rw [if_neg c1]
      by_cases c2 : a ≤ 7
      · rw [if_pos c2, e1, cl_of, if_neg (by decide)]
        exact ⟨1, 0, _, _, _, rfl, rfl, R_th (R_rd h (bd_row r2)), by decide, by rw [s2_row, upd_at, if_pos rfl]; rfl, fun h => absurd h (by decide)⟩
      · rw [if_neg c2]; exact ⟨1, 0, _, _, _, rfl, rfl, R_th h, by decide, by rw [s2_row, upd_at, if_pos rfl]; rfl, fun h => absurd h (by decide)⟩
