section
variable {m T : Nat} {pl : Nat → Nat} {σ σ' τ τ' : St}
/-- at a SERVICE -/
theorem w_serve (S : WS m T pl σ τ) {s : Int32} (hs : isS s) : StW m T pl σ τ (Walker_serve 65 s σ) (Mo_atService 67 s τ) := by
  have P := S.1.2.2.1
  have hm := P.1
  have hM := MDw.1
  have V := S.1.1
  have I := S.1.2.1
  obtain ⟨_, _, _, a2, a6, a4⟩ := S.1
  unfold Walker_serve Mo_atService
  rw [cc_65_1, cc_65_0]
  by_cases z0 : s = 0
  · rw [if_neg (not_not_intro z0), if_neg (not_not_intro z0), cc_67_37, ld_L 1 1 rfl (by decide) (by decide), sa_L 1 1 rfl (by decide) (by decide)]
    unfold Walker_standStill
    rw [cc_65_1, nm_of, cl_of]
    exact sw_still S (by decide) (by decide)
  · rw [if_pos z0, if_pos z0, c_canPop hM, cl_of, m_reg V r4, cl_of, rgv_4, mt_eq, cl_of]
    by_cases c : inW (σ 60 4)
    · rw [if_pos c, if_pos (by decide), if_pos (by decide), c_reg hM, cl_of, rgv_4, m_reg V r4, cl_of, rgv_4]
      obtain ⟨wv0, _, _, _, _, p3, p4, _⟩ := v_pop hM V c
      rw [p4, cl_of, p3, cl_of]
      obtain ⟨v, v', l1, l2, L⟩ := v_lead P wv0
      rw [l1, cl_of, l2, cl_of]
      have nn := led_n hm L
      by_cases z : v = -100
      · rw [if_neg (not_not_intro z), if_neg (not_not_intro (nn.mp z))]
        exact sw_st S (by decide) (by decide)
      · rw [if_pos z, if_pos (fun y => z (nn.mpr y))]
        obtain ⟨ic, k, oc, y1, y2, y3, y4, y5, y6, y7, y8, y9, y10, y11⟩ := id I
        have hs3 : s = 16 ∨ s = 32 ∨ s = 48 := hs.resolve_left z0
        have full : Machine_isFullFor 58 s σ = some (if s = 16 ∧ oc = 100 then 1 else 0, σ) := by
          unfold Machine_isFullFor
          rw [y8]
          by_cases e : s = 16
          · rw [if_neg (not_not_intro e)]
            by_cases e2 : oc = 100
            · rw [if_neg (lf_nlt 100 100 oc rfl (by omega) (by omega)), if_pos ⟨e, e2⟩]
            · rw [if_pos (lf_lt 100 100 oc rfl (by omega) (by decide)), if_neg (fun h => e2 h.2)]
          · rw [if_pos e, if_neg (fun h => e h.1)]
        have e100 : (nI oc = 100) ↔ oc = 100 := nI_inj (b := 100) (by omega) (by decide)
        rw [full, cl_of]
        have mfull : (if ¬ s = 16 then Mo_atService_B72 67 s v' τ else ld τ (ch 67 35) 2 1 fun x11 => if ¬ x11 = 100 then Mo_atService_B72 67 s v' τ else some (6, τ)) = if s = 16 ∧ oc = 100 then some (6, τ) else Mo_atService_B72 67 s v' τ := by
          rw [cc_67_35, ld_L 1 1 rfl (by decide) (by decide), y9]
          by_cases e : s = 16
          · rw [if_neg (not_not_intro e)]
            by_cases e2 : oc = 100
            · rw [if_neg (not_not_intro (e100.mpr e2)), if_pos ⟨e, e2⟩]
            · rw [if_pos (fun h => e2 (e100.mp h)), if_neg (fun h => e2 h.2)]
          · rw [if_pos e, if_neg (fun h => e h.1)]
        rw [mfull]
        by_cases ff : s = 16 ∧ oc = 100
        · rw [if_pos ff, if_pos ff, if_neg (by decide)]
          exact sw_st S (by decide) (by decide)
        · rw [if_neg ff, if_neg ff, if_pos rfl]
          obtain ⟨σ1, τ1, e1, e2, V1, I1, X1, f1, g1, k1, r1, r2, r3⟩ := v_serve MDw V I hs3 (fun e => by rw [y8]; exact fun h => ff ⟨e, e100.mp h⟩)
          have q1 : inW (σ1 60 4) := by rw [g1]; exact c
          obtain ⟨vv, σ2, τ2, e3, e4, _, _, _, V2, C2, R2, f2, m2, b2, g2⟩ := v_pop hM V1 q1
          have fr1 := fr_Machine_serve (P := fun c => c = 58 ∨ c = 60 ∨ c = 63) (by decide) (by decide) (by decide) e1
          have W1 : WB m T pl σ1 τ1 := ⟨V1, I1, prs_c P (fun c h1 h2 => fr1 c (by simp; omega)) X1, by rw [k1 2 (by decide) (by decide) (by decide), r2]; exact a2, by rw [k1 6 (by decide) (by decide) (by decide)]; exact a6, by rw [k1 4 (by decide) (by decide) (by decide)]; exact a4⟩
          have W2 := wb_c W1 V2 C2 R2
          have s34 : σ2 34 = σ 34 := by rw [C2.1 34 (by decide) (by decide) (by decide) (by decide)]; exact fr1 34 (by decide)
          obtain ⟨σ3, τ3, h1, h2, h3⟩ := w_go W2 (v := v) (v' := v') (by rw [s34]; exact L) z
          have em : Mo_atService_B72 67 s v' τ = some (-1, τ3) := by
            unfold Mo_atService_B72
            rw [e2, cv_of, e4, cl_of]
            exact h2
          rw [e1, cv_of, e3, cl_of, h1, cl_of, em]
          exact sw_go ⟨σ3, τ3, rfl, rfl, h3⟩ (fx_tr X1 (fx_fr R2)) (by rw [m2, k1 2 (by decide) (by decide) (by decide)])
    · rw [if_neg c, if_neg (by decide), if_neg (by decide)]
      exact sw_st S (by decide) (by decide)
end
section
variable {M F G B w f : Nat} {σ τ : St} {op fm r x d i : Int32}
/-- INC, DEC: CARRY stays -/
theorem c_inc (H : MC M F G B) (hf : f ≠ M ∧ f ≠ F ∧ f ≠ G ∧ f ≠ B) (V : Vr M F G B w σ τ) (ho : op = 17 ∨ op = 18) {j : Nat} (hj : j < 8) (I : Inst σ f op 1 (nI j) x d i) {σ' : St} (h : Machine_perform_B30 M f 0 σ = some (-1, σ')) : σ' F 0 = σ F 0 := by
  have hop : opR op := by rcases ho with rfl | rfl <;> decide
  obtain ⟨v, σ1, τ1, e1, e2, V1, C1, R1, g1, g2, g3, g4⟩ := v_rec H V (l := rgv σ G (nI j)) (r := rtv σ G B 1 (nI j) x i 0) (r' := rtv σ G B 1 (nI j) x i 0) hop (fun _ => rfl)
  have ev : σ1 F 0 = σ F 0 := by
    have e : Flags_reckon F op (rgv σ G (nI j)) (rtv σ G B 1 (nI j) x i 0) σ = Flags_reckon F op (rgv σ G (nI j)) (rtv σ G B 1 (nI j) x i 0) (mkF σ F (σ F 0) (σ F 1) (σ F 2) (σ F 3)) := by rw [← mkF_self σ F]
    rw [e, fc_rec hop] at e1
    have q : mkF σ F _ _ _ _ = σ1 := congrArg Prod.snd (Option.some.inj e1)
    rw [← q, mkF_c]
    rcases ho with rfl | rfl <;> (simp [fw]; rfl)
  have I1 : Inst σ1 f op 1 (nI j) x d i := inst_c I (C1.1 f hf.1 hf.2.1 hf.2.2.1 hf.2.2.2)
  obtain ⟨σ2, τ2, e3, e4, _, _, _, _, _, k3, _⟩ := v_give H V1 hj v
  have n4 : ¬ chW 1 := by decide
  unfold Machine_perform_B30 at h
  rw [c_lacks H I, if_neg (by
    rintro (⟨k, _⟩ | ⟨k, _⟩ | ⟨_, _, k, _⟩)
    · rcases ho with rfl | rfl <;> exact absurd k (by decide)
    · rcases ho with rfl | rfl <;> exact absurd k (by decide)
    · exact absurd k (by decide)), cl_of, if_pos rfl, nm_of, I.1] at h
  have hb : Machine_perform_B223 M f 0 σ = some (-1, σ2) := by
    unfold Machine_perform_B223
    rw [show (0 : Int32) = nI 0 from rfl, c_left H I (by omega), cl_of, c_right H I (by omega), cl_of, I.1, H.1, lfv_r n4, e1, cl_of]
    unfold Machine_giveLeft
    rw [c_chW I1, if_neg n4, cl_of, if_pos rfl, I1.2.2.1, e3, cv_of, cv_of]
  have hh : some ((-1 : Int32), σ2) = some (-1, σ') := by
    rw [← h, hb]
    rcases ho with rfl | rfl
    · simp
    · simp
  have q : σ2 = σ' := congrArg Prod.snd (Option.some.inj hh)
  rw [← q, k3, ev]
end
