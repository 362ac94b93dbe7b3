section
variable {m T : Nat} {pl : Nat → Nat} {σ σ' τ τ' : St}
theorem led_n {s : Nat → Int32} {v v' : Int32} (hm : m ≤ 120) (L : Led m s v v') : (v = -100) ↔ (v' = -100) := by
  rcases L with ⟨e1, e2⟩ | ⟨e, h⟩ | ⟨w, hw, e1, e2⟩
  · rw [e1, e2]
  · rw [e]
  · rw [e1, e2]
    have := (pst_le (s := s) 120 w hw).2
    exact ⟨fun z => absurd z (nI_n100 (by omega)), fun z => absurd z (nI_n100 (by omega))⟩
/-- GO, GOSUB: behind what may stop them -/
theorem w_go2 (W : WB m T pl σ τ) {v v' : Int32} (L : Led m (σ 34) v v') (h : ¬ v = -100) : GT1 m T pl σ τ (Walker_goByRegister_B74 65 v σ) (cv (Mo_forgetFlags 67 τ) fun σ1 => Mo_stride_B448 67 v' σ1) := by
  obtain ⟨σ1, τ1, e1, e2, V1, C1, R1, g1⟩ := v_ff W.1
  have s34 : σ1 34 = σ 34 := C1.1 34 (by decide) (by decide) (by decide) (by decide)
  unfold Walker_goByRegister_B74
  rw [cc_65_1, cc_58_0, e1, cv_of, e2, cv_of]
  obtain ⟨σ2, τ2, f1, f2, S2, X2, k⟩ := w_go (wb_c W V1 C1 R1) (v := v) (v' := v') (by rw [s34]; exact L) h
  rw [f1, cl_of]
  exact ⟨σ2, τ2, rfl, f2, S2, fx_tr (fx_fr R1) X2, by rw [k, g1]⟩
theorem w_reg (S : WS m T pl σ τ) {q : Nat} (hq : q < m) (h : σ 34 q = 5 ∨ σ 34 q = 6) (hp : σ 65 3 = nI q) : StW m T pl σ τ (Walker_stepFlow 65 (σ 34 q) (σ 35 q) (σ 36 q) σ) (Mo_stride_B272 67 (nI (120 + q)) (σ 34 q) (nI (256 + pl q + 5)) τ) := by
  have P := S.1.2.2.1
  have hm := P.1
  have hM := MDw.1
  have V := S.1.1
  have n9 : ¬ σ 34 q = 9 ∧ ¬ σ 34 q = 7 := by rcases h with h | h <;> rw [h] <;> decide
  have hr : inR (σ 35 q) := by
    rcases (P.2.2.2.2.2.2.1 q hq).2 with ⟨e, _⟩ | ⟨_, f, _⟩
    · exact absurd e n9.1
    · rcases f with ⟨y, _⟩ | ⟨y, _⟩ | ⟨y, _⟩ | ⟨y, _⟩ | ⟨_, y, _⟩ | y | ⟨y, _⟩
      · exfalso; rcases h with h | h <;> (rw [h] at y; exact absurd y (by decide))
      · exfalso; rcases h with h | h <;> (rw [h] at y; rcases y with y | y <;> exact absurd y (by decide))
      · exfalso; rcases h with h | h <;> (rw [h] at y; exact absurd y (by decide))
      · exfalso; rcases h with h | h <;> (rw [h] at y; exact absurd y (by decide))
      · exact y
      · exact absurd y n9.2
      · exfalso; rcases h with h | h <;> (rw [h] at y; exact absurd y (by decide))
  have ec : Walker_stepFlow 65 (σ 34 q) (σ 35 q) (σ 36 q) σ = cl (Walker_goByRegister 65 (σ 35 q) (if σ 34 q = 6 then 1 else 0) σ) fun x s => some (x, s) := by
    unfold Walker_stepFlow
    rcases h with h | h
    · rw [if_neg (by rw [h]; decide), if_neg (by rw [h]; decide), if_neg (by rw [h]; decide), if_neg (by rw [h]; decide), if_pos h, if_neg (by rw [h]; decide)]
    · rw [if_neg (by rw [h]; decide), if_neg (by rw [h]; decide), if_neg (by rw [h]; decide), if_neg (by rw [h]; decide), if_neg (by rw [h]; decide), if_pos h, if_pos h]
  rw [ec]
  unfold Walker_goByRegister Mo_stride_B272
  rw [cc_65_1, cc_67_14, it_a P hq n9.1 n9.2, mu_eq (V.2.2.2.2.2.1 rfl), cl_of]
  have eu : (if ¬ σ 35 q = 1 then Walker_goByRegister_B18 65 (σ 35 q) (if σ 34 q = 6 then 1 else 0) σ else if σ 58 5 = 0 then Walker_goByRegister_B18 65 (σ 35 q) (if σ 34 q = 6 then 1 else 0) σ else some (7, σ)) = if σ 35 q = 1 ∧ ¬ σ 58 5 = 0 then some (7, σ) else Walker_goByRegister_B18 65 (σ 35 q) (if σ 34 q = 6 then 1 else 0) σ := by
    by_cases c1 : σ 35 q = 1
    · rw [if_neg (not_not_intro c1)]
      by_cases c2 : σ 58 5 = 0
      · rw [if_pos c2, if_neg (show ¬ (σ 35 q = 1 ∧ ¬ σ 58 5 = 0) from fun z => z.2 c2)]
      · rw [if_neg c2, if_pos ⟨c1, c2⟩]
    · rw [if_pos c1, if_neg (show ¬ (σ 35 q = 1 ∧ ¬ σ 58 5 = 0) from fun z => c1 z.1)]
  rw [eu]
  by_cases u : σ 35 q = 1 ∧ ¬ σ 58 5 = 0
  · rw [if_pos u, if_pos u, if_neg (by decide), cl_of]
    exact sw_st S (by decide) (by decide)
  · rw [if_neg u, if_neg u, if_pos rfl, it_a P hq n9.1 n9.2, m_reg V hr, cl_of]
    obtain ⟨v, v', l1, l2, L⟩ := v_lead P (rgv σ 60 (σ 35 q))
    unfold Walker_goByRegister_B18
    rw [cc_65_1, cc_65_0, c_reg hM, cl_of, l1, cl_of, l2, cl_of]
    have nn := led_n hm L
    by_cases z : v = -100
    · rw [if_neg (not_not_intro z), if_neg (not_not_intro (nn.mp z)), cl_of]
      exact sw_st S (by decide) (by decide)
    · rw [if_pos z, if_pos (fun y => z (nn.mpr y))]
      rcases h with h | h
      · -- GO
        rw [if_neg (show ¬ σ 34 q = 6 by rw [h]; decide), if_pos rfl, if_pos (show ¬ σ 34 q = 6 by rw [h]; decide)]
        unfold Walker_goByRegister_B59 Mo_stride_B333
        rw [if_pos rfl, if_pos (show ¬ σ 34 q = 6 by rw [h]; decide)]
        obtain ⟨σ2, τ2, f1, f2, f3⟩ := w_go2 S.1 L z
        rw [f1, cl_of]
        exact sw_go ⟨σ2, τ2, rfl, f2, f3⟩ fx_rf rfl
      · -- GOSUB
        rw [if_pos h, if_neg (by decide), if_neg (not_not_intro h), c_canPush hM, cl_of, m_reg V r4, cl_of, rgv_4, mt_eq, cl_of]
        by_cases c : inW (σ 60 4 - 4)
        · rw [if_pos c, if_pos (by decide), if_pos (by decide)]
          unfold Walker_goByRegister_B59 Mo_stride_B333
          obtain ⟨σ1, τ1, p1, p2, V1, C1, R1, g1, g2, _⟩ := v_push hM V c (nI (256 + pl q + 5))
          have W1 := wb_c S.1 V1 C1 R1
          have s34 : σ1 34 = σ 34 := C1.1 34 (by decide) (by decide) (by decide) (by decide)
          rw [if_neg (by decide), c_behind P hq hp, cl_of, cc_65_1, p1, cv_of, if_neg (not_not_intro h), p2, cv_of]
          obtain ⟨σ2, τ2, f1, f2, f3⟩ := w_go2 W1 (v := v) (v' := v') (by rw [s34]; exact L) z
          rw [f1, cl_of]
          exact sw_go ⟨σ2, τ2, rfl, f2, f3⟩ (fx_fr R1) (by rw [g2])
        · rw [if_neg c, if_neg (by decide), if_neg (by decide), cl_of]
          exact sw_st S (by decide) (by decide)
/-- RETURN -/
theorem w_back (S : WS m T pl σ τ) {q : Nat} (h : σ 34 q = 7) : StW m T pl σ τ (Walker_stepFlow 65 (σ 34 q) (σ 35 q) (σ 36 q) σ) (cl (Mo_reg 67 4 τ) fun x22 σ21 => cl (Mo_isThere x22 σ21) fun x24 σ23 => if ¬ x24 = 0 then cl (Mo_reg 67 4 σ23) fun x26 σ25 => cl (Mo_load 67 x26 σ25) fun x28 σ27 => cl (Mo_leads 67 x28 σ27) fun x30 σ29 => if ¬ x30 = (-100) then cl (Mo_reg 67 4 σ29) fun x32 σ31 => cv (Mo_setReg 67 4 (x32 + 4) σ31) fun σ33 => sa σ33 88 16 9 0 fun σ34 => nm (s2 σ34 67 40 1) fun σ35 => cv (Mo_forgetFlags 67 σ35) fun σ36 => Mo_stride_B448 67 x30 σ36 else some (9, σ29) else some (3, σ23)) := by
  have P := S.1.2.2.1
  have hm := P.1
  have hM := MDw.1
  have V := S.1.1
  have ec : Walker_stepFlow 65 (σ 34 q) (σ 35 q) (σ 36 q) σ = cl (Walker_goBack 65 σ) fun x s => some (x, s) := by
    unfold Walker_stepFlow
    rw [if_neg (by rw [h]; decide), if_neg (by rw [h]; decide), if_neg (by rw [h]; decide), if_neg (by rw [h]; decide), if_neg (by rw [h]; decide), if_neg (by rw [h]; decide), if_pos h]
  rw [ec]
  unfold Walker_goBack
  rw [cc_65_1, cc_65_0, cc_58_0, c_canPop hM, cl_of, m_reg V r4, cl_of, rgv_4, mt_eq, cl_of]
  by_cases c : inW (σ 60 4)
  · rw [if_pos c, if_pos (by decide), if_pos (by decide), c_reg hM, cl_of, rgv_4, m_reg V r4, cl_of, rgv_4]
    obtain ⟨w, σ1, τ1, p1, p2, p3, p4, p5, V1, C1, R1, g1, g2, g3, g4⟩ := v_pop hM V c
    rw [p4, cl_of, p3, cl_of]
    obtain ⟨v, v', l1, l2, L⟩ := v_lead P w
    rw [l1, cl_of, l2, cl_of]
    have nn := led_n hm L
    by_cases z : v = -100
    · rw [if_neg (not_not_intro z), if_neg (not_not_intro (nn.mp z)), cl_of]
      exact sw_st S (by decide) (by decide)
    · rw [if_pos z, if_pos (fun y => z (nn.mpr y)), p1, cl_of, m_reg V r4, cl_of, rgv_4, p5, cv_of, sa_L 9 9 rfl (by decide) (by decide), nm_of]
      obtain ⟨σ2, τ2, e1, e2, V2, C2, R2, k1, k2, k3, k4⟩ := v_give hM V1 (k := 1) (by decide) 0
      rw [show Machine_give 58 1 0 σ1 = some σ2 from e1, cv_of, nm_of]
      obtain ⟨v1, v2, v3, v4, v5, v6, v7, v8, v9⟩ := id V1
      have V3 : Vr 58 59 60 61 1 (s2 σ2 58 5 1) (s2 (s2 τ1 88 9 0) 67 40 1) := by
        refine ⟨fun k hk => ?_, fun k hk => ?_, fun k hk => ?_, fun k hk => ?_, ?_, fun _ => ?_, fun x => absurd x (by decide), ?_, by decide⟩
        · rw [s2_ne (by decide), k1, upd_at, s2_ne (by decide), s2_row, upd_at]
          by_cases e : k = 1
          · rw [if_pos e, if_pos (by omega)]
          · rw [if_neg e, if_neg (by omega)]; exact v1 k hk
        · rw [s2_ne (by decide), k3, s2_ne (by decide), s2_ne (by decide)]; exact v2 k hk
        · rw [s2_ne (by decide), k2, s2_ne (by decide), s2_ne (by decide)]; exact v3 k hk
        · rw [s2_ne (by decide), k2]; exact v4 k hk
        · rw [s2_row, upd_s]; exact Or.inr rfl
        · rw [s2_row, upd_s, s2_row, upd_s]
        · rw [s2_row, upd_ne (by decide), s2_ne (by decide)]; exact v8
      have C3 : FC 58 59 60 61 σ (s2 σ2 58 5 1) := fc_tr (fc_tr C1 C2) ⟨fun c x _ _ _ => s2_ne x, fun j x => by rw [s2_row, upd_ne x]⟩
      have R3 : FR 1 τ (s2 (s2 τ1 88 9 0) 67 40 1) := by
        refine fr_tr R1 ⟨fun c x1 x2 _ _ => by rw [s2_ne x1, s2_ne x2], fun j x => by rw [s2_row, upd_ne x, s2_ne (by decide)], fun j x => by rw [s2_ne (by decide), s2_row, upd_ne (by omega)], fun j x => by rw [s2_ne (by decide), s2_ne (by decide)], fun j x => by rw [s2_ne (by decide), s2_ne (by decide)], fun x => absurd x (by decide)⟩
      have W3 := wb_c S.1 V3 C3 R3
      have s34 : (s2 σ2 58 5 1) 34 = σ 34 := C3.1 34 (by decide) (by decide) (by decide) (by decide)
      obtain ⟨σ4, τ4, f1, f2, f3⟩ := w_go2 W3 (v := v) (v' := v') (by rw [s34]; exact L) z
      unfold Walker_goByRegister_B74 at f1
      rw [cc_65_1, cc_58_0] at f1
      have f1' : (cv (Flags_setAll 59 2 (s2 σ2 58 5 1)) fun σ13 => cl (Walker_goTo 65 v σ13) fun x15 σ14 => some (x15, σ14)) = some (-1, σ4) := f1
      rw [f1', cl_of]
      exact sw_go ⟨σ4, τ4, rfl, f2, f3⟩ (fx_fr R3) (C3.2 2 (by decide))
  · rw [if_neg c, if_neg (by decide), if_neg (by decide), cl_of]
    exact sw_st S (by decide) (by decide)
/-- ADDRESS -/
theorem w_adr (S : WS m T pl σ τ) {q : Nat} (hq : q < m) (h : σ 34 q = 8) (hp : σ 65 3 = nI q) : StW m T pl σ τ (Walker_stepFlow 65 (σ 34 q) (σ 35 q) (σ 36 q) σ) (ld τ 75 240 (nI (120 + q)) fun x37 => ld τ 74 240 (nI (120 + q)) fun x38 => ld τ 79 80 (40 + x38) fun x39 => cv (Mo_setReg 67 x37 (256 + x39) τ) fun σ40 => Mo_stride_B448 67 (nI (pst (σ 34) m 120 (q + 1))) σ40) := by
  have P := S.1.2.2.1
  have hm := P.1
  have hM := MDw.1
  have V := S.1.1
  obtain ⟨k, hk, e1, e2, _, e3⟩ := c_label P hq (Or.inr (Or.inr (Or.inr h)))
  have hr : inR (σ 36 q) := by
    rcases (P.2.2.2.2.2.2.1 q hq).2 with ⟨e, _⟩ | ⟨_, f, _⟩
    · rw [h] at e; exact absurd e (by decide)
    · rw [h] at f
      rcases f with ⟨y, _⟩ | ⟨y, _⟩ | ⟨y, _⟩ | ⟨y, _⟩ | ⟨y, _⟩ | y | ⟨_, _, y⟩
      · exact absurd y (by decide)
      · rcases y with y | y <;> exact absurd y (by decide)
      · exact absurd y (by decide)
      · exact absurd y (by decide)
      · rcases y with y | y <;> exact absurd y (by decide)
      · exact absurd y (by decide)
      · exact y
  obtain ⟨j, hj, ej⟩ := to_nI (m := 8) hr.1 8 rfl (by decide) hr.2
  unfold Walker_stepFlow
  rw [if_neg (by rw [h]; decide), if_neg (by rw [h]; decide), if_neg (by rw [h]; decide), if_neg (by rw [h]; decide), if_neg (by rw [h]; decide), if_neg (by rw [h]; decide), if_neg (by rw [h]; decide), cc_65_0, cc_65_1, e1, cl_of, c_addrOf P hk, cl_of, it_b P hq (Or.inr h), e2, e3, show (256 : Int32) + nI (pl k) = nI (256 + pl k) from nI_add 256 _, ej]
  obtain ⟨σ1, τ1, p1, p2, V1, C1, R1, _⟩ := v_give hM V hj (nI (256 + pl k))
  have s34 : σ1 34 = σ 34 := C1.1 34 (by decide) (by decide) (by decide) (by decide)
  have s65 : σ1 65 = σ 65 := C1.1 65 (by decide) (by decide) (by decide) (by decide)
  rw [p1, cv_of, p2, cv_of, s65, hp, nI_1]
  obtain ⟨σ2, τ2, f1, f2, f3⟩ := w_go (wb_c S.1 V1 C1 R1) (v := nI (q + 1)) (v' := nI (pst (σ 34) m 120 (q + 1))) (by rw [s34]; exact led_k (by omega)) (nI_n100 (by omega))
  rw [f1, cl_of]
  exact sw_go ⟨σ2, τ2, rfl, f2, f3⟩ (fx_fr R1) (C1.2 2 (by decide))
end
