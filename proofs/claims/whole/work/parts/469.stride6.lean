section
variable {m T : Nat} {pl : Nat → Nat} {σ σ' τ τ' : St}
theorem c_uk22 {f : Nat} (h0 : σ f 0 = 22) (h1 : σ f 1 = 0) : Machine_readsUnknown 58 f σ = some (0, σ) := by
  have e : Machine_readsUnknown_B29 58 f σ = some (0, σ) := by
    unfold Machine_readsUnknown_B29
    by_cases c : σ 58 5 = 0
    · rw [if_neg (not_not_intro c)]
    · rw [if_pos c, h1, hmf_eq, if_neg (by decide), cl_of, if_pos rfl]
      unfold Machine_readsUnknown_B66 Machine_readsUnknown_B84 Machine_readsUnknown_B113
      rw [h1, h0, if_pos (by decide), if_pos (by decide), if_neg (by decide), if_neg (by decide), if_pos (by decide), if_pos rfl]
  unfold Machine_readsUnknown
  rw [h0, if_neg (by decide), if_pos (by decide), e]
theorem w_plain (S : WS m T pl σ τ) {q : Nat} (hq : q < m) (h : σ 34 q = 9) (hp : σ 65 3 = nI q) : StW m T pl σ τ (Walker_stepPlain 65 σ) (Mo_plainStride 67 (nI (120 + q)) τ) := by
  have P := S.1.2.2.1
  obtain ⟨hm, c1, c2, c3, c4, c5, it, plq, lay⟩ := id P
  have hM := MDw.1
  have V := S.1.1
  obtain ⟨hop, r1, r2, r3, r4'⟩ : POK (σ 38 q) (σ 39 q) (σ 40 q) (σ 41 q) (σ 43 q) ∧ (τ 72 (120 + q) = σ 38 q ∧ τ 73 (120 + q) = σ 39 q) ∧ τ 74 (120 + q) = (if hsR (σ 39 q) then σ 40 q else 0) ∧ τ 75 (120 + q) = (if σ 39 q = 2 ∨ memF (σ 39 q) then σ 41 q else 0) ∧ τ 76 (120 + q) = (if memF (σ 39 q) then σ 42 q else 0) ∧ τ 77 (120 + q) = (if hsI (σ 39 q) then σ 43 q else 0) := by
    rcases (it q hq).2 with ⟨_, p1, p2, p3, p4, p5, p6, p7⟩ | ⟨e, _⟩
    · exact ⟨p1, ⟨p2, p3⟩, p4, p5, p6, p7⟩
    · exact absurd h e
  have lx : ∀ (c : Nat) (f : Int32 → Option (Int32 × St)), ld τ c 240 (nI (120 + q)) f = f (τ c (120 + q)) := fun c f => ld_nI (by omega) (by decide)
  -- the ITEM, loaded
  generalize hop' : σ 38 q = op at hop r1
  generalize hfm' : σ 39 q = fm at hop r1 r2 r3 r4'
  generalize hr' : σ 40 q = r at hop r2
  generalize hx' : σ 41 q = x at hop r3
  generalize hd' : σ 42 q = d at r4'
  generalize hi' : σ 43 q = i at hop r4'
  generalize hσ1 : s2 (s2 (s2 (s2 (s2 (s2 σ 66 0 op) 66 1 fm) 66 2 r) 66 3 x) 66 4 d) 66 5 i = σ1
  have s1 : ∀ c, c ≠ 66 → σ1 c = σ c := fun c hc => by rw [← hσ1, s2_ne hc, s2_ne hc, s2_ne hc, s2_ne hc, s2_ne hc, s2_ne hc]
  have I1 : Inst σ1 66 op fm r x d i := by
    rw [← hσ1]; unfold Inst
    simp only [s2_ne, s2_at, up_ne, up_at, ne_eq, not_false_eq_true, not_true_eq_false, if_true, if_false, Nat.reduceEqDiff, Nat.reduceLT, true_or, or_true, reduceIte]
    exact ⟨trivial, trivial, trivial, trivial, trivial, trivial⟩
  have ec : Program_loadItem 33 (nI q) 66 σ = some σ1 := by
    unfold Program_loadItem Program_hasItem
    rw [if_neg (nI_pos (by omega)), c1, if_neg (fun x => absurd ((nI_le' (by omega) (by omega)).mp x) (by omega)), if_neg (lf_nle 120 120 q rfl (by omega) (by decide)), cl_of, if_neg (by decide), cc_33_6, cc_33_7, cc_33_8, cc_33_9, cc_33_10, cc_33_11, ld_nI (by omega) (by decide), ld_nI (by omega) (by decide), ld_nI (by omega) (by decide), ld_nI (by omega) (by decide), ld_nI (by omega) (by decide), ld_nI (by omega) (by decide), hop', hfm', hr', hx', hd', hi', ← hσ1]
    rfl
  generalize hτ1 : tkn τ (τ 72 (120 + q)) (τ 73 (120 + q)) (τ 74 (120 + q)) (τ 75 (120 + q)) (τ 76 (120 + q)) (τ 77 (120 + q)) = τ1
  have t1c : ∀ c, c ≠ 67 → τ1 c = τ c := fun c hc => by rw [← hτ1, tkn_c hc]
  have t1f : ∀ k, (k < 56 ∨ 61 < k) → τ1 67 k = τ 67 k := fun k hk => by rw [← hτ1, tkn_f hk]
  have X1 : FX 1 τ τ1 := by rw [← hτ1]; exact tkn_x
  have N1 : Nrm τ1 op fm r x d i := by
    obtain ⟨q1, q2, q3, q4, q5, q6⟩ := tkn_n (τ := τ) (op := τ 72 (120 + q)) (fm := τ 73 (120 + q)) (r := τ 74 (120 + q)) (x := τ 75 (120 + q)) (d := τ 76 (120 + q)) (i := τ 77 (120 + q))
    rw [hτ1, r1.1] at q1
    rw [hτ1, r1.2] at q2
    rw [hτ1, r1.2] at q3 q4 q5 q6
    refine ⟨q1, q2, fun y => ?_, fun y => ?_, fun y => ?_, fun y => ?_⟩
    · rw [q3 y, r2, if_pos y]
    · rw [q4 y, r3, if_pos y]
    · rw [q5 y, r4'.1, if_pos y]
    · rw [q6 y, r4'.2, if_pos y]
  have PW1 : PW op fm r x := ⟨hop.1, hop.2.1, hop.2.2.1, fun y => (hop.2.2.2.1 y).1⟩
  have W1 : WB m T pl σ1 τ1 := wb_e S.1 (fun c hc => s1 c (by omega)) t1c (fun j hj => t1f j (by omega)) X1
  have S1 : WS m T pl σ1 τ1 := ⟨W1, by rw [s1 34 (by decide), s1 65 (by decide)]; exact S.2.1, by rw [s1 65 (by decide), t1f 62 (by decide)]; exact S.2.2⟩
  have V1 := W1.1
  have em : Mo_plainStride 67 (nI (120 + q)) τ = cl (Mo_readsUnknown 67 τ1) fun x9 σ8 => if x9 = 0 then cl (Mo_wants 67 σ8) fun x11 σ10 => if x11 = 0 then ld σ10 94 2 1 fun x12 => sa σ10 94 2 1 (x12 + 1) fun σ13 => if ¬ (σ13 67 56) = 22 then ld σ13 89 8 4 fun x14 => if ¬ x14 = 2 then Mo_plainStride_B113 67 0 σ13 else if (σ13 67 56) = 17 then Mo_plainStride_B113 67 1 σ13 else if ¬ (σ13 67 56) = 18 then Mo_plainStride_B113 67 0 σ13 else Mo_plainStride_B113 67 1 σ13 else some (1, σ13) else some (3, σ10) else some (7, σ8) := by
    unfold Mo_plainStride
    rw [cc_67_12, cc_67_13, cc_67_14, cc_67_15, cc_67_16, cc_67_17, cc_67_37, cc_67_32, lx, lx, lx, lx, lx, lx]
    have : Mo_takes 67 (τ 72 (120 + q)) (τ 73 (120 + q)) (τ 74 (120 + q)) (τ 75 (120 + q)) (τ 76 (120 + q)) (τ 77 (120 + q)) τ = some τ1 := by rw [← hτ1]; rfl
    rw [this, cv_of]
  have cc := opF_op hop.1
  have n3 : ¬ op = 23 ∧ ¬ op = 26 ∧ ¬ op = 28 := ⟨ne_lt cc.1.2 (by decide), ne_lt cc.1.2 (by decide), ne_lt cc.1.2 (by decide)⟩
  obtain ⟨b, u1, u2, u3⟩ := v_reads V1 I1 N1 hop.1
  have mw := m_wants V1 N1 PW1.2.2.2 n3
  rw [em, u2, cl_of]
  unfold Walker_stepPlain
  rw [cc_65_0, cc_65_1, cc_65_2, hp, ec, cv_of, I1.1]
  have stw : ∀ {r1 r2 : Option (Int32 × St)}, StW m T pl σ1 τ1 r1 r2 → StW m T pl σ τ r1 r2 := by
    rintro r1 r2 ⟨a, σ2, τ2, e1, e2, k1, k2, k3, k4⟩
    exact ⟨a, σ2, τ2, e1, e2, k1, fx_tr X1 k2, fun y => by rw [k3 y, s1 58 (by decide)], k4⟩
  by_cases h22 : op = 22
  · have hf0 : fm = 0 := by
      rcases hop.1 with ⟨_, k, _⟩ | ⟨k, _⟩ | ⟨k, _⟩ | ⟨k, _⟩ | ⟨k, _⟩ | ⟨k, _⟩ | ⟨k, _⟩ | ⟨k, _⟩ | ⟨_, k⟩
      · rw [h22] at k; exact absurd k (by decide)
      · rw [h22] at k; exact absurd k (by decide)
      · rw [h22] at k; exact absurd k (by decide)
      · rw [h22] at k; exact absurd k (by decide)
      · rw [h22] at k; exact absurd k (by decide)
      · rw [h22] at k; exact absurd k (by decide)
      · rw [h22] at k; exact absurd k (by decide)
      · rw [h22] at k; exact absurd k (by decide)
      · exact k
    rw [c_uk22 (by rw [I1.1, h22]) (by rw [I1.2.1, hf0])] at u1
    have eb : (0 : Int32) = b := congrArg Prod.fst (Option.some.inj u1)
    have nl : ¬ lk op fm (σ1 60 4) (atA σ1 60 fm x d) := by
      rw [h22, hf0]; rintro (⟨k, _⟩ | ⟨k, _⟩ | ⟨_, _, k, _⟩) <;> exact absurd k (by decide)
    rw [if_neg nl] at mw
    rw [if_neg (not_not_intro h22), ← eb, if_pos rfl, mw, cl_of, if_pos rfl, ld_L 1 1 rfl (by decide) (by decide), sa_L 1 1 rfl (by decide) (by decide), s2_ne (by decide), N1.1, if_neg (not_not_intro h22)]
    unfold Walker_standStill
    rw [cc_65_1, nm_of, cl_of]
    exact stw (sw_still S1 (by decide) (by decide))
  · rw [if_pos h22]
    unfold Machine_perform
    rw [u1, cl_of]
    by_cases zb : b = 0
    · rw [if_pos zb, if_pos zb, I1.2.1, hmf_eq, cl_of]
      have ep : (if (if memF fm then (1 : Int32) else 0) = 0 then Machine_perform_B30 58 66 0 σ1 else cl (Machine_addressOf 58 66 σ1) fun x6 σ5 => Machine_perform_B30 58 66 x6 σ5) = Machine_perform_B30 58 66 (atA σ1 60 fm x d) σ1 := by
        by_cases cm : memF fm
        · rw [if_pos cm, if_neg (by decide), c_addr hM, cl_of, I1.2.2.2.1, I1.2.2.2.2.1, atA_m cm]
        · rw [if_neg cm, if_pos rfl, atA_n cm]
      rw [ep, mw, cl_of]
      by_cases l : lk op fm (σ1 60 4) (atA σ1 60 fm x d)
      · rw [if_pos l, if_neg (by decide)]
        have e3 : Machine_perform_B30 58 66 (atA σ1 60 fm x d) σ1 = some (3, σ1) := by
          unfold Machine_perform_B30
          rw [c_lacks hM I1, if_pos l, cl_of, if_neg (by decide)]
        rw [e3, cl_of, if_pos (by decide)]
        exact stw (sw_st S1 (by decide) (by decide))
      · rw [if_neg l, if_pos rfl, ld_L 1 1 rfl (by decide) (by decide), sa_L 1 1 rfl (by decide) (by decide)]
        generalize hτ2 : s2 τ1 94 1 (τ1 94 1 + 1) = τ2
        have t2c : ∀ c, c ≠ 94 → τ2 c = τ1 c := fun c hc => by rw [← hτ2, s2_ne hc]
        have X2 : FX 1 τ1 τ2 := by rw [← hτ2]; exact fx_s (by simp)
        have V2 : Vr 58 59 60 61 1 σ1 τ2 := vr_t V1 (t2c 88 (by decide)) (t2c 89 (by decide)) (t2c 90 (by decide)) (by rw [t2c 67 (by decide)]) (by rw [t2c 67 (by decide)])
        have N2 : Nrm τ2 op fm r x d i := by unfold Nrm; rw [t2c 67 (by decide)]; exact N1
        have I2 : IOr 58 62 63 1 σ1 τ2 := by
          have k := W1.2.1
          unfold IOr at k ⊢
          rw [t2c 67 (by decide), t2c 92 (by decide), t2c 86 (by decide), t2c 91 (by decide)]
          exact k
        obtain ⟨σ3, τ3, d1, d2, V3, C3, R3, _⟩ := v_does hM (by decide) V2 I1 N2 PW1 h22 l
        -- the flag that is set again
        have fl : ∀ t : Int32, (t = 0 ∨ (τ2 89 4 = 2 ∧ (op = 17 ∨ op = 18))) → Mo_plainStride_B113 67 t τ2 = Mo_plainStride_B129 67 τ3 := by
          intro t ht
          unfold Mo_plainStride_B113
          rw [d2, cv_of, cc_67_32]
          rcases ht with rfl | ⟨h2, ho⟩
          · rw [if_pos rfl]
          · split
            · rfl
            · have hf1 : fm = 1 := by
                rcases hop.1 with ⟨_, k, _⟩ | ⟨k, _⟩ | ⟨k, _⟩ | ⟨k, _⟩ | ⟨k, _⟩ | ⟨k, _⟩ | ⟨_, k⟩ | ⟨k, _⟩ | ⟨k, _⟩
                · rcases ho with o | o <;> (rw [o] at k; exact absurd k (by decide))
                · rcases ho with o | o <;> (rw [o] at k; exact absurd k (by decide))
                · rcases ho with o | o <;> (rw [o] at k; exact absurd k (by decide))
                · rcases ho with o | o <;> (rw [o] at k; exact absurd k (by decide))
                · rcases ho with o | o <;> (rw [o] at k; exact absurd k (by decide))
                · rcases ho with o | o <;> (rw [o] at k; exact absurd k (by decide))
                · exact k
                · rcases ho with o | o <;> (rw [o] at k; exact absurd k (by decide))
                · rcases ho with o | o <;> (rw [o] at k; exact absurd k (by decide))
              have hr := PW1.2.1 (by rw [hf1]; decide)
              obtain ⟨j, hj, ej⟩ := to_nI (m := 8) hr.1 8 rfl (by decide) hr.2
              have d1' := d1
              rw [atA_n (by rw [hf1]; decide)] at d1'
              have I1' := I1
              rw [hf1, ej] at I1'
              have k := c_inc hM (by decide) V2 ho hj I1' d1'
              have e89 : τ3 89 4 = 2 := by rw [show (4 : Nat) = 4 * 1 + 0 from rfl, ← V3.2.1 0 (by decide), k, V2.2.1 0 (by decide)]; exact h2
              rw [sa_L 4 4 rfl (by decide) (by decide)]
              congr 1
              funext c j
              rw [s2_at]
              by_cases y1 : c = 89
              · subst y1
                rw [if_pos rfl]
                by_cases y2 : j = 4
                · rw [y2, if_pos rfl, e89]
                · rw [if_neg y2]
              · rw [if_neg y1]
        have em2 : (if ¬ (τ2 67 56) = 22 then ld τ2 89 8 4 fun x14 => if ¬ x14 = 2 then Mo_plainStride_B113 67 0 τ2 else if (τ2 67 56) = 17 then Mo_plainStride_B113 67 1 τ2 else if ¬ (τ2 67 56) = 18 then Mo_plainStride_B113 67 0 τ2 else Mo_plainStride_B113 67 1 τ2 else some (1, τ2)) = Mo_plainStride_B129 67 τ3 := by
          rw [N2.1, if_pos h22, ld_L 4 4 rfl (by decide) (by decide), fl 0 (Or.inl rfl)]
          by_cases y : τ2 89 4 = 2
          · rw [if_neg (not_not_intro y)]
            by_cases y1 : op = 17
            · rw [if_pos y1, fl 1 (Or.inr ⟨y, Or.inl y1⟩)]
            · rw [if_neg y1]
              by_cases y2 : op = 18
              · rw [if_neg (not_not_intro y2), fl 1 (Or.inr ⟨y, Or.inr y2⟩)]
              · rw [if_pos y2]
          · rw [if_pos y]
        rw [em2, d1, cl_of, if_neg (by decide)]
        have P3 : PrS m T pl σ3 τ3 := prs_c W1.2.2.1 (fun c h1 h2 => C3.1 c (by omega) (by omega) (by omega) (by omega)) (fx_tr X2 (fx_fr R3))
        have s34 : σ3 34 = σ 34 := by rw [C3.1 34 (by decide) (by decide) (by decide) (by decide), s1 34 (by decide)]
        have s65 : σ3 65 = σ 65 := by rw [C3.1 65 (by decide) (by decide) (by decide) (by decide), s1 65 (by decide)]
        have t62 : τ3 67 62 = nI q := by rw [R3.2.1 62 (by decide), t2c 67 (by decide), t1f 62 (by decide), ← S.2.2, hp]
        have eg : Walker_goTo 65 (nI (q + 1)) σ3 = some (-1, s2 (s2 σ3 58 2 (σ3 58 2 + 1)) 65 3 (nI (pst (σ 34) m 120 (q + 1)))) := by
          unfold Walker_goTo
          rw [cc_65_1, cc_65_0, nm_of, if_pos (lf_le 0 0 (q + 1) rfl (by omega) (by omega)), c_pastL (m := m) (by rw [s2_ne (by decide)]; exact P3.2.1) hm (by omega), cl_of, nm_of, s2_ne (by decide), s34]
        have eb : Mo_plainStride_B129 67 τ3 = some (-1, s2 τ3 67 62 (nI (pst (σ 34) m 120 (q + 1)))) := by
          unfold Mo_plainStride_B129
          rw [t62, nI_1, m_pass P3 (by omega), cl_of, nm_of, s34]
        rw [s65, hp, nI_1, eg, cl_of, eb]
        have X3 : FX 1 τ1 (s2 τ3 67 62 (nI (pst (σ 34) m 120 (q + 1)))) := fx_tr X2 (fx_tr (fx_fr R3) (fx_f (by omega)))
        refine stw ⟨-1, _, _, rfl, rfl, ⟨⟨?_, ?_, ?_, ?_, ?_, ?_⟩, ?_, ?_⟩, X3, fun _ => ?_, Or.inl rfl⟩
        · refine vr_t (vr_c V3 ?_ ?_ ?_ ?_) ?_ ?_ ?_ ?_ ?_
          all_goals simp only [s2_ne, s2_at, up_ne, up_at, ne_eq, not_false_eq_true, not_true_eq_false, if_true, if_false, Nat.reduceEqDiff, Nat.reduceLT, true_or, or_true, reduceIte]
        · have k := io_c I2 C3 R3
          unfold IOr at k ⊢
          simp only [s2_ne, s2_at, up_ne, up_at, ne_eq, not_false_eq_true, not_true_eq_false, if_true, if_false, Nat.reduceEqDiff, Nat.reduceLT, true_or, or_true, reduceIte]
          exact k
        · refine prs_c P3 (fun c h1 h2 => ?_) (fx_f (by omega))
          rw [s2_ne (by omega), s2_ne (by omega)]
        · simp only [s2_ne, s2_at, up_ne, up_at, ne_eq, not_false_eq_true, not_true_eq_false, if_true, if_false, Nat.reduceEqDiff, Nat.reduceLT, true_or, or_true, reduceIte]
          rw [C3.2 2 (by decide), R3.1 94 (by decide) (by decide) (by decide) (by decide), ← hτ2, s2_row, upd_s, W1.2.2.2.1]
        · simp only [s2_ne, s2_at, up_ne, up_at, ne_eq, not_false_eq_true, not_true_eq_false, if_true, if_false, Nat.reduceEqDiff, Nat.reduceLT, true_or, or_true, reduceIte]; rw [C3.2 6 (by decide)]; exact W1.2.2.2.2.1
        · simp only [s2_ne, s2_at, up_ne, up_at, ne_eq, not_false_eq_true, not_true_eq_false, if_true, if_false, Nat.reduceEqDiff, Nat.reduceLT, true_or, or_true, reduceIte]; rw [C3.2 4 (by decide)]; exact W1.2.2.2.2.2
        · simp only [s2_ne, s2_at, up_ne, up_at, ne_eq, not_false_eq_true, not_true_eq_false, if_true, if_false, Nat.reduceEqDiff, Nat.reduceLT, true_or, or_true, reduceIte]; rw [s34]; exact pos_pst hm (by omega)
        · simp only [s2_ne, s2_at, up_ne, up_at, ne_eq, not_false_eq_true, not_true_eq_false, if_true, if_false, Nat.reduceEqDiff, Nat.reduceLT, true_or, or_true, reduceIte]
        · simp only [s2_ne, s2_at, up_ne, up_at, ne_eq, not_false_eq_true, not_true_eq_false, if_true, if_false, Nat.reduceEqDiff, Nat.reduceLT, true_or, or_true, reduceIte]; rw [C3.2 2 (by decide)]
    · rw [if_neg zb, if_neg zb, cl_of, if_pos (by decide)]
      exact stw (sw_st S1 (by decide) (by decide))
end
