section
variable {m T : Nat} {pl : Nat → Nat} {σ σ' τ τ' : St}
theorem w_any (S : WS m T pl σ τ) : ∃ a σ' τ', (∀ (n : Nat) (v1 v3 : Int32), ¬ v1 ≤ v3 → Walker_goOn_B16 (n + 1) 65 v1 (-1) v3 σ = Walker_goOn_B16 n 65 v1 a (v3 + 1) σ') ∧ Mo_stride 67 τ = some (a, τ') ∧ WS m T pl σ' τ' ∧ FX 1 τ τ' ∧ (a = -1 → σ' 58 2 = σ 58 2 + 1) ∧ (a = -1 ∨ ¬ a < 0) := by
  have P := S.1.2.2.1
  obtain ⟨hm, c1, c2, c3, c4, c5, it, plq, lay⟩ := id P
  have mk : ∀ {r1 r2 : Option (Int32 × St)}, StW m T pl σ τ r1 r2 → (∀ (n : Nat) (v1 v3 : Int32), ¬ v1 ≤ v3 → Walker_goOn_B16 (n + 1) 65 v1 (-1) v3 σ = cl r1 fun x s => Walker_goOn_B16 n 65 v1 x (v3 + 1) s) → Mo_stride 67 τ = r2 → ∃ a σ' τ', (∀ (n : Nat) (v1 v3 : Int32), ¬ v1 ≤ v3 → Walker_goOn_B16 (n + 1) 65 v1 (-1) v3 σ = Walker_goOn_B16 n 65 v1 a (v3 + 1) σ') ∧ Mo_stride 67 τ = some (a, τ') ∧ WS m T pl σ' τ' ∧ FX 1 τ τ' ∧ (a = -1 → σ' 58 2 = σ 58 2 + 1) ∧ (a = -1 ∨ ¬ a < 0) := by
    rintro r1 r2 ⟨a, σ2, τ2, e1, e2, k⟩ h1 h2
    refine ⟨a, σ2, τ2, fun n v1 v3 hv => ?_, by rw [h2, e2], k⟩
    rw [h1 n v1 v3 hv, e1, cl_of]
  obtain ⟨_, hp, he⟩ := id S
  rcases hp with hv | ⟨q, hq, hp, hl⟩
  · -- a SERVICE
    have h0 : ¬ (0 : Int32) ≤ σ 65 3 := by rcases hv with k | k | k | k <;> rw [k] <;> decide
    have hs : isS (((-1) - σ 65 3) * 16) := by rcases hv with k | k | k | k <;> rw [k] <;> decide
    refine mk (w_serve S hs) (fun n v1 v3 hv => ?_) ?_
    · rw [Walker_goOn_B16, if_neg hv, if_neg (by decide), if_neg h0]; rfl
    · unfold Mo_stride
      rw [← he, if_neg h0, show (16 : Int32) * ((-1) - σ 65 3) = ((-1) - σ 65 3) * 16 from Int32.mul_comm _ _]
      cases Mo_atService 67 (((-1) - σ 65 3) * 16) τ <;> rfl
  · have h0 : (0 : Int32) ≤ nI q := lf_le 0 0 q rfl (by omega) (by omega)
    have m62 : τ 67 62 = nI q := by rw [← he]; exact hp
    by_cases hqm : q < m
    · have nhas : ∀ σ : St, σ 33 4 = nI m → Program_hasItem 33 (nI q) σ = some (1, σ) := fun σ c1 => by
        unfold Program_hasItem
        rw [if_neg (nI_pos (by omega)), c1, if_neg (fun x => absurd ((nI_le' (by omega) (by omega)).mp x) (by omega)), if_neg (lf_nle 120 120 q rfl (by omega) (by decide))]
      have ms : ∀ K : Int32 → Option (Int32 × St), ld τ 71 240 (nI (120 + q)) K = K (σ 34 q) := fun K => by rw [ld_nI (by omega) (by decide), prs_s P q hqm]
      by_cases h9 : σ 34 q = 9
      · refine mk (w_plain S hqm h9 hp) (fun n v1 v3 hv => ?_) ?_
        · rw [Walker_goOn_B16, if_neg hv, if_neg (by decide), cc_65_0, cc_33_0, hp, if_pos h0, nhas σ c1, cl_of, if_pos (by decide), hp, ld_nI (by omega) (by decide), h9, if_neg (by decide)]; rfl
        · unfold Mo_stride
          rw [m62, if_pos h0, c2, if_pos (fun x => absurd ((nI_inj (by omega) (by omega)).mp x) (by omega)), nm_of, show (120 : Int32) + nI q = nI (120 + q) from nI_add 120 q, cc_67_11, ms, h9, if_neg (by decide)]
          cases Mo_plainStride 67 (nI (120 + q)) τ <;> rfl
      · have ec : ∀ (n : Nat) (v1 v3 : Int32), ¬ v1 ≤ v3 → Walker_goOn_B16 (n + 1) 65 v1 (-1) v3 σ = cl (Walker_stepFlow 65 (σ 34 q) (σ 35 q) (σ 36 q) σ) fun x s => Walker_goOn_B16 n 65 v1 x (v3 + 1) s := by
          intro n v1 v3 hv
          rw [Walker_goOn_B16, if_neg hv, if_neg (by decide), cc_65_0, cc_33_0, cc_33_1, cc_33_2, hp, if_pos h0, nhas σ c1, cl_of, if_pos (by decide), hp, ld_nI (by omega) (by decide), if_pos h9, ld_nI (by omega) (by decide), ld_nI (by omega) (by decide), ld_nI (by omega) (by decide)]; rfl
        have lx : ∀ K : Int32 → Option (Int32 × St), ld τ 78 240 (nI (120 + q)) K = K (nI (pl q)) := fun K => by rw [ld_nI (by omega) (by decide), (plq q hqm).2.1]
        have em : ∀ {r : Option (Int32 × St)}, (if σ 34 q = 1 then ld τ 74 240 (nI (120 + q)) fun x7 => ld τ 80 80 (40 + x7) fun x8 => cl (Mo_passed 67 x8 τ) fun x10 σ9 => Mo_stride_B448 67 x10 σ9 else if σ 34 q = 2 then ld τ 75 240 (nI (120 + q)) fun x11 => cl (Mo_namesUnknown 67 x11 τ) fun x13 σ12 => if x13 = 0 then ld σ12 75 240 (nI (120 + q)) fun x14 => cl (Mo_holds 67 x14 σ12) fun x16 σ15 => if x16 = 0 then Mo_stride_B448 67 (nI (pst (σ 34) m 120 (q + 1))) σ15 else ld σ15 74 240 (nI (120 + q)) fun x17 => ld σ15 80 80 (40 + x17) fun x18 => cl (Mo_passed 67 x18 σ15) fun x20 σ19 => Mo_stride_B448 67 x20 σ19 else some (7, σ12) else if σ 34 q = 3 then Mo_stride_B213 67 (nI (120 + q)) (σ 34 q) (nI (256 + pl q + 5)) τ else if σ 34 q = 4 then Mo_stride_B213 67 (nI (120 + q)) (σ 34 q) (nI (256 + pl q + 5)) τ else if σ 34 q = 5 then Mo_stride_B272 67 (nI (120 + q)) (σ 34 q) (nI (256 + pl q + 5)) τ else if σ 34 q = 6 then Mo_stride_B272 67 (nI (120 + q)) (σ 34 q) (nI (256 + pl q + 5)) τ else if σ 34 q = 7 then (cl (Mo_reg 67 4 τ) fun x22 σ21 => cl (Mo_isThere x22 σ21) fun x24 σ23 => if ¬ x24 = 0 then cl (Mo_reg 67 4 σ23) fun x26 σ25 => cl (Mo_load 67 x26 σ25) fun x28 σ27 => cl (Mo_leads 67 x28 σ27) fun x30 σ29 => if ¬ x30 = (-100) then cl (Mo_reg 67 4 σ29) fun x32 σ31 => cv (Mo_setReg 67 4 (x32 + 4) σ31) fun σ33 => sa σ33 88 16 9 0 fun σ34 => nm (s2 σ34 67 40 1) fun σ35 => cv (Mo_forgetFlags 67 σ35) fun σ36 => Mo_stride_B448 67 x30 σ36 else some (9, σ29) else some (3, σ23)) else ld τ 75 240 (nI (120 + q)) fun x37 => ld τ 74 240 (nI (120 + q)) fun x38 => ld τ 79 80 (40 + x38) fun x39 => cv (Mo_setReg 67 x37 (256 + x39) τ) fun σ40 => Mo_stride_B448 67 (nI (pst (σ 34) m 120 (q + 1))) σ40) = r → Mo_stride 67 τ = r := by
          intro r hr
          rw [← hr]
          unfold Mo_stride
          rw [m62, if_pos h0, c2, if_pos (fun x => absurd ((nI_inj (by omega) (by omega)).mp x) (by omega)), nm_of, show (120 : Int32) + nI q = nI (120 + q) from nI_add 120 q, cc_67_11, ms, if_pos h9, nI_1, m_pass P (by omega), cl_of, cc_67_18, lx, nm_of, show ((256 : Int32) + nI (pl q)) + 5 = nI (256 + pl q + 5) by rw [show (256 : Int32) = nI 256 from rfl, nI_add, show (5 : Int32) = nI 5 from rfl, nI_add], cc_67_14, cc_67_15, cc_67_19, cc_67_20, cc_67_31]
        have n0 := hl hqm
        have hs : σ 34 q = 1 ∨ σ 34 q = 2 ∨ σ 34 q = 3 ∨ σ 34 q = 4 ∨ σ 34 q = 5 ∨ σ 34 q = 6 ∨ σ 34 q = 7 ∨ σ 34 q = 8 := by
          rcases (it q hqm).2 with ⟨e, _⟩ | ⟨_, f, _⟩
          · exact absurd e h9
          · rcases f with ⟨y, _⟩ | ⟨y | y, _⟩ | ⟨y, _⟩ | ⟨y, _⟩ | ⟨y | y, _⟩ | y | ⟨y, _⟩
            · exact absurd y n0
            all_goals simp [y]
        rcases hs with h | h | h | h | h | h | h | h
        · exact mk (w_jump S hqm h hp) ec (em (by rw [if_pos h]))
        · exact mk (w_branch S hqm h hp) ec (em (by rw [if_neg (show ¬ σ 34 q = 1 by rw [h]; decide), if_pos h]))
        · exact mk (w_call S hqm (Or.inl h) hp) ec (em (by rw [if_neg (show ¬ σ 34 q = 1 by rw [h]; decide), if_neg (show ¬ σ 34 q = 2 by rw [h]; decide), if_pos h]))
        · exact mk (w_call S hqm (Or.inr h) hp) ec (em (by rw [if_neg (show ¬ σ 34 q = 1 by rw [h]; decide), if_neg (show ¬ σ 34 q = 2 by rw [h]; decide), if_neg (show ¬ σ 34 q = 3 by rw [h]; decide), if_pos h]))
        · exact mk (w_reg S hqm (Or.inl h) hp) ec (em (by rw [if_neg (show ¬ σ 34 q = 1 by rw [h]; decide), if_neg (show ¬ σ 34 q = 2 by rw [h]; decide), if_neg (show ¬ σ 34 q = 3 by rw [h]; decide), if_neg (show ¬ σ 34 q = 4 by rw [h]; decide), if_pos h]))
        · exact mk (w_reg S hqm (Or.inr h) hp) ec (em (by rw [if_neg (show ¬ σ 34 q = 1 by rw [h]; decide), if_neg (show ¬ σ 34 q = 2 by rw [h]; decide), if_neg (show ¬ σ 34 q = 3 by rw [h]; decide), if_neg (show ¬ σ 34 q = 4 by rw [h]; decide), if_neg (show ¬ σ 34 q = 5 by rw [h]; decide), if_pos h]))
        · exact mk (w_back S h) ec (em (by rw [if_neg (show ¬ σ 34 q = 1 by rw [h]; decide), if_neg (show ¬ σ 34 q = 2 by rw [h]; decide), if_neg (show ¬ σ 34 q = 3 by rw [h]; decide), if_neg (show ¬ σ 34 q = 4 by rw [h]; decide), if_neg (show ¬ σ 34 q = 5 by rw [h]; decide), if_neg (show ¬ σ 34 q = 6 by rw [h]; decide), if_pos h]))
        · exact mk (w_adr S hqm h hp) ec (em (by rw [if_neg (show ¬ σ 34 q = 1 by rw [h]; decide), if_neg (show ¬ σ 34 q = 2 by rw [h]; decide), if_neg (show ¬ σ 34 q = 3 by rw [h]; decide), if_neg (show ¬ σ 34 q = 4 by rw [h]; decide), if_neg (show ¬ σ 34 q = 5 by rw [h]; decide), if_neg (show ¬ σ 34 q = 6 by rw [h]; decide), if_neg (show ¬ σ 34 q = 7 by rw [h]; decide)]))
    · -- behind all
      have eq : q = m := by omega
      refine mk (sw_still S (a := 1) (by decide) (by decide)) (fun n v1 v3 hv => ?_) ?_
      · rw [Walker_goOn_B16, if_neg hv, if_neg (by decide), cc_65_0, hp, if_pos h0]
        unfold Program_hasItem Walker_standStill
        rw [if_neg (nI_pos (by omega)), c1, if_pos ((nI_le' (by omega) (by omega)).mpr (by omega)), cl_of, if_neg (by decide), cc_65_1, nm_of, cl_of]; rfl
      · unfold Mo_stride
        rw [m62, if_pos h0, c2, if_neg (not_not_intro (by rw [eq])), cc_67_37, ld_L 1 1 rfl (by decide) (by decide), sa_L 1 1 rfl (by decide) (by decide)]
/-- where a WALK ends -/
theorem w_end (S : WS m T pl σ τ) {a : Int32} : ∃ A, Program_addressOf 33 (σ 65 3) σ = some (A, σ) ∧ (∀ τ1 : St, τ1 67 = τ 67 → τ1 78 = τ 78 → (if 0 ≤ (τ1 67 62) then if (τ1 67 9) ≤ (τ1 67 62) then sa τ1 93 2 1 (256 + (τ1 67 55)) fun s => some (a, s) else ld τ1 78 240 (120 + (τ1 67 62)) fun x3 => sa τ1 93 2 1 (256 + x3) fun s => some (a, s) else sa τ1 93 2 1 (16 * ((-1) - (τ1 67 62))) fun s => some (a, s)) = some (a, s2 τ1 93 1 A)) := by
  have P := S.1.2.2.1
  obtain ⟨hm, c1, c2, c3, c4, c5, it, plq, lay⟩ := id P
  obtain ⟨_, hp, he⟩ := id S
  have sx : ∀ (τ1 : St) (v : Int32), (sa τ1 93 2 1 v fun s => some (a, s)) = some (a, s2 τ1 93 1 v) := fun τ1 v => by rw [sa_L 1 1 rfl (by decide) (by decide)]
  rcases hp with hv | ⟨q, hq, hp, hl⟩
  · have h0 : ¬ (0 : Int32) ≤ σ 65 3 := by rcases hv with k | k | k | k <;> rw [k] <;> decide
    refine ⟨((-1) - σ 65 3) * 16, ?_, fun τ1 t1 t2 => ?_⟩
    · unfold Program_addressOf; rw [if_neg h0]
    · rw [t1, ← he, if_neg h0, sx, show (16 : Int32) * ((-1) - σ 65 3) = ((-1) - σ 65 3) * 16 from Int32.mul_comm _ _]
  · have h0 : (0 : Int32) ≤ nI q := lf_le 0 0 q rfl (by omega) (by omega)
    have m62 : τ 67 62 = nI q := by rw [← he]; exact hp
    by_cases hqm : q < m
    · refine ⟨nI (256 + pl q), by rw [hp]; exact c_addrOf P hqm, fun τ1 t1 t2 => ?_⟩
      rw [t1, m62, c2, if_pos h0, if_neg (fun x => absurd ((nI_le' (by omega) (by omega)).mp x) (by omega)), show (120 : Int32) + nI q = nI (120 + q) from nI_add 120 q, ld_nI (by omega) (by decide), t2, (plq q hqm).2.1, sx, show (256 : Int32) + nI (pl q) = nI (256 + pl q) from nI_add 256 _]
    · refine ⟨256 + nI T, ?_, fun τ1 t1 t2 => ?_⟩
      · unfold Program_addressOf Program_hasItem
        rw [hp, if_pos h0, if_neg (nI_pos (by omega)), c1, if_pos ((nI_le' (by omega) (by omega)).mpr (by omega)), cl_of, if_pos rfl, c4]
      · rw [t1, m62, c2, if_pos h0, if_pos ((nI_le' (by omega) (by omega)).mpr (by omega)), sx, c5]
/-- a WALK to its end -/
theorem wk_loop (fu : Nat) (hfu : fu ≤ 5000) : ∀ (k t N N' : Nat) (σ τ : St), fu = t + k → k < N → k + 2 < N' → WS m T pl σ τ → σ 58 2 = nI t →
    ∃ a σ' τ', Walker_goOn_B16 N 65 (nI fu) (-1) (nI t) σ = some (a, σ') ∧ Mo_walk_B54 N' 67 (nI fu) (-1) τ = some (a, τ') ∧ WB m T pl σ' τ' ∧ FX 1 τ τ' ∧ σ' 58 3 = a ∧ τ' 95 1 = a ∧ σ' 58 1 = τ' 93 1 := by
  have stop : ∀ (N N' : Nat) (a a' : Int32) (t' : Int32) (σ τ : St), WS m T pl σ τ → (¬ a = -1 ∨ nI fu ≤ t') → a' = (if a = -1 then 0 else a) → ¬ a' < 0 → ∃ σ' τ', Walker_goOn_B16 (N + 1) 65 (nI fu) a t' σ = some (a', σ') ∧ Mo_walk_B54 (N' + 1) 67 (nI fu) a' τ = some (a', τ') ∧ WB m T pl σ' τ' ∧ FX 1 τ τ' ∧ σ' 58 3 = a' ∧ τ' 95 1 = a' ∧ σ' 58 1 = τ' 93 1 := by
    intro N N' a a' t' σ τ S ha ea hna
    obtain ⟨A, e1, e2⟩ := w_end S (a := a')
    have eB : Walker_goOn_B145 65 a σ = some (a', s2 (s2 σ 58 1 A) 58 3 a') := by
      unfold Walker_goOn_B145
      rw [cc_65_0, cc_65_1, e1, cl_of, nm_of]
      by_cases q : a = -1
      · rw [if_pos q] at ea
        rw [if_neg (not_not_intro q), nm_of, s2_row, upd_s, ea]
      · rw [if_neg q] at ea
        rw [if_pos q, nm_of, s2_row, upd_s, ea]
    have ec : Walker_goOn_B16 (N + 1) 65 (nI fu) a t' σ = some (a', s2 (s2 σ 58 1 A) 58 3 a') := by
      rw [Walker_goOn_B16, eB]
      by_cases q : nI fu ≤ t'
      · rw [if_pos q]
      · rw [if_neg q, if_pos (ha.resolve_right q)]
    have em : Mo_walk_B54 (N' + 1) 67 (nI fu) a' τ = some (a', s2 (s2 τ 95 1 a') 93 1 A) := by
      rw [Mo_walk_B54, if_pos (by rw [le_nlt]; exact hna), cc_67_38, sa_L 1 1 rfl (by decide) (by decide), cc_67_36, cc_67_18]
      exact e2 _ (s2_ne (by decide)) (s2_ne (by decide))
    have X : FX 1 τ (s2 (s2 τ 95 1 a') 93 1 A) := fx_tr (fx_s (by simp)) (fx_s (by simp))
    obtain ⟨w1, w2, w3, w4, w5, w6⟩ := S.1
    refine ⟨_, _, ec, em, ⟨?_, ?_, ?_, ?_, ?_, ?_⟩, X, ?_, ?_, ?_⟩
    · refine vr_t (vr_c w1 ?_ ?_ ?_ ?_) ?_ ?_ ?_ ?_ ?_
      all_goals simp only [s2_ne, s2_at, up_ne, up_at, ne_eq, not_false_eq_true, not_true_eq_false, if_true, if_false, Nat.reduceEqDiff, Nat.reduceLT, true_or, or_true, reduceIte]
    · unfold IOr at w2 ⊢
      simp only [s2_ne, s2_at, up_ne, up_at, ne_eq, not_false_eq_true, not_true_eq_false, if_true, if_false, Nat.reduceEqDiff, Nat.reduceLT, true_or, or_true, reduceIte]
      exact w2
    · exact prs_c w3 (fun c h1 h2 => by rw [s2_ne (by omega), s2_ne (by omega)]) X
    · simp only [s2_ne, s2_at, up_ne, up_at, ne_eq, not_false_eq_true, not_true_eq_false, if_true, if_false, Nat.reduceEqDiff, Nat.reduceLT, true_or, or_true, reduceIte]; exact w4
    · simp only [s2_ne, s2_at, up_ne, up_at, ne_eq, not_false_eq_true, not_true_eq_false, if_true, if_false, Nat.reduceEqDiff, Nat.reduceLT, true_or, or_true, reduceIte]; exact w5
    · simp only [s2_ne, s2_at, up_ne, up_at, ne_eq, not_false_eq_true, not_true_eq_false, if_true, if_false, Nat.reduceEqDiff, Nat.reduceLT, true_or, or_true, reduceIte]; exact w6
    · simp only [s2_ne, s2_at, up_ne, up_at, ne_eq, not_false_eq_true, not_true_eq_false, if_true, if_false, Nat.reduceEqDiff, Nat.reduceLT, true_or, or_true, reduceIte]
    · simp only [s2_ne, s2_at, up_ne, up_at, ne_eq, not_false_eq_true, not_true_eq_false, if_true, if_false, Nat.reduceEqDiff, Nat.reduceLT, true_or, or_true, reduceIte]
    · simp only [s2_ne, s2_at, up_ne, up_at, ne_eq, not_false_eq_true, not_true_eq_false, if_true, if_false, Nat.reduceEqDiff, Nat.reduceLT, true_or, or_true, reduceIte]
  intro k
  induction k with
  | zero =>
    intro t N N' σ τ h1 h2 h3 S hst
    obtain ⟨N, rfl⟩ : ∃ m, N = m + 1 := ⟨N - 1, by omega⟩
    obtain ⟨N', rfl⟩ : ∃ m, N' = m + 1 + 1 := ⟨N' - 2, by omega⟩
    have e94 : τ 94 1 = nI t := by rw [← S.1.2.2.2.1]; exact hst
    obtain ⟨σ1, τ1, e1, e2, e3⟩ := stop N N' (-1) 0 (nI t) σ τ S (Or.inr ((nI_le' (by omega) (by omega)).mpr (by omega))) rfl (by decide)
    refine ⟨0, σ1, τ1, e1, ?_, e3⟩
    rw [Mo_walk_B54, if_neg (by decide), cc_67_37, ld_L 1 1 rfl (by decide) (by decide), e94, if_neg (not_not_intro (by rw [h1]; rfl))]
    exact e2
  | succ k ih =>
    intro t N N' σ τ h1 h2 h3 S hst
    obtain ⟨N, rfl⟩ : ∃ m, N = m + 1 + 1 := ⟨N - 2, by omega⟩
    obtain ⟨N', rfl⟩ : ∃ m, N' = m + 1 + 1 := ⟨N' - 2, by omega⟩
    have e94 : τ 94 1 = nI t := by rw [← S.1.2.2.2.1]; exact hst
    obtain ⟨a, σ1, τ1, e1, e2, S1, X1, g1, g2⟩ := w_any S
    have ec := e1 (N + 1) (nI fu) (nI t) (fun q => absurd ((nI_le' (by omega) (by omega)).mp q) (by omega))
    rw [nI_1] at ec
    have em : Mo_walk_B54 (N' + 1 + 1) 67 (nI fu) (-1) τ = Mo_walk_B54 (N' + 1) 67 (nI fu) a τ1 := by
      rw [Mo_walk_B54, if_neg (by decide), cc_67_37, ld_L 1 1 rfl (by decide) (by decide), e94, if_pos (show ¬ nI t = nI fu from fun q => absurd ((nI_inj (by omega) (by omega)).mp q) (by omega)), e2, cl_of]
    rw [ec, em]
    by_cases ha : a = -1
    · subst ha
      obtain ⟨a2, σ2, τ2, z1, z2, z3, z4, z5⟩ := ih (t + 1) (N + 1) (N' + 1) σ1 τ1 (by omega) (by omega) (by omega) S1 (by rw [g1 rfl, hst, nI_1])
      exact ⟨a2, σ2, τ2, z1, z2, z3, fx_tr X1 z4, z5⟩
    · have hna := g2.resolve_left ha
      obtain ⟨σ2, τ2, z1, z2, z3, z4, z5⟩ := stop N N' a a (nI (t + 1)) σ1 τ1 S1 (Or.inl ha) (by rw [if_neg ha]) hna
      exact ⟨a, σ2, τ2, z1, z2, z3, fx_tr X1 z4, z5⟩
end
