section
variable {m T : Nat} {pl : Nat → Nat} {σ σ' τ τ' : St}
/-- one step of a WALK on both sides -/
def StW (m T : Nat) (pl : Nat → Nat) (σ τ : St) (r1 r2 : Option (Int32 × St)) : Prop := ∃ a σ' τ', r1 = some (a, σ') ∧ r2 = some (a, τ') ∧ WS m T pl σ' τ' ∧ FX 1 τ τ' ∧ (a = -1 → σ' 58 2 = σ 58 2 + 1) ∧ (a = -1 ∨ ¬ a < 0)
theorem sw_go {r1 r2 : Option (Int32 × St)} (h : GT1 m T pl σ' τ' r1 r2) (X : FX 1 τ τ') (hs : σ' 58 2 = σ 58 2) : StW m T pl σ τ r1 r2 := by
  obtain ⟨σ2, τ2, e1, e2, S, X2, k⟩ := h
  exact ⟨-1, σ2, τ2, e1, e2, S, fx_tr X X2, fun _ => by rw [k, hs], Or.inl rfl⟩
theorem sw_st (S : WS m T pl σ τ) {a : Int32} (h1 : ¬ a = -1) (h2 : ¬ a < 0) : StW m T pl σ τ (some (a, σ)) (some (a, τ)) := ⟨a, σ, τ, rfl, rfl, S, fx_rf, fun h => absurd h h1, Or.inr h2⟩
/-- a step that stays where it is -/
theorem sw_still (S : WS m T pl σ τ) {a : Int32} (h1 : ¬ a = -1) (h2 : ¬ a < 0) : StW m T pl σ τ (some (a, s2 σ 58 2 (σ 58 2 + 1))) (some (a, s2 τ 94 1 (τ 94 1 + 1))) := by
  obtain ⟨W, p1, p2⟩ := S
  refine ⟨a, _, _, rfl, rfl, ⟨wb_n W, ?_, ?_⟩, fx_s (by simp), fun h => absurd h h1, Or.inr h2⟩
  · simp only [s2_ne, s2_at, up_ne, up_at, ne_eq, not_false_eq_true, not_true_eq_false, if_true, if_false, Nat.reduceEqDiff, Nat.reduceLT, true_or, or_true, reduceIte]; exact p1
  · simp only [s2_ne, s2_at, up_ne, up_at, ne_eq, not_false_eq_true, not_true_eq_false, if_true, if_false, Nat.reduceEqDiff, Nat.reduceLT, true_or, or_true, reduceIte]; exact p2
theorem c_addrOf (P : PrS m T pl σ τ) {q : Nat} (hq : q < m) : Program_addressOf 33 (nI q) σ = some (nI (256 + pl q), σ) := by
  obtain ⟨hm, c1, c2, c3, c4, c5, it, plq, lay⟩ := P
  unfold Program_addressOf Program_hasItem
  rw [if_pos (lf_le 0 0 q rfl (by omega) (by omega)), if_neg (nI_pos (by omega)), c1, if_neg (fun x => absurd ((nI_le' (by omega) (by omega)).mp x) (by omega)), if_neg (lf_nle 120 120 q rfl (by omega) (by decide)), cl_of, if_neg (by decide), cc_33_3, ld_nI (by omega) (by decide), (plq q hq).1, show (256 : Int32) + nI (pl q) = nI (256 + pl q) from nI_add 256 _]
theorem c_label (P : PrS m T pl σ τ) {q : Nat} (hq : q < m) (hs : σ 34 q = 1 ∨ σ 34 q = 2 ∨ σ 34 q = 3 ∨ σ 34 q = 8) : ∃ k, k < m ∧ Program_labelItem 33 (σ 35 q) σ = some (nI k, σ) ∧ (∀ f : Int32 → Option (Int32 × St), ld τ 74 240 (nI (120 + q)) f = f (σ 35 q)) ∧ (∀ f : Int32 → Option (Int32 × St), ld τ 80 80 (40 + σ 35 q) f = f (nI k)) ∧ (∀ f : Int32 → Option (Int32 × St), ld τ 79 80 (40 + σ 35 q) f = f (nI (pl k))) := by
  obtain ⟨hm, c1, c2, c3, c4, c5, it, plq, lay⟩ := P
  obtain ⟨l1, l2, l3⟩ := lay
  have it' := it q hq
  have hs' : ¬ σ 34 q = 9 ∧ ¬ σ 34 q = 7 := by rcases hs with e | e | e | e <;> rw [e] <;> decide
  have hlb : isLb (σ 35 q) ∧ τ 74 (120 + q) = σ 35 q := by
    rcases it'.2 with ⟨e, _⟩ | ⟨_, f, e, _⟩
    · exact absurd e hs'.1
    · rw [if_neg hs'.2] at e
      refine ⟨?_, e⟩
      rcases f with ⟨_, y, _⟩ | ⟨_, y⟩ | ⟨_, y, _⟩ | ⟨y, _⟩ | ⟨y, _⟩ | y | ⟨_, y, _⟩
      · exact y
      · exact y
      · exact y
      · exfalso; rcases hs with z | z | z | z <;> (rw [z] at y; exact absurd y (by decide))
      · exfalso; rcases hs with z | z | z | z <;> (rw [z] at y; rcases y with y | y <;> exact absurd y (by decide))
      · exact absurd y hs'.2
      · exact y
  obtain ⟨hl, ht⟩ := hlb
  obtain ⟨l, hl1, hl2⟩ := to_nI (m := 40) hl.1 40 rfl (by decide) hl.2
  have hn := l2 q hq hs
  rw [hl2, nI_clamp (by omega)] at hn
  obtain ⟨y1, y2⟩ := l1 l hl1
  obtain ⟨k, hk, y3, y4⟩ := y2.resolve_left hn
  refine ⟨k, hk, ?_, fun f => by rw [ld_nI (by omega) (by decide), ht], fun f => ?_, fun f => ?_⟩
  · unfold Program_labelItem
    rw [hl_eq, if_pos hl, cl_of, if_neg (by decide), cc_33_12, hl2, ld_nI hl1 (by decide), y3]
  · rw [hl2, show (40 : Int32) + nI l = nI (40 + l) from nI_add 40 _, ld_nI (by omega) (by decide), y1, y3]
  · rw [hl2, show (40 : Int32) + nI l = nI (40 + l) from nI_add 40 _, ld_nI (by omega) (by decide), y4]
theorem led_k {s : Nat → Int32} {k : Nat} (hk : k ≤ m) : Led m s (nI k) (nI (pst s m 120 k)) := Or.inr (Or.inr ⟨k, hk, rfl, rfl⟩)
theorem m_pass (P : PrS m T pl σ τ) {k : Nat} (hk : k ≤ m) : Mo_passed 67 (nI k) τ = some (nI (pst (σ 34) m 120 k), τ) := m_passL P.2.2.1 P.1 (prs_s P) hk
/-- unknown FLAGS on both sides -/
theorem v_ff (V : Vr 58 59 60 61 1 σ τ) : ∃ σ' τ', Flags_setAll 59 2 σ = some σ' ∧ Mo_forgetFlags 67 τ = some τ' ∧ Vr 58 59 60 61 1 σ' τ' ∧ FC 58 59 60 61 σ σ' ∧ FR 1 τ τ' ∧ σ' 58 = σ 58 := by
  obtain ⟨v1, v2, v3, v4, v5, v6, v7, v8, v9⟩ := id V
  have em : Mo_forgetFlags 67 τ = some (s2 (s2 (s2 (s2 τ 89 4 2) 89 5 2) 89 6 2) 89 7 2) := by
    unfold Mo_forgetFlags
    rw [show FU = 19995 + 1 + 1 + 1 + 1 + 1 from rfl]
    rw [Mo_forgetFlags_B2, if_neg (by decide), cc_67_32, sa_L 4 4 rfl (by decide) (by decide), nm_of]
    rw [Mo_forgetFlags_B2, if_neg (by decide), cc_67_32, sa_L (4 + 1) 5 rfl (by decide) (by decide), nm_of]
    rw [Mo_forgetFlags_B2, if_neg (by decide), cc_67_32, sa_L (4 + 1 + 1) 6 rfl (by decide) (by decide), nm_of]
    rw [Mo_forgetFlags_B2, if_neg (by decide), cc_67_32, sa_L (4 + 1 + 1 + 1) 7 rfl (by decide) (by decide), nm_of]
    rw [Mo_forgetFlags_B2, if_pos (by decide)]
  have ec : Flags_setAll 59 2 σ = some (s2 (s2 (s2 (s2 σ 59 0 2) 59 1 2) 59 2 2) 59 3 2) := by
    unfold Flags_setAll; simp only [nm_of]
  refine ⟨_, _, ec, em, ⟨?_, ?_, ?_, ?_, ?_, ?_, ?_, ?_, v9⟩, ⟨?_, ?_⟩, ⟨?_, ?_, ?_, ?_, ?_, ?_⟩, ?_⟩
  · intro k hk; simp only [s2_ne, s2_at, up_ne, up_at, ne_eq, not_false_eq_true, not_true_eq_false, if_true, if_false, Nat.reduceEqDiff, Nat.reduceLT, true_or, or_true, reduceIte]; exact v1 k hk
  · intro k hk
    obtain q | q | q | q : k = 0 ∨ k = 1 ∨ k = 2 ∨ k = 3 := by omega
    all_goals (subst q; simp only [s2_ne, s2_at, up_ne, up_at, ne_eq, not_false_eq_true, not_true_eq_false, if_true, if_false, Nat.reduceEqDiff, Nat.reduceLT, true_or, or_true, reduceIte])
    all_goals rfl
  · intro k hk; simp only [s2_ne, s2_at, up_ne, up_at, ne_eq, not_false_eq_true, not_true_eq_false, if_true, if_false, Nat.reduceEqDiff, Nat.reduceLT, true_or, or_true, reduceIte]; exact v3 k hk
  · intro k hk; simp only [s2_ne, s2_at, up_ne, up_at, ne_eq, not_false_eq_true, not_true_eq_false, if_true, if_false, Nat.reduceEqDiff, Nat.reduceLT, true_or, or_true, reduceIte]; exact v4 k hk
  · simp only [s2_ne, s2_at, up_ne, up_at, ne_eq, not_false_eq_true, not_true_eq_false, if_true, if_false, Nat.reduceEqDiff, Nat.reduceLT, true_or, or_true, reduceIte]; exact v5
  · intro q; simp only [s2_ne, s2_at, up_ne, up_at, ne_eq, not_false_eq_true, not_true_eq_false, if_true, if_false, Nat.reduceEqDiff, Nat.reduceLT, true_or, or_true, reduceIte]; exact v6 q
  · intro q; simp only [s2_ne, s2_at, up_ne, up_at, ne_eq, not_false_eq_true, not_true_eq_false, if_true, if_false, Nat.reduceEqDiff, Nat.reduceLT, true_or, or_true, reduceIte]; exact v7 q
  · simp only [s2_ne, s2_at, up_ne, up_at, ne_eq, not_false_eq_true, not_true_eq_false, if_true, if_false, Nat.reduceEqDiff, Nat.reduceLT, true_or, or_true, reduceIte]; exact v8
  · intro c h1 h2 h3 h4; rw [s2_ne h2, s2_ne h2, s2_ne h2, s2_ne h2]
  · intro j hj; simp only [s2_ne, s2_at, up_ne, up_at, ne_eq, not_false_eq_true, not_true_eq_false, if_true, if_false, Nat.reduceEqDiff, Nat.reduceLT, true_or, or_true, reduceIte]
  · intro c h1 h2 h3 h4; rw [s2_ne h3, s2_ne h3, s2_ne h3, s2_ne h3]
  · intro j hj; simp only [s2_ne, s2_at, up_ne, up_at, ne_eq, not_false_eq_true, not_true_eq_false, if_true, if_false, Nat.reduceEqDiff, Nat.reduceLT, true_or, or_true, reduceIte]
  · intro j hj; simp only [s2_ne, s2_at, up_ne, up_at, ne_eq, not_false_eq_true, not_true_eq_false, if_true, if_false, Nat.reduceEqDiff, Nat.reduceLT, true_or, or_true, reduceIte]
  · intro j hj; rw [s2_row, upd_ne (by omega), s2_row, upd_ne (by omega), s2_row, upd_ne (by omega), s2_row, upd_ne (by omega)]
  · intro j hj; simp only [s2_ne, s2_at, up_ne, up_at, ne_eq, not_false_eq_true, not_true_eq_false, if_true, if_false, Nat.reduceEqDiff, Nat.reduceLT, true_or, or_true, reduceIte]
  · intro q; simp only [s2_ne, s2_at, up_ne, up_at, ne_eq, not_false_eq_true, not_true_eq_false, if_true, if_false, Nat.reduceEqDiff, Nat.reduceLT, true_or, or_true, reduceIte]
  · simp only [s2_ne, s2_at, up_ne, up_at, ne_eq, not_false_eq_true, not_true_eq_false, if_true, if_false, Nat.reduceEqDiff, Nat.reduceLT, true_or, or_true, reduceIte]
/-- JUMP -/
theorem w_jump (S : WS m T pl σ τ) {q : Nat} (hq : q < m) (h : σ 34 q = 1) (hp : σ 65 3 = nI q) : StW m T pl σ τ (Walker_stepFlow 65 (σ 34 q) (σ 35 q) (σ 36 q) σ) (ld τ 74 240 (nI (120 + q)) fun x7 => ld τ 80 80 (40 + x7) fun x8 => cl (Mo_passed 67 x8 τ) fun x10 σ9 => Mo_stride_B448 67 x10 σ9) := by
  have P := S.1.2.2.1
  obtain ⟨k, hk, e1, e2, e3, _⟩ := c_label P hq (Or.inl h)
  unfold Walker_stepFlow
  rw [if_pos h, cc_65_0, e1, cl_of, e2, e3, m_pass P (by omega), cl_of]
  obtain g := w_go S.1 (led_k (s := σ 34) (k := k) (by omega)) (fun z => absurd (congrArg (fun v : Int32 => v < 0) z) (by rw [show ((-100 : Int32) < 0) = True from by decide]; simp [nI_pos (show k < 2 ^ 31 by have := P.1; omega)]))
  obtain ⟨σ2, τ2, f1, f2, f3⟩ := g
  rw [f1, cl_of]
  exact sw_go ⟨σ2, τ2, rfl, f2, f3⟩ fx_rf rfl
end
