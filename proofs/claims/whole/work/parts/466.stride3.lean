section
variable {m T : Nat} {pl : Nat → Nat} {σ σ' τ τ' : St}
theorem nI_n100 {k : Nat} (h : k < 2 ^ 31) : ¬ nI k = -100 := fun z => nI_pos h (by rw [z]; decide)
/-- what an ITEM of the flow holds, at the reference -/
theorem it_a (P : PrS m T pl σ τ) {q : Nat} (hq : q < m) (h9 : ¬ σ 34 q = 9) (h7 : ¬ σ 34 q = 7) : ∀ f : Int32 → Option (Int32 × St), ld τ 74 240 (nI (120 + q)) f = f (σ 35 q) := by
  obtain ⟨hm, c1, c2, c3, c4, c5, it, plq, lay⟩ := P
  intro f
  rw [ld_nI (by omega) (by decide)]
  rcases (it q hq).2 with ⟨e, _⟩ | ⟨_, _, e, _⟩
  · exact absurd e h9
  · rw [e, if_neg h7]
theorem it_b (P : PrS m T pl σ τ) {q : Nat} (hq : q < m) (h : σ 34 q = 2 ∨ σ 34 q = 8) : ∀ f : Int32 → Option (Int32 × St), ld τ 75 240 (nI (120 + q)) f = f (σ 36 q) := by
  obtain ⟨hm, c1, c2, c3, c4, c5, it, plq, lay⟩ := P
  intro f
  rw [ld_nI (by omega) (by decide)]
  rcases (it q hq).2 with ⟨e, _⟩ | ⟨_, _, _, e⟩
  · exfalso; rcases h with h | h <;> (rw [h] at e; exact absurd e (by decide))
  · rw [e, if_pos (Or.inr h)]
/-- BRANCH -/
theorem w_branch (S : WS m T pl σ τ) {q : Nat} (hq : q < m) (h : σ 34 q = 2) (hp : σ 65 3 = nI q) : StW m T pl σ τ (Walker_stepFlow 65 (σ 34 q) (σ 35 q) (σ 36 q) σ) (ld τ 75 240 (nI (120 + q)) fun x11 => cl (Mo_namesUnknown 67 x11 τ) fun x13 σ12 => if x13 = 0 then ld σ12 75 240 (nI (120 + q)) fun x14 => cl (Mo_holds 67 x14 σ12) fun x16 σ15 => if x16 = 0 then Mo_stride_B448 67 (nI (pst (σ 34) m 120 (q + 1))) σ15 else ld σ15 74 240 (nI (120 + q)) fun x17 => ld σ15 80 80 (40 + x17) fun x18 => cl (Mo_passed 67 x18 σ15) fun x20 σ19 => Mo_stride_B448 67 x20 σ19 else some (7, σ12)) := by
  have P := S.1.2.2.1
  have hm := P.1
  obtain ⟨k, hk, e1, e2, e3, _⟩ := c_label P hq (Or.inr (Or.inl h))
  obtain ⟨b, u1, u2, u3⟩ := v_unk S.1.1 (σ 36 q)
  obtain ⟨b2, n1, n2, n3⟩ := v_holds S.1.1 (σ 36 q)
  unfold Walker_stepFlow
  rw [if_neg (by rw [h]; decide), if_pos h, cc_65_0, cc_65_1, cc_58_0, u1, cl_of, it_b P hq (Or.inl h), u2, cl_of]
  by_cases z : b = 0
  · rw [if_pos z, if_pos z, n1, cl_of, it_b P hq (Or.inl h), n2, cl_of]
    by_cases z2 : b2 = 0
    · rw [if_pos z2, if_pos z2, hp, nI_1]
      obtain ⟨σ2, τ2, f1, f2, f3⟩ := w_go S.1 (led_k (s := σ 34) (k := q + 1) (by omega)) (nI_n100 (by omega))
      rw [f1, cl_of]
      exact sw_go ⟨σ2, τ2, rfl, f2, f3⟩ fx_rf rfl
    · rw [if_neg z2, if_neg z2, e1, cl_of, e2, e3, m_pass P (by omega), cl_of]
      obtain ⟨σ2, τ2, f1, f2, f3⟩ := w_go S.1 (led_k (s := σ 34) (k := k) (by omega)) (nI_n100 (by omega))
      rw [f1, cl_of]
      exact sw_go ⟨σ2, τ2, rfl, f2, f3⟩ fx_rf rfl
  · rw [if_neg z, if_neg z]
    exact sw_st S (by decide) (by decide)
theorem c_behind (P : PrS m T pl σ τ) {q : Nat} (hq : q < m) (hp : σ 65 3 = nI q) : Walker_addressBehind 65 σ = some (nI (256 + pl q + 5), σ) := by
  unfold Walker_addressBehind
  rw [cc_65_0, hp, c_addrOf P hq, cl_of, show nI (256 + pl q) + 5 = nI (256 + pl q + 5) from nI_add _ 5]
/-- CALL, SERVICE -/
theorem w_call (S : WS m T pl σ τ) {q : Nat} (hq : q < m) (h : σ 34 q = 3 ∨ σ 34 q = 4) (hp : σ 65 3 = nI q) : StW m T pl σ τ (Walker_stepFlow 65 (σ 34 q) (σ 35 q) (σ 36 q) σ) (Mo_stride_B213 67 (nI (120 + q)) (σ 34 q) (nI (256 + pl q + 5)) τ) := by
  have P := S.1.2.2.1
  have hm := P.1
  have hM := MDw.1
  have V := S.1.1
  -- where it goes to
  have hv : ∃ v v', (Walker_stepFlow 65 (σ 34 q) (σ 35 q) (σ 36 q) σ = cl (Walker_callTo 65 v σ) fun x s => some (x, s)) ∧ ¬ v = -100 ∧ Led m (σ 34) v v' ∧ ∀ τ1, PrS m T pl σ τ1 → (if ¬ σ 34 q = 3 then ld τ1 74 240 (nI (120 + q)) fun x6 => nm ((-1) - x6) fun x7 => Mo_stride_B448 67 x7 τ1 else ld τ1 74 240 (nI (120 + q)) fun x8 => ld τ1 80 80 (40 + x8) fun x9 => cl (Mo_passed 67 x9 τ1) fun x11 σ10 => Mo_stride_B448 67 x11 σ10) = Mo_stride_B448 67 v' τ1 := by
    unfold Walker_stepFlow
    rcases h with h | h
    · obtain ⟨k, hk, e1, _⟩ := c_label P hq (Or.inr (Or.inr (Or.inl h)))
      refine ⟨nI k, _, ?_, nI_n100 (by omega), led_k (by omega), fun τ1 P1 => ?_⟩
      · rw [if_neg (by rw [h]; decide), if_neg (by rw [h]; decide), if_pos h, cc_65_0, e1, cl_of]
      · obtain ⟨k', hk', e1', e2, e3, _⟩ := c_label P1 hq (Or.inr (Or.inr (Or.inl h)))
        rw [e1] at e1'
        have ek : nI k = nI k' := congrArg Prod.fst (Option.some.inj e1')
        rw [if_neg (not_not_intro h), e2, e3, ← ek, m_pass P1 (by omega), cl_of]
    · have hs : ¬ σ 35 q < 0 ∧ σ 35 q < 4 := by
        rcases (P.2.2.2.2.2.2.1 q hq).2 with ⟨e, _⟩ | ⟨_, f, _⟩
        · rw [h] at e; exact absurd e (by decide)
        · rw [h] at f
          rcases f with ⟨y, _⟩ | ⟨y, _⟩ | ⟨y, _⟩ | ⟨_, y⟩ | ⟨y, _⟩ | y | ⟨y, _⟩
          · exact absurd y (by decide)
          · rcases y with y | y <;> exact absurd y (by decide)
          · exact absurd y (by decide)
          · exact y
          · rcases y with y | y <;> exact absurd y (by decide)
          · exact absurd y (by decide)
          · exact absurd y (by decide)
      obtain ⟨j, hj, ej⟩ := to_nI (m := 4) hs.1 4 rfl (by decide) hs.2
      have hj4 : ∀ j, j < 4 → ((-1) - nI j = (-1 : Int32) ∨ (-1) - nI j = (-2 : Int32) ∨ (-1) - nI j = (-3 : Int32) ∨ (-1) - nI j = (-4 : Int32)) ∧ ¬ (-1) - nI j = (-100 : Int32) := by decide +kernel
      refine ⟨(-1) - σ 35 q, (-1) - σ 35 q, ?_, by rw [ej]; exact (hj4 j hj).2, Or.inr (Or.inl ⟨rfl, by rw [ej]; exact (hj4 j hj).1⟩), fun τ1 P1 => ?_⟩
      · rw [if_neg (by rw [h]; decide), if_neg (by rw [h]; decide), if_neg (by rw [h]; decide), if_pos h]
      · rw [if_pos (by rw [h]; decide), it_a P1 hq (by rw [h]; decide) (by rw [h]; decide), nm_of]
  obtain ⟨v, v', e1, n1, L, e2⟩ := hv
  rw [e1]
  unfold Walker_callTo Mo_stride_B213
  rw [cc_65_1, c_canPush hM, cl_of, m_reg V r4, cl_of, rgv_4, mt_eq, cl_of, c_behind P hq hp, cl_of, cc_67_14, cc_67_20]
  by_cases c : inW (σ 60 4 - 4)
  · rw [if_pos c, if_pos (by decide), if_pos (by decide)]
    obtain ⟨σ1, τ1, p1, p2, V1, C1, R1, g1, g2, _⟩ := v_push hM V c (nI (256 + pl q + 5))
    have W1 := wb_c S.1 V1 C1 R1
    have s34 : σ1 34 = σ 34 := C1.1 34 (by decide) (by decide) (by decide) (by decide)
    rw [p1, cv_of, p2, cv_of, e2 τ1 (prs_c P (fun c h1 h2 => rfl) (fx_fr R1))]
    obtain ⟨σ2, τ2, f1, f2, f3⟩ := w_go W1 (v := v) (v' := v') (by rw [s34]; exact L) n1
    rw [f1, cl_of, cl_of]
    exact sw_go ⟨σ2, τ2, rfl, f2, f3⟩ (fx_fr R1) (by rw [g2])
  · rw [if_neg c, if_neg (by decide), if_neg (by decide), cl_of]
    exact sw_st S (by decide) (by decide)
end
