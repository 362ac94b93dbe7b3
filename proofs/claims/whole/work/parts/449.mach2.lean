section
variable {M F G B w : Nat} {σ σ' τ τ' : St}
theorem vr_c (V : Vr M F G B w σ τ) (h1 : σ' G = σ G) (h2 : σ' F = σ F) (h3 : σ' B = σ B) (h4 : σ' M 5 = σ M 5) : Vr M F G B w σ' τ := by
  unfold Vr at V ⊢; rw [h1, h2, h3, h4]; exact V
theorem vr_t (V : Vr M F G B w σ τ) (h1 : τ' 88 = τ 88) (h2 : τ' 89 = τ 89) (h3 : τ' 90 = τ 90) (h4 : τ' 67 40 = τ 67 40) (h5 : τ' 67 42 = τ 67 42) : Vr M F G B w σ τ' := by
  unfold Vr at V ⊢; rw [h1, h2, h3, h4, h5]; exact V
theorem inW_nI {x : Int32} (h : inW x) : ∃ a, a ≤ 1020 ∧ x = nI a := nI_of2 (n := 1020) rfl h.1 h.2
theorem mt_eq (k : Int32) (σ : St) : Mo_isThere k σ = some (if inW k then 1 else 0, σ) := hw_eq k σ
theorem r4 : inR (4 : Int32) := by decide
theorem rgv_4 : rgv σ G 4 = σ G 4 := by unfold rgv; rw [if_pos r4]; rfl
theorem c_canPush (H : MC M F G B) : Machine_canPush M σ = some (if inW (σ G 4 - 4) then 1 else 0, σ) := by
  unfold Machine_canPush
  rw [H.2.1, ld_L 4 4 rfl (by decide) (by decide), hw_eq, cl_of]
  split
  · rw [zb_1]
  · rw [zb_0]
theorem c_canPop (H : MC M F G B) : Machine_canPop M σ = some (if inW (σ G 4) then 1 else 0, σ) := by
  unfold Machine_canPop
  rw [H.2.1, ld_L 4 4 rfl (by decide) (by decide), hw_eq, cl_of]
  split
  · rw [zb_1]
  · rw [zb_0]
theorem v_push (H : MC M F G B) (V : Vr M F G B w σ τ) (hw : inW (σ G 4 - 4)) (v : Int32) : ∃ σ' τ', Machine_push M v σ = some σ' ∧ Mo_push 67 v τ = some τ' ∧ Vr M F G B w σ' τ' ∧ FC M F G B σ σ' ∧ FR w τ τ' ∧ σ' F = σ F ∧ σ' M = σ M ∧ ∀ k, k ≠ 4 → σ' G k = σ G k := by
  obtain ⟨m1, m2, m3, m4, m5, m6, m7, m8, m9⟩ := id H
  obtain ⟨a, ha, ea⟩ := inW_nI hw
  obtain ⟨σ1, τ1, e1, e2, V1, C1, R1, g1, g2, g3⟩ := v_word H V ha v
  obtain ⟨σ2, τ2, e3, e4, V2, C2, R2, q1, q2, q3, q4⟩ := v_give H V1 (k := 4) (by decide) (nI a)
  have cp : Machine_push M v σ = some (va_up (s2 σ G 4 (nI a)) B (wrw (σ B) a v)) := by
    unfold Machine_push
    rw [m2, ld_L 4 4 rfl (by decide) (by decide), sa_L 4 4 rfl (by decide) (by decide), ld_L 4 4 rfl (by decide) (by decide), s2_row, upd_s, ea, mg_word m3 ha, cv_of, s2_ne m9.symm]
  have sB1 : σ1 B = wrw (σ B) a v := by
    rw [mg_word m3 ha] at e1; cases e1; rw [up_row]
  refine ⟨_, τ2, cp, ?_, vr_c V2 ?_ ?_ ?_ ?_, ⟨?_, ?_⟩, fr_tr R1 R2, ?_, ?_, ?_⟩
  · unfold Mo_push
    rw [m_reg V r4, cl_of, rgv_4, nm_of, ea, e2, cv_of, show (4 : Int32) = nI 4 from rfl, e4, cv_of]
  · rw [up_ne m9, s2_row, q1, g1]
  · rw [up_ne m8, s2_ne m7, q3, g2]
  · rw [up_row, q2, sB1]
  · rw [up_ne m6, s2_ne m5, q4, if_neg (by decide), g3]
  · intro c h1 h2 h3 h4; rw [up_ne h4, s2_ne h3]
  · intro j hj; rw [up_ne m6, s2_ne m5]
  · rw [up_ne m8, s2_ne m7]
  · rw [up_ne m6, s2_ne m5]
  · intro k hk; rw [up_ne m9, s2_row, upd_ne hk]
theorem v_pop (H : MC M F G B) (V : Vr M F G B w σ τ) (hw : inW (σ G 4)) : ∃ v σ' τ', Machine_pop M σ = some (v, σ') ∧ Mo_pop 67 τ = some (v, τ') ∧ Mo_load 67 (σ G 4) τ = some (v, τ) ∧ Machine_wordAt M (σ G 4) σ = some (v, σ) ∧ Mo_setReg 67 4 (σ G 4 + 4) τ = some τ' ∧ Vr M F G B w σ' τ' ∧ FC M F G B σ σ' ∧ FR w τ τ' ∧ σ' F = σ F ∧ σ' M = σ M ∧ σ' B = σ B ∧ ∀ k, k ≠ 4 → σ' G k = σ G k := by
  obtain ⟨m1, m2, m3, m4, m5, m6, m7, m8, m9⟩ := id H
  obtain ⟨a, ha, ea⟩ := inW_nI hw
  obtain ⟨σ2, τ2, e3, e4, V2, C2, R2, q1, q2, q3, q4⟩ := v_give H V (k := 4) (by decide) (nI a + 4)
  have cp : Machine_pop M σ = some (wrd σ B a, s2 σ G 4 (nI a + 4)) := by
    unfold Machine_pop
    rw [m2, ld_L 4 4 rfl (by decide) (by decide), ea, c_word H ha, cl_of, ld_L 4 4 rfl (by decide) (by decide), ea, sa_L 4 4 rfl (by decide) (by decide)]
  refine ⟨wrd σ B a, _, τ2, cp, ?_, by rw [ea]; exact m_word V ha, by rw [ea]; exact c_word H ha, by rw [ea]; exact e4, vr_c V2 ?_ ?_ ?_ ?_, ⟨?_, ?_⟩, R2, ?_, ?_, ?_, ?_⟩
  · unfold Mo_pop
    rw [m_reg V r4, cl_of, rgv_4, ea, m_word V ha, cl_of, m_reg V r4, cl_of, rgv_4, ea, show Mo_setReg 67 4 (nI a + 4) τ = some τ2 from e4, cv_of]
  · rw [s2_row, q1]
  · rw [s2_ne m7, q3]
  · rw [s2_ne m9.symm, q2]
  · rw [s2_ne m5, q4, if_neg (by decide)]
  · intro c h1 h2 h3 h4; rw [s2_ne h3]
  · intro j hj; rw [s2_ne m5]
  · rw [s2_ne m7]
  · rw [s2_ne m5]
  · rw [s2_ne m9.symm]
  · intro k hk; rw [s2_row, upd_ne hk]
/-- the address that X and D tell -/
def adr (σ : St) (G : Nat) (x d : Int32) : Int32 := (rgv σ G (x &&& 15) + shl (rgv σ G ((shr x 4) &&& 15)) ((shr x 8) &&& 3)) + d
theorem c_addr (H : MC M F G B) {f : Nat} : Machine_addressOf M f σ = some (adr σ G (σ f 3) (σ f 4), σ) := by
  unfold Machine_addressOf Instruction_base Instruction_index Instruction_scale adr
  simp only [cl_of, c_reg H]
theorem m_addr (V : Vr M F G B w σ τ) {x d : Int32} (hx : memX x) : Mo_place1 67 x d τ = some (adr σ G x d, τ) := by
  obtain ⟨a1, a2, a3, a4, a5, a6⟩ := hx
  have e3 : (shr x 8) &&& 3 = shr x 8 := by
    obtain ⟨j, hj, e⟩ := to_nI (m := 4) a5 4 rfl (by decide) a6
    rw [e]
    have : ∀ j, j < 4 → nI j &&& 3 = nI j := by decide +kernel
    exact this j hj
  have e0 : shl 0 (shr x 8) = 0 := by
    obtain ⟨j, hj, e⟩ := to_nI (m := 4) a5 4 rfl (by decide) a6
    rw [e]
    have : ∀ j, j < 4 → shl 0 (nI j) = 0 := by decide +kernel
    exact this j hj
  have b28 : ∀ t0, Mo_place1_B28 67 x d ((shr x 4) &&& 15) t0 τ = some ((t0 + shl (rgv σ G ((shr x 4) &&& 15)) (shr x 8)) + d, τ) := by
    intro t0
    unfold Mo_place1_B28
    simp only [le_nlt]
    by_cases c : (shr x 4) &&& 15 < 8
    · rw [if_neg (not_not_intro c), m_reg V ⟨a3, c⟩, cl_of]
    · rw [if_pos c]
      have : rgv σ G ((shr x 4) &&& 15) = 0 := by unfold rgv; rw [if_neg (fun k => c k.2)]
      rw [this, e0]
  unfold Mo_place1 adr
  simp only [nm_of, le_nlt, b28, e3]
  by_cases c : x &&& 15 < 8
  · rw [if_neg (not_not_intro c), m_reg V ⟨a1, c⟩, cl_of, b28]
  · rw [if_pos c]
    have : rgv σ G (x &&& 15) = 0 := by unfold rgv; rw [if_neg (fun k => c k.2)]
    rw [this]
theorem fw_c {op l r c z s o : Int32} (hop : opR op) : (fw op l r c z s o).2.1 = c ∨ (fw op l r c z s o).2.1 = 0 ∨ (fw op l r c z s o).2.1 = 1 := by
  have a1 : ∀ l r m, adC l r m = 0 ∨ adC l r m = 1 := fun l r m => by unfold adC; split; exact Or.inl rfl; exact Or.inr rfl
  have s1 : ∀ l r m, sbC l r m = 0 ∨ sbC l r m = 1 := fun l r m => by unfold sbC; split; exact Or.inl rfl; exact Or.inr rfl
  have o1 : ∀ x, ov x = 0 ∨ ov x = 1 := fun x => by unfold ov; split; exact Or.inl rfl; exact Or.inr rfl
  have f1 : ∀ op l n, (fsh op l n).2.1 = 0 ∨ (fsh op l n).2.1 = 1 := fun op l n => by
    unfold fsh
    by_cases h : op = 14
    · rw [if_pos h]; exact and_1 _
    · rw [if_neg h]
      by_cases h2 : op = 15
      · rw [if_pos h2]; exact and_1 _
      · rw [if_neg h2]; exact and_1 _
  unfold fw
  by_cases c0 : op = 0
  · rw [if_pos c0]; exact Or.inr (a1 l r 0)
  rw [if_neg c0]
  by_cases c2 : op = 2
  · rw [if_pos c2]; exact Or.inr (a1 l r c)
  rw [if_neg c2]
  by_cases c3 : op = 3
  · rw [if_pos c3]; exact Or.inr (s1 l r c)
  rw [if_neg c3]
  by_cases c5 : op = 5 ∨ op = 7
  · rw [if_pos c5]; exact Or.inr (s1 l r 0)
  rw [if_neg c5]
  by_cases c13 : op = 13
  · rw [if_pos c13]; exact Or.inr (s1 0 l 0)
  rw [if_neg c13]
  by_cases c17 : op = 17
  · rw [if_pos c17]; exact Or.inl rfl
  rw [if_neg c17]
  by_cases c18 : op = 18
  · rw [if_pos c18]; exact Or.inl rfl
  rw [if_neg c18]
  by_cases c11 : op = 11
  · rw [if_pos c11]; exact Or.inr (o1 _)
  rw [if_neg c11]
  by_cases c12 : op = 12
  · rw [if_pos c12]; exact Or.inl rfl
  rw [if_neg c12]
  by_cases c14 : op = 14 ∨ op = 15 ∨ op = 16
  · rw [if_pos c14]
    by_cases q : r &&& 31 = 0
    · rw [if_pos q]; exact Or.inl rfl
    · rw [if_neg q]; exact Or.inr (f1 op l _)
  rw [if_neg c14]
  by_cases c1 : op = 1
  · rw [if_pos c1]; exact Or.inr (Or.inl rfl)
  rw [if_neg c1]
  by_cases c6 : op = 6
  · rw [if_pos c6]; exact Or.inr (Or.inl rfl)
  rw [if_neg c6]; exact Or.inr (Or.inl rfl)
theorem v_rec (H : MC M F G B) (V : Vr M F G B w σ τ) {op l r r' : Int32} (hop : opR op) (hr : ¬ (op = 12 ∨ op = 13 ∨ op = 17 ∨ op = 18) → r = r') : ∃ v σ' τ', Flags_reckon F op l r σ = some (v, σ') ∧ Mo_worked 67 op l r' τ = some (v, τ') ∧ Vr M F G B w σ' τ' ∧ FC M F G B σ σ' ∧ FR w τ τ' ∧ σ' G = σ G ∧ σ' B = σ B ∧ σ' M = σ M ∧ (¬ σ F 0 = 2 → ¬ σ' F 0 = 2) := by
  obtain ⟨v1, v2, v3, v4, v5, v6, v7, v8, v9⟩ := id V
  obtain ⟨m1, m2, m3, m4, m5, m6, m7, m8, m9⟩ := id H
  have fr : fw op l r' (σ F 0) (σ F 1) (σ F 2) (σ F 3) = fw op l r (σ F 0) (σ F 1) (σ F 2) (σ F 3) := by
    by_cases c : op = 12 ∨ op = 13 ∨ op = 17 ∨ op = 18
    · rcases c with rfl | rfl | rfl | rfl <;> simp [fw]
    · rw [hr c]
  have e1 : Flags_reckon F op l r σ = Flags_reckon F op l r (mkF σ F (σ F 0) (σ F 1) (σ F 2) (σ F 3)) := by rw [← mkF_self σ F]
  have e2 : Mo_worked 67 op l r' τ = Mo_worked 67 op l r' (mkG τ w (σ F 0) (σ F 1) (σ F 2) (σ F 3)) := by
    rw [v2 0 (by decide), v2 1 (by decide), v2 2 (by decide), v2 3 (by decide), Nat.add_zero, ← mkG_self τ w]
  rw [e1, e2, fc_rec hop, gm_wrk v8 v9 hop, fr]
  have fc := fw_c (op := op) (l := l) (r := r) (c := σ F 0) (z := σ F 1) (s := σ F 2) (o := σ F 3) hop
  generalize fw op l r (σ F 0) (σ F 1) (σ F 2) (σ F 3) = o at fc ⊢
  refine ⟨_, _, _, rfl, rfl, ⟨?_, ?_, ?_, ?_, ?_, ?_, ?_, ?_, v9⟩, ⟨?_, ?_⟩, ⟨?_, ?_, ?_, ?_, ?_, ?_⟩, mkF_row m7.symm, mkF_row m8.symm, mkF_row m4, fun h2 => by rw [mkF_c]; rcases fc with e | e | e <;> rw [e]; exact h2; decide; decide⟩
  · intro k hk; rw [mkF_row m7.symm, mkG_row (by decide)]; exact v1 k hk
  · intro k hk
    obtain q | q | q | q : k = 0 ∨ k = 1 ∨ k = 2 ∨ k = 3 := by omega
    · subst q; rw [mkF_c, mkG_c]
    · subst q; rw [mkF_z, mkG_z]
    · subst q; rw [mkF_s, mkG_s]
    · subst q; rw [mkF_o, mkG_o]
  · intro k hk; rw [mkF_row m8.symm, mkG_row (by decide)]; exact v3 k hk
  · intro k hk; rw [mkF_row m8.symm]; exact v4 k hk
  · rw [mkF_row m4]; exact v5
  · intro q; rw [mkF_row m4, mkG_row (by decide)]; exact v6 q
  · intro q; rw [mkF_row m4]; exact v7 q
  · rw [mkG_row (by decide)]; exact v8
  · intro c h1 h2 h3 h4; exact mkF_row h2
  · intro j hj; rw [mkF_row m4]
  · intro c h1 h2 h3 h4; exact mkG_row h3
  · intro j hj; rw [mkG_row (by decide)]
  · intro j hj; rw [mkG_row (by decide)]
  · intro j hj; rw [mkG_oth (by omega)]
  · intro j hj; rw [mkG_row (by decide)]
  · intro q; rw [mkG_row (by decide)]
end
