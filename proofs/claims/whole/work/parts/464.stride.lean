section
variable {m T : Nat} {pl : Nat → Nat} {σ σ' τ τ' : St}
theorem prs_c (P : PrS m T pl σ τ) (h : ∀ c, 33 ≤ c → c ≤ 45 → σ' c = σ c) (X : FX 1 τ τ') : PrS m T pl σ' τ' := by
  unfold PrS at P ⊢
  rw [h 33 (by decide) (by decide), h 34 (by decide) (by decide), h 35 (by decide) (by decide), h 36 (by decide) (by decide), h 37 (by decide) (by decide), h 38 (by decide) (by decide), h 39 (by decide) (by decide), h 40 (by decide) (by decide), h 41 (by decide) (by decide), h 42 (by decide) (by decide), h 43 (by decide) (by decide), h 44 (by decide) (by decide), h 45 (by decide) (by decide), X.2.1 9 (by decide) (by decide) (by decide) (by decide) (by decide), X.2.1 55 (by decide) (by decide) (by decide) (by decide) (by decide), X.1 71 (by decide) (by decide), X.1 72 (by decide) (by decide), X.1 73 (by decide) (by decide), X.1 74 (by decide) (by decide), X.1 75 (by decide) (by decide), X.1 76 (by decide) (by decide), X.1 77 (by decide) (by decide), X.1 78 (by decide) (by decide), X.1 79 (by decide) (by decide), X.1 80 (by decide) (by decide)]
  exact P
/-- where a WALK stands -/
def Pos (m : Nat) (s : Nat → Int32) (v : Int32) : Prop := (v = -1 ∨ v = -2 ∨ v = -3 ∨ v = -4) ∨ ∃ q, q ≤ m ∧ v = nI q ∧ (q < m → ¬ s q = 0)
/-- a WALK on both sides, but for its place -/
def WB (m T : Nat) (pl : Nat → Nat) (σ τ : St) : Prop := Vr 58 59 60 61 1 σ τ ∧ IOr 58 62 63 1 σ τ ∧ PrS m T pl σ τ ∧ σ 58 2 = τ 94 1 ∧ σ 58 6 = 1 ∧ σ 58 4 = 0
def WS (m T : Nat) (pl : Nat → Nat) (σ τ : St) : Prop := WB m T pl σ τ ∧ Pos m (σ 34) (σ 65 3) ∧ σ 65 3 = τ 67 62
theorem io_c {w : Nat} (H : IOr 58 62 63 w σ τ) (C : FC 58 59 60 61 σ σ') (X : FR w τ τ') : IOr 58 62 63 w σ' τ' := by
  obtain ⟨ic, k, oc, y1, y2, y3, y4, y5, y6, y7, y8, y9, y10, y11⟩ := H
  refine ⟨ic, k, oc, y1, y2, y3, ?_, ?_, ?_, ?_, ?_, ?_, ?_, ?_⟩
  · rw [C.2 10 (by decide)]; exact y4
  · rw [X.2.1 29 (by decide)]; exact y5
  · rw [C.2 11 (by decide)]; exact y6
  · rw [X.2.1 41 (by decide)]; exact y7
  · rw [C.2 13 (by decide)]; exact y8
  · rw [X.1 92 (by decide) (by decide) (by decide) (by decide)]; exact y9
  · intro j hj; rw [C.1 62 (by decide) (by decide) (by decide) (by decide), X.1 86 (by decide) (by decide) (by decide) (by decide)]; exact y10 j hj
  · intro j hj; rw [C.1 63 (by decide) (by decide) (by decide) (by decide), X.1 91 (by decide) (by decide) (by decide) (by decide)]; exact y11 j hj
theorem wb_c (W : WB m T pl σ τ) (V : Vr 58 59 60 61 1 σ' τ') (C : FC 58 59 60 61 σ σ') (X : FR 1 τ τ') : WB m T pl σ' τ' := by
  obtain ⟨w1, w2, w3, w4, w5, w6⟩ := W
  refine ⟨V, io_c w2 C X, prs_c w3 (fun c h1 h2 => C.1 c (by omega) (by omega) (by omega) (by omega)) (fx_fr X), ?_, ?_, ?_⟩
  · rw [C.2 2 (by decide), X.1 94 (by decide) (by decide) (by decide) (by decide)]; exact w4
  · rw [C.2 6 (by decide)]; exact w5
  · rw [C.2 4 (by decide)]; exact w6
/-- the cells of a WALK that don't touch the machine -/
theorem wb_e (W : WB m T pl σ τ) (h : ∀ c, c < 64 → σ' c = σ c) (k1 : ∀ c, c ≠ 67 → τ' c = τ c) (k2 : ∀ j, (j < 43 ∨ j = 55) → τ' 67 j = τ 67 j) (X : FX 1 τ τ') : WB m T pl σ' τ' := by
  obtain ⟨w1, w2, w3, w4, w5, w6⟩ := W
  refine ⟨vr_t (vr_c w1 (h 60 (by decide)) (h 59 (by decide)) (h 61 (by decide)) (by rw [h 58 (by decide)])) (k1 88 (by decide)) (k1 89 (by decide)) (k1 90 (by decide)) (k2 40 (by decide)) (k2 42 (by decide)), ?_, prs_c w3 (fun c h1 h2 => h c (by omega)) X, ?_, ?_, ?_⟩
  · unfold IOr at w2 ⊢
    rw [h 58 (by decide), h 62 (by decide), h 63 (by decide), k2 29 (by decide), k2 41 (by decide), k1 92 (by decide), k1 86 (by decide), k1 91 (by decide)]
    exact w2
  · rw [h 58 (by decide), k1 94 (by decide)]; exact w4
  · rw [h 58 (by decide)]; exact w5
  · rw [h 58 (by decide)]; exact w6
/-- steps, on both sides -/
theorem wb_n (W : WB m T pl σ τ) : WB m T pl (s2 σ 58 2 (σ 58 2 + 1)) (s2 τ 94 1 (τ 94 1 + 1)) := by
  obtain ⟨w1, w2, w3, w4, w5, w6⟩ := W
  refine ⟨?_, ?_, prs_c w3 (fun c h1 h2 => s2_ne (by omega)) (fx_s (by simp)), ?_, ?_, ?_⟩
  · refine vr_t (vr_c w1 ?_ ?_ ?_ ?_) ?_ ?_ ?_ ?_ ?_
    all_goals simp only [s2_ne, s2_at, up_ne, up_at, ne_eq, not_false_eq_true, not_true_eq_false, if_true, if_false, Nat.reduceEqDiff, Nat.reduceLT, true_or, or_true, reduceIte]
  · obtain ⟨ic, k, oc, w⟩ := w2
    refine ⟨ic, k, oc, ?_⟩
    simp only [s2_ne, s2_at, up_ne, up_at, ne_eq, not_false_eq_true, not_true_eq_false, if_true, if_false, Nat.reduceEqDiff, Nat.reduceLT, true_or, or_true, reduceIte]
    exact w
  · simp only [s2_ne, s2_at, up_ne, up_at, ne_eq, not_false_eq_true, not_true_eq_false, if_true, if_false, Nat.reduceEqDiff, Nat.reduceLT, true_or, or_true, reduceIte]; rw [w4]
  · simp only [s2_ne, s2_at, up_ne, up_at, ne_eq, not_false_eq_true, not_true_eq_false, if_true, if_false, Nat.reduceEqDiff, Nat.reduceLT, true_or, or_true, reduceIte]; exact w5
  · simp only [s2_ne, s2_at, up_ne, up_at, ne_eq, not_false_eq_true, not_true_eq_false, if_true, if_false, Nat.reduceEqDiff, Nat.reduceLT, true_or, or_true, reduceIte]; exact w6
theorem pos_pst {s : Nat → Int32} {w : Nat} (hm : m ≤ 120) (h : w ≤ m) : Pos m s (nI (pst s m 120 w)) := Or.inr ⟨_, (pst_le 120 w h).2, rfl, fun q => pst_ns 120 w (by omega) q⟩
def GT1 (m T : Nat) (pl : Nat → Nat) (σ τ : St) (r1 r2 : Option (Int32 × St)) : Prop := ∃ σ' τ', r1 = some (-1, σ') ∧ r2 = some (-1, τ') ∧ WS m T pl σ' τ' ∧ FX 1 τ τ' ∧ σ' 58 2 = σ 58 2 + 1
theorem w_go (W : WB m T pl σ τ) {v v' : Int32} (L : Led m (σ 34) v v') (h : ¬ v = -100) : GT1 m T pl σ τ (Walker_goTo 65 v σ) (Mo_stride_B448 67 v' τ) := by
  have hm : m ≤ 120 := W.2.2.1.1
  have W1 := wb_n W
  have c1 : (s2 σ 58 2 (σ 58 2 + 1)) 33 4 = nI m := by rw [s2_ne (by decide)]; exact W.2.2.1.2.1
  -- what the class does
  have ec : Walker_goTo 65 v σ = some (-1, s2 (s2 σ 58 2 (σ 58 2 + 1)) 65 3 v') ∧ Pos m (σ 34) v' := by
    unfold Walker_goTo
    rw [cc_65_1, cc_65_0, nm_of]
    rcases L with ⟨e, _⟩ | ⟨e, hv⟩ | ⟨w, hw, e1, e2⟩
    · exact absurd e h
    · rw [if_neg (by rcases hv with k | k | k | k <;> rw [k] <;> decide), nm_of, ← e]
      exact ⟨rfl, Or.inl hv⟩
    · rw [e1, if_pos (lf_le 0 0 w rfl (by omega) (by omega)), c_pastL c1 hm hw, cl_of, nm_of, s2_ne (by decide), ← e2]
      exact ⟨rfl, by rw [e2]; exact pos_pst hm hw⟩
  obtain ⟨ec, hp⟩ := ec
  have em : Mo_stride_B448 67 v' τ = some (-1, s2 (s2 τ 67 62 v') 94 1 (τ 94 1 + 1)) := by
    unfold Mo_stride_B448
    rw [nm_of, cc_67_37, ld_L 1 1 rfl (by decide) (by decide), sa_L 1 1 rfl (by decide) (by decide), s2_ne (by decide)]
  have cm : s2 (s2 τ 67 62 v') 94 1 (τ 94 1 + 1) = s2 (s2 τ 94 1 (τ 94 1 + 1)) 67 62 v' := by
    funext c j
    by_cases q : c = 94
    · subst q; rw [s2_row, s2_ne (by decide), s2_ne (by decide), s2_row]
    · rw [s2_ne q]
      by_cases q2 : c = 67
      · subst q2; rw [s2_row, s2_row, s2_ne (by decide)]
      · rw [s2_ne q2, s2_ne q2, s2_ne q]
  refine ⟨_, _, ec, em, ⟨?_, ?_, ?_⟩, ?_, ?_⟩
  · rw [cm]
    exact wb_e W1 (fun c hc => s2_ne (by omega)) (fun c hc => s2_ne hc) (fun j hj => by rw [s2_row, upd_ne (by omega)]) (fx_f (by omega))
  · simp only [s2_ne, s2_at, up_ne, up_at, ne_eq, not_false_eq_true, not_true_eq_false, if_true, if_false, Nat.reduceEqDiff, Nat.reduceLT, true_or, or_true, reduceIte]; exact hp
  · simp only [s2_ne, s2_at, up_ne, up_at, ne_eq, not_false_eq_true, not_true_eq_false, if_true, if_false, Nat.reduceEqDiff, Nat.reduceLT, true_or, or_true, reduceIte]
  · rw [cm]; exact fx_tr (fx_s (by simp)) (fx_f (by omega))
  · simp only [s2_ne, s2_at, up_ne, up_at, ne_eq, not_false_eq_true, not_true_eq_false, if_true, if_false, Nat.reduceEqDiff, Nat.reduceLT, true_or, or_true, reduceIte]
end
