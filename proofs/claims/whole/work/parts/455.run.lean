/-! ===== a RUN, step by step ===== -/
theorem MDr : MD2 52 53 54 55 56 57 := by unfold MD2 MC; decide
theorem MDw : MD2 58 59 60 61 62 63 := by unfold MD2 MC; decide
/-- an address that a RUN of CODE that keeps the POLICY may come to -/
def SfA (n : Nat) (σ : St) (A : Int32) : Prop := isS A ∨ A < 256 ∨ ¬ A - 256 < nI n ∨ ∃ p, p < n ∧ A = nI (256 + p) ∧ ¬ σ 9 p = 0 ∧ (σ 9 p = 2 → ∀ op fm r x d i e, dc (σ 8) n p = some (op, fm, r, x, d, i, e) → Al (rgv σ 54 r))
def RunS (n : Nat) (σ τ : St) : Prop := Vr 52 53 54 55 0 σ τ ∧ IOr 52 56 57 0 σ τ ∧ (n ≤ 1024 ∧ σ 7 2 = nI n ∧ τ 67 6 = nI n ∧ (∀ j, j < n → BY (σ 8 j)) ∧ Eqn n (σ 8) (τ 69) ∧ Eqn n (σ 9) (τ 70) ∧ Cod (σ 8) n (σ 9)) ∧ σ 52 1 = τ 93 0 ∧ σ 52 2 = τ 94 0 ∧ σ 52 4 = τ 67 39 ∧ σ 52 6 = 1 ∧ ¬ σ 53 0 = 2
/-- a masked address is safe -/
theorem sf_al {n : Nat} {σ : St} {A : Int32} (hn : n ≤ 1024) (hC : Cod (σ 8) n (σ 9)) (h : Al A) : SfA n σ A := by
  by_cases c1 : A < 256
  · exact Or.inr (Or.inl c1)
  · by_cases c2 : A - 256 < nI n
    · obtain ⟨j, hj, rfl⟩ := nI_of (nlt_of c1 (show (0 : Int32) ≤ 256 by decide))
      have j256 : 256 ≤ j := by
        rcases Nat.lt_or_ge j 256 with q | q
        · exact absurd (lf_lt 256 256 j rfl q (by decide)) c1
        · exact q
      have hm := al_mod hj h
      rw [show nI j - 256 = nI (j - 256) from nI_sub (b := 256) j256 hj] at c2
      have hjn := (nI_ltI (by omega) (by omega)).mp c2
      have m1 := hC.2.2.2.1.2 (j - 256) hjn (by omega)
      refine Or.inr (Or.inr (Or.inr ⟨j - 256, hjn, by rw [show 256 + (j - 256) = j by omega], by rw [m1]; decide, fun h => absurd h (by rw [m1]; decide)⟩))
    · exact Or.inr (Or.inr (Or.inl c2))
/-- a target is safe -/
theorem sf_tgt {n : Nat} {σ : St} {A : Int32} (hn : n ≤ 1024) (h : tgt n (σ 9) A) : SfA n σ A := by
  rcases h with h | ⟨h1, h2, h3⟩
  · exact Or.inl h
  · obtain ⟨j, hj, ej⟩ := nI_of h1
    rw [ej] at h2 h3
    rw [nI_clamp hj] at h3
    have hjn := (nI_ltI hj (by omega)).mp h2
    refine Or.inr (Or.inr (Or.inr ⟨j, hjn, ?_, by rw [h3]; decide, fun h => absurd h (by rw [h3]; decide)⟩))
    rw [← nI_add 256 j, ← ej, show (nI 256 : Int32) = 256 from rfl, Int32.add_comm, Int32.sub_add_cancel]
section
variable {n : Nat} {σ σ' τ τ' : St}
theorem c_uk {f : Nat} (h5 : σ 52 5 = 0) (hc : ¬ σ 53 0 = 2) : Machine_readsUnknown 52 f σ = some (0, σ) := by
  have e : Machine_readsUnknown_B29 52 f σ = some (0, σ) := by unfold Machine_readsUnknown_B29; rw [if_neg (not_not_intro h5)]
  unfold Machine_readsUnknown
  rw [cc_52_0, e, if_pos hc]
  split
  · rfl
  · split <;> rfl
theorem c_144 {p : Nat} {a : Int32} (hn : n ≤ 1024) (h7 : σ 7 2 = nI n) (hp : p < n) (hm : ¬ σ 9 p = 0) : Runner_step_B144 64 (nI p) a σ = some (a, s2 (s2 σ 52 2 (σ 52 2 + 1)) 52 4 (σ 52 4 + 0)) := by
  unfold Runner_step_B144 Strip_markAt
  rw [cc_64_2, cc_64_0, nm_of, if_neg (nI_pos (by omega)), s2_ne (by decide), h7, if_pos (nI_lt hp (by omega)), cc_7_1, ld_nI (by omega) (by decide), cl_of, s2_ne (by decide), if_pos hm, nm_of, s2_row, upd_ne (by decide)]
/-- the reference's INSTRUCTION, taken -/
def tkn (τ : St) (op fm r x d i : Int32) : St := s2 (s2 (s2 (s2 (s2 (s2 τ 67 56 op) 67 57 fm) 67 58 r) 67 59 x) 67 60 d) 67 61 i
theorem tkn_n {τ : St} {op fm r x d i : Int32} : Nrm (tkn τ op fm r x d i) op fm r x d i := by
  unfold Nrm tkn
  simp only [s2_ne, s2_at, up_ne, up_at, ne_eq, not_false_eq_true, not_true_eq_false, if_true, if_false, Nat.reduceEqDiff, Nat.reduceLT, true_or, or_true, reduceIte]
  exact ⟨trivial, trivial, fun _ => trivial, fun _ => trivial, fun _ => trivial, fun _ => trivial⟩
theorem tkn_c {τ : St} {op fm r x d i : Int32} {c : Nat} (h : c ≠ 67) : tkn τ op fm r x d i c = τ c := by
  unfold tkn; rw [s2_ne h, s2_ne h, s2_ne h, s2_ne h, s2_ne h, s2_ne h]
theorem tkn_f {τ : St} {op fm r x d i : Int32} {k : Nat} (h : k < 56 ∨ 61 < k) : tkn τ op fm r x d i 67 k = τ 67 k := by
  unfold tkn; simp only [s2_row]; rw [upd_ne (by omega), upd_ne (by omega), upd_ne (by omega), upd_ne (by omega), upd_ne (by omega), upd_ne (by omega)]
theorem tkn_x {w : Nat} {τ : St} {op fm r x d i : Int32} : FX w τ (tkn τ op fm r x d i) := by
  unfold tkn
  exact fx_tr (fx_tr (fx_tr (fx_tr (fx_tr (fx_f (by omega)) (fx_f (by omega))) (fx_f (by omega))) (fx_f (by omega))) (fx_f (by omega))) (fx_f (by omega))
theorem rs_mk (S : RunS n σ τ) (hV : Vr 52 53 54 55 0 σ' τ') (hI : IOr 52 56 57 0 σ' τ') (h7 : σ' 7 = σ 7) (h8 : σ' 8 = σ 8) (h9 : σ' 9 = σ 9) (hX : FX 0 τ τ') (k1 : σ' 52 1 = τ' 93 0) (k2 : σ' 52 2 = τ' 94 0) (k4 : σ' 52 4 = τ' 67 39) (k6 : σ' 52 6 = 1) (kc : ¬ σ' 53 0 = 2) : RunS n σ' τ' := by
  obtain ⟨s1, s2', ⟨c1, c2, c3, c4, c5, c6, c7⟩, s4⟩ := S
  refine ⟨hV, hI, ⟨c1, by rw [h7]; exact c2, ?_, by rw [h8]; exact c4, ?_, ?_, by rw [h8, h9]; exact c7⟩, k1, k2, k4, k6, kc⟩
  · rw [hX.2.1 6 (by decide) (by decide) (by decide) (by decide) (by decide)]; exact c3
  · rw [h8, hX.1 69 (by decide) (by decide)]; exact c5
  · rw [h9, hX.1 70 (by decide) (by decide)]; exact c6
/-- what one step does on both sides -/
def StP (n : Nat) (σ τ : St) (r1 r2 : Option (Int32 × St)) : Prop := ∃ a σ' τ', r1 = some (a, σ') ∧ r2 = some (a, τ') ∧ RunS n σ' τ' ∧ FX 0 τ τ' ∧ (a = -1 → SfA n σ' (σ' 52 1) ∧ σ' 52 2 = σ 52 2 + 1) ∧ (a = -1 ∨ ¬ a < 0)
theorem st_serve (S : RunS n σ τ) (hs : isS (σ 52 1)) : StP n σ τ (Runner_serve 64 (σ 52 1) σ) (Mo_step 67 τ) := by
  obtain ⟨hV, hI, hC, a1, a2, a4, a6, ac⟩ := id S
  have hM := MDr.1
  unfold Runner_serve Mo_step
  rw [cc_64_2, cc_67_36, ld_L 0 0 rfl (by decide) (by decide), ← a1, c_canPop hM, cl_of]
  by_cases z : σ 52 1 = 0
  · rw [if_neg (not_not_intro z), if_neg (not_not_intro z), nm_of, cc_67_37, ld_L 0 0 rfl (by decide) (by decide), sa_L 0 0 rfl (by decide) (by decide), ← a2]
    refine ⟨2, _, _, rfl, rfl, rs_mk S ?_ ?_ (s2_ne (by decide)) (s2_ne (by decide)) (s2_ne (by decide)) (fx_s (by simp)) ?_ ?_ ?_ ?_ ?_, fx_s (by simp), fun h => absurd h (by decide), Or.inr (by decide)⟩
    · exact vr_t (vr_c hV (s2_ne (by decide)) (s2_ne (by decide)) (s2_ne (by decide)) (by rw [s2_row, upd_ne (by decide)])) (s2_ne (by decide)) (s2_ne (by decide)) (s2_ne (by decide)) (by rw [s2_ne (by decide)]) (by rw [s2_ne (by decide)])
    · obtain ⟨ic, k, oc, w⟩ := hI
      refine ⟨ic, k, oc, ?_⟩
      simp only [s2_ne, s2_at, up_ne, up_at, ne_eq, not_false_eq_true, not_true_eq_false, if_true, if_false, Nat.reduceEqDiff, Nat.reduceLT, true_or, or_true, reduceIte]
      exact w
    · simp only [s2_ne, s2_at, up_ne, up_at, ne_eq, not_false_eq_true, not_true_eq_false, if_true, if_false, Nat.reduceEqDiff, Nat.reduceLT, true_or, or_true, reduceIte]; exact a1
    · simp only [s2_ne, s2_at, up_ne, up_at, ne_eq, not_false_eq_true, not_true_eq_false, if_true, if_false, Nat.reduceEqDiff, Nat.reduceLT, true_or, or_true, reduceIte]
    · simp only [s2_ne, s2_at, up_ne, up_at, ne_eq, not_false_eq_true, not_true_eq_false, if_true, if_false, Nat.reduceEqDiff, Nat.reduceLT, true_or, or_true, reduceIte]; exact a4
    · simp only [s2_ne, s2_at, up_ne, up_at, ne_eq, not_false_eq_true, not_true_eq_false, if_true, if_false, Nat.reduceEqDiff, Nat.reduceLT, true_or, or_true, reduceIte]; exact a6
    · simp only [s2_ne, s2_at, up_ne, up_at, ne_eq, not_false_eq_true, not_true_eq_false, if_true, if_false, Nat.reduceEqDiff, Nat.reduceLT, true_or, or_true, reduceIte]; exact ac
  · rw [if_pos z, if_pos z, ms_eq, if_pos hs, cl_of, if_neg (show ¬ (1 : Int32) = 0 by decide), m_reg hV r4, cl_of, rgv_4, mt_eq, cl_of]
    by_cases q : inW (σ 54 4)
    · rw [if_pos q, if_pos (by decide), if_pos (by decide)]
      obtain ⟨ic, k, oc, w1, w2, w3, w4, w5, w6, w7, w8, w9, w10, w11⟩ := id hI
      have hs3 : σ 52 1 = 16 ∨ σ 52 1 = 32 ∨ σ 52 1 = 48 := hs.resolve_left z
      have full : Machine_isFullFor 52 (σ 52 1) σ = some (if σ 52 1 = 16 ∧ oc = 100 then 1 else 0, σ) := by
        unfold Machine_isFullFor
        rw [w8]
        by_cases e : σ 52 1 = 16
        · rw [if_neg (not_not_intro e)]
          by_cases e2 : oc = 100
          · rw [if_neg (lf_nlt 100 100 oc rfl (by omega) (by omega)), if_pos ⟨e, e2⟩]
          · rw [if_pos (lf_lt 100 100 oc rfl (by omega) (by decide)), if_neg (fun h => e2 h.2)]
        · rw [if_pos e, if_neg (fun h => e h.1)]
      have e100 : (nI oc = 100) ↔ oc = 100 := nI_inj (b := 100) (by omega) (by decide)
      rw [full, cl_of]
      have mfull : (if ¬ σ 52 1 = 16 then Mo_step_B63 67 (σ 52 1) τ else ld τ (ch 67 35) 2 0 fun x17 => if ¬ x17 = 100 then Mo_step_B63 67 (σ 52 1) τ else some (6, τ)) = if σ 52 1 = 16 ∧ oc = 100 then some (6, τ) else Mo_step_B63 67 (σ 52 1) τ := by
        rw [cc_67_35, ld_L 0 0 rfl (by decide) (by decide), w9]
        by_cases e : σ 52 1 = 16
        · rw [if_neg (not_not_intro e)]
          by_cases e2 : oc = 100
          · rw [if_neg (not_not_intro (e100.mpr e2)), if_pos ⟨e, e2⟩]
          · rw [if_pos (fun h => e2 (e100.mp h)), if_neg (fun h => e2 h.2)]
        · rw [if_pos e, if_neg (fun h => e h.1)]
      rw [mfull]
      by_cases ff : σ 52 1 = 16 ∧ oc = 100
      · rw [if_pos ff, if_pos ff, if_neg (by decide)]
        exact ⟨6, σ, τ, rfl, rfl, S, fx_rf, fun h => absurd h (by decide), Or.inr (by decide)⟩
      · rw [if_neg ff, if_neg ff, if_pos rfl]
        obtain ⟨σ1, τ1, e1, e2, V1, I1, X1, f1, g1, k1, r1, r2, r3⟩ := v_serve MDr hV hI hs3 (fun e => by rw [w8]; exact fun h => ff ⟨e, e100.mp h⟩)
        have q1 : inW (σ1 54 4) := by rw [g1]; exact q
        obtain ⟨v, σ2, τ2, e3, e4, _, _, _, V2, C2, R2, f2, m2, b2, g2⟩ := v_pop hM V1 q1
        unfold Mo_step_B63
        rw [e1, cv_of, e3, cl_of, nm_of, nm_of, e2, cv_of, e4, cl_of, cc_67_36, sa_L 0 0 rfl (by decide) (by decide), cc_67_37, ld_L 0 0 rfl (by decide) (by decide), sa_L 0 0 rfl (by decide) (by decide)]
        have X2 : FX 0 τ (s2 (s2 τ2 93 0 (v &&& (-16))) 94 0 ((s2 τ2 93 0 (v &&& (-16))) 94 0 + 1)) := fx_tr X1 (fx_tr (fx_fr R2) (fx_tr (fx_s (by simp)) (fx_s (by simp))))
        have fr1 := fr_Machine_serve (P := fun c => c = 52 ∨ c = 54 ∨ c = 57) (by decide) (by decide) (by decide) e1
        have o7 : ∀ c, c = 7 ∨ c = 8 ∨ c = 9 ∨ c = 56 → σ1 c = σ c := fun c hc => fr1 c (by rcases hc with rfl | rfl | rfl | rfl <;> decide)
        have o8 : ∀ c, c = 7 ∨ c = 8 ∨ c = 9 → σ2 c = σ c := fun c hc => by
          rw [C2.1 c (by omega) (by omega) (by omega) (by omega)]; exact o7 c (by omega)
        have s94 : τ2 94 0 = τ 94 0 := by rw [R2.1 94 (by decide) (by decide) (by decide) (by decide), r2]
        have S2 : RunS n (s2 (s2 σ2 52 1 (v &&& (-16))) 52 2 ((s2 σ2 52 1 (v &&& (-16))) 52 2 + 1)) (s2 (s2 τ2 93 0 (v &&& (-16))) 94 0 ((s2 τ2 93 0 (v &&& (-16))) 94 0 + 1)) := by
          refine rs_mk S ?_ ?_ ?_ ?_ ?_ X2 ?_ ?_ ?_ ?_ ?_
          · refine vr_t (vr_c V2 ?_ ?_ ?_ ?_) ?_ ?_ ?_ ?_ ?_
            all_goals simp only [s2_ne, s2_at, up_ne, up_at, ne_eq, not_false_eq_true, not_true_eq_false, if_true, if_false, Nat.reduceEqDiff, Nat.reduceLT, true_or, or_true, reduceIte]
          · obtain ⟨ic, k, oc, y1, y2, y3, y4, y5, y6, y7, y8, y9, y10, y11⟩ := I1
            refine ⟨ic, k, oc, y1, y2, y3, ?_, ?_, ?_, ?_, ?_, ?_, ?_, ?_⟩
            · simp only [s2_ne, s2_at, up_ne, up_at, ne_eq, not_false_eq_true, not_true_eq_false, if_true, if_false, Nat.reduceEqDiff, Nat.reduceLT, true_or, or_true, reduceIte]; rw [m2]; exact y4
            · simp only [s2_ne, s2_at, up_ne, up_at, ne_eq, not_false_eq_true, not_true_eq_false, if_true, if_false, Nat.reduceEqDiff, Nat.reduceLT, true_or, or_true, reduceIte]; rw [R2.2.1 29 (by decide)]; exact y5
            · simp only [s2_ne, s2_at, up_ne, up_at, ne_eq, not_false_eq_true, not_true_eq_false, if_true, if_false, Nat.reduceEqDiff, Nat.reduceLT, true_or, or_true, reduceIte]; rw [m2]; exact y6
            · simp only [s2_ne, s2_at, up_ne, up_at, ne_eq, not_false_eq_true, not_true_eq_false, if_true, if_false, Nat.reduceEqDiff, Nat.reduceLT, true_or, or_true, reduceIte]; rw [R2.2.1 41 (by decide)]; exact y7
            · simp only [s2_ne, s2_at, up_ne, up_at, ne_eq, not_false_eq_true, not_true_eq_false, if_true, if_false, Nat.reduceEqDiff, Nat.reduceLT, true_or, or_true, reduceIte]; rw [m2]; exact y8
            · simp only [s2_ne, s2_at, up_ne, up_at, ne_eq, not_false_eq_true, not_true_eq_false, if_true, if_false, Nat.reduceEqDiff, Nat.reduceLT, true_or, or_true, reduceIte]; rw [R2.1 92 (by decide) (by decide) (by decide) (by decide)]; exact y9
            · intro j hj; simp only [s2_ne, s2_at, up_ne, up_at, ne_eq, not_false_eq_true, not_true_eq_false, if_true, if_false, Nat.reduceEqDiff, Nat.reduceLT, true_or, or_true, reduceIte]; rw [C2.1 56 (by decide) (by decide) (by decide) (by decide), R2.1 86 (by decide) (by decide) (by decide) (by decide)]; exact y10 j hj
            · intro j hj; simp only [s2_ne, s2_at, up_ne, up_at, ne_eq, not_false_eq_true, not_true_eq_false, if_true, if_false, Nat.reduceEqDiff, Nat.reduceLT, true_or, or_true, reduceIte]; rw [C2.1 57 (by decide) (by decide) (by decide) (by decide), R2.1 91 (by decide) (by decide) (by decide) (by decide)]; exact y11 j hj
          · simp only [s2_ne, s2_at, up_ne, up_at, ne_eq, not_false_eq_true, not_true_eq_false, if_true, if_false, Nat.reduceEqDiff, Nat.reduceLT, true_or, or_true, reduceIte]; exact o8 7 (by simp)
          · simp only [s2_ne, s2_at, up_ne, up_at, ne_eq, not_false_eq_true, not_true_eq_false, if_true, if_false, Nat.reduceEqDiff, Nat.reduceLT, true_or, or_true, reduceIte]; exact o8 8 (by simp)
          · simp only [s2_ne, s2_at, up_ne, up_at, ne_eq, not_false_eq_true, not_true_eq_false, if_true, if_false, Nat.reduceEqDiff, Nat.reduceLT, true_or, or_true, reduceIte]; exact o8 9 (by simp)
          · simp only [s2_ne, s2_at, up_ne, up_at, ne_eq, not_false_eq_true, not_true_eq_false, if_true, if_false, Nat.reduceEqDiff, Nat.reduceLT, true_or, or_true, reduceIte]
          · simp only [s2_ne, s2_at, up_ne, up_at, ne_eq, not_false_eq_true, not_true_eq_false, if_true, if_false, Nat.reduceEqDiff, Nat.reduceLT, true_or, or_true, reduceIte]; rw [s94, m2, k1 2 (by decide) (by decide) (by decide), a2]
          · simp only [s2_ne, s2_at, up_ne, up_at, ne_eq, not_false_eq_true, not_true_eq_false, if_true, if_false, Nat.reduceEqDiff, Nat.reduceLT, true_or, or_true, reduceIte]; rw [R2.2.1 39 (by decide), r3, m2, k1 4 (by decide) (by decide) (by decide), a4]
          · simp only [s2_ne, s2_at, up_ne, up_at, ne_eq, not_false_eq_true, not_true_eq_false, if_true, if_false, Nat.reduceEqDiff, Nat.reduceLT, true_or, or_true, reduceIte]; rw [m2, k1 6 (by decide) (by decide) (by decide), a6]
          · simp only [s2_ne, s2_at, up_ne, up_at, ne_eq, not_false_eq_true, not_true_eq_false, if_true, if_false, Nat.reduceEqDiff, Nat.reduceLT, true_or, or_true, reduceIte]; rw [f2, f1]; exact ac
        refine ⟨-1, _, _, rfl, rfl, S2, X2, fun _ => ⟨?_, ?_⟩, Or.inl rfl⟩
        · simp only [s2_ne, s2_at, up_ne, up_at, ne_eq, not_false_eq_true, not_true_eq_false, if_true, if_false, Nat.reduceEqDiff, Nat.reduceLT, true_or, or_true, reduceIte]
          exact sf_al S2.2.2.1.1 S2.2.2.1.2.2.2.2.2.2 (al_and v)
        · simp only [s2_ne, s2_at, up_ne, up_at, ne_eq, not_false_eq_true, not_true_eq_false, if_true, if_false, Nat.reduceEqDiff, Nat.reduceLT, true_or, or_true, reduceIte]; rw [m2, k1 2 (by decide) (by decide) (by decide)]
    · rw [if_neg q, if_neg (by decide), if_neg (by decide)]
      exact ⟨3, σ, τ, rfl, rfl, S, fx_rf, fun h => absurd h (by decide), Or.inr (by decide)⟩
end
