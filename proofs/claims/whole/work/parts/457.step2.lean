section
variable {n : Nat} {σ τ : St}
theorem st_code (S : RunS n σ τ) {p : Nat} (hp : p < n) (hA : σ 52 1 = nI (256 + p)) (hm : ¬ σ 9 p = 0) (hgo : σ 9 p = 2 → ∀ op fm r x d i e, dc (σ 8) n p = some (op, fm, r, x, d, i, e) → Al (rgv σ 54 r)) : StP n σ τ (Runner_step 64 (σ 52 1) σ) (Mo_step 67 τ) := by
  obtain ⟨hV, hI, ⟨hn, c2, c3, hB, c5, c6, hC⟩, a1, a2, a4, a6, ac⟩ := id S
  have hM := MDr.1
  have n16 := hC.2.2.1
  have hB' : ∀ k, k < n → BY (τ 69 k) := fun k hk => by rw [← c5 k hk]; exact hB k hk
  rcases hC.2.2.2.1.1 p hp with k | ⟨op, fm, r, x, d, i, e, hd, h23, heb, hmk, hcall, hsu⟩
  · exact absurd k hm
  have hE : p < e ∧ e ≤ n := dc_end hd
  have hW : WF op fm r x := dc_wf hB hd
  have hF : FmOK op fm := dc_fm hB hd
  obtain ⟨y, σ1, er, hr⟩ := cn_read (σ := σ) (p := p) RH13 c2 (by omega) (by omega)
  unfold RD at hr
  rw [hd] at hr
  obtain ⟨rfl, os, vs, ds, ir, md, lo, e1⟩ := hr
  obtain ⟨x6, τ1, ed, hD⟩ := mn_decode (σ := τ) (p := p) (MqH69 hn) hB' hp
  rw [← dc_c c5, hd] at hD
  obtain ⟨rfl, _, _, kf, m', et⟩ := hD
  have s1 : ∀ c, c ≠ 13 → c ≠ 14 → σ1 c = σ c := fun c h1 h2 => by rw [e1]; exact mkR_row h1 h2
  have hf14 : (14 : Nat) ≠ 13 := by decide
  have I1 : Inst σ1 14 op fm r x d i := by
    rw [e1]; exact ⟨mkR_op hf14, mkR_fm hf14, mkR_r hf14, mkR_x hf14, mkR_d hf14, mkR_i hf14⟩
  have l6 : σ1 14 6 = nI (e - p) := by rw [e1]; exact mkR_ln hf14
  have t46 : τ1 67 46 = op ∧ τ1 67 47 = fm ∧ τ1 67 48 = r ∧ τ1 67 49 = x ∧ τ1 67 50 = d ∧ τ1 67 51 = i := by
    rw [et]; exact ⟨mkM_op, mkM_fm, mkM_r, mkM_x, mkM_d, mkM_i⟩
  have t1c : ∀ c, c ≠ 67 → τ1 c = τ c := fun c h => by rw [et]; exact mkM_row h
  have t1f : ∀ k, (k < 43 ∨ 53 < k) → τ1 67 k = τ 67 k := fun k h => by rw [et]; exact mkM_oth h
  have X1 : FX 0 τ τ1 := by rw [et]; exact fx_lm lm_mk
  -- behind the decoding
  have N2 := tkn_n (τ := τ1) (op := op) (fm := fm) (r := r) (x := x) (d := d) (i := i)
  generalize hτ2 : tkn τ1 op fm r x d i = τ2 at N2
  have t2c : ∀ c, c ≠ 67 → τ2 c = τ c := fun c h => by rw [← hτ2, tkn_c h]; exact t1c c h
  have t2f : ∀ k, (k < 43 ∨ 61 < k ∨ k = 54 ∨ k = 55) → τ2 67 k = τ 67 k := fun k h => by rw [← hτ2, tkn_f (by omega)]; exact t1f k (by omega)
  have X2 : FX 0 τ τ2 := by rw [← hτ2]; exact fx_tr X1 tkn_x
  have V2 : Vr 52 53 54 55 0 σ1 τ2 := vr_t (vr_c hV (s1 54 (by decide) (by decide)) (s1 53 (by decide) (by decide)) (s1 55 (by decide) (by decide)) (by rw [s1 52 (by decide) (by decide)])) (t2c 88 (by decide)) (t2c 89 (by decide)) (t2c 90 (by decide)) (t2f 40 (by decide)) (t2f 42 (by decide))
  have h14 : (14 : Nat) ≠ 52 ∧ (14 : Nat) ≠ 53 ∧ (14 : Nat) ≠ 54 ∧ (14 : Nat) ≠ 55 := by decide
  have n256 : ¬ nI (256 + p) < 256 := lf_nlt 256 256 (256 + p) rfl (by omega) (by omega)
  have nz : ¬ nI (256 + p) = 0 := nI_ne0 (by omega) (by omega)
  have ns : ¬ isS (nI (256 + p)) := by
    rintro (h | h | h | h)
    · exact nz h
    · exact n256 (by rw [h]; decide)
    · exact n256 (by rw [h]; decide)
    · exact n256 (by rw [h]; decide)
  have ep : nI (256 + p) - 256 = nI p := by rw [show nI (256 + p) - 256 = nI (256 + p - 256) from nI_sub (b := 256) (by omega) (by omega), show 256 + p - 256 = p by omega]
  have eb : nI (256 + p) + nI (e - p) = nI (256 + e) := by rw [nI_add, show 256 + p + (e - p) = 256 + e by omega]
  have i52 : ∀ k, σ1 52 k = σ 52 k := fun k => by rw [s1 52 (by decide) (by decide)]
  -- the reference, up to what is wanting
  have mstep : Mo_step 67 τ = cl (Mo_wants 67 τ2) fun x9 σ8 => if x9 = 0 then ld σ8 94 2 0 fun x10 => sa σ8 94 2 0 (x10 + 1) fun σ11 => ld σ11 70 1024 (nI p) fun x12 => if ¬ x12 = 0 then Mo_step_B202 67 (nI (256 + p)) (nI (e - p)) 67 (σ11 67 39) 0 σ11 else Mo_step_B202 67 (nI (256 + p)) (nI (e - p)) 67 (σ11 67 39) 1 σ11 else some (3, σ8) := by
    unfold Mo_step
    rw [cc_67_36, ld_L 0 0 rfl (by decide) (by decide), ← a1, hA, if_pos nz, ms_eq, if_neg ns, cl_of, if_pos rfl, nm_of, if_neg n256, ep, c3, if_pos (nI_lt hp (by omega)), cc_67_5, ed, cl_of, if_pos (nI_ne0 (by omega) (by omega)), t46.1, t46.2.1, t46.2.2.1, t46.2.2.2.1, t46.2.2.2.2.1, t46.2.2.2.2.2]
    have : Mo_takes 67 op fm r x d i τ1 = some τ2 := by rw [← hτ2]; rfl
    rw [this, cv_of, cc_67_37, cc_67_7]
  -- behind the count of steps
  have mgo : ∀ (K : Option (Int32 × St)), Mo_wants 67 τ2 = some (0, τ2) → Mo_step 67 τ = Mo_step_B202 67 (nI (256 + p)) (nI (e - p)) 67 (τ 67 39) 0 (s2 τ2 94 0 (τ 94 0 + 1)) := by
    intro _ hw
    rw [mstep, hw, cl_of, if_pos rfl, ld_L 0 0 rfl (by decide) (by decide), sa_L 0 0 rfl (by decide) (by decide), ld_nI (by omega) (by decide), s2_ne (by decide), t2c 70 (by decide), ← c6 p hp, if_pos hm, t2c 94 (by decide), s2_ne (by decide), t2f 39 (by decide)]
  generalize hτ4 : s2 (s2 τ2 94 0 (τ 94 0 + 1)) 67 39 (τ 67 39 + 0) = τ4
  have t4c : ∀ c, c ≠ 67 → c ≠ 94 → τ4 c = τ c := fun c h h' => by rw [← hτ4, s2_ne h, s2_ne h']; exact t2c c h
  have t4f : ∀ k, k ≠ 39 → τ4 67 k = τ2 67 k := fun k h => by rw [← hτ4, s2_row, upd_ne h, s2_ne (by decide)]
  have t49 : τ4 67 39 = τ 67 39 + 0 := by rw [← hτ4, s2_row, upd_s]
  have t494 : τ4 94 0 = τ 94 0 + 1 := by rw [← hτ4, s2_ne (by decide), s2_row, upd_s]
  have X4 : FX 0 τ τ4 := by rw [← hτ4]; exact fx_tr X2 (fx_tr (fx_s (by simp)) (fx_f (by omega)))
  have N4 : Nrm τ4 op fm r x d i := by
    unfold Nrm at N2 ⊢
    rw [t4f 56 (by decide), t4f 57 (by decide), t4f 58 (by decide), t4f 59 (by decide), t4f 60 (by decide), t4f 61 (by decide)]; exact N2
  have V4 : Vr 52 53 54 55 0 σ1 τ4 := vr_t V2 (by rw [t4c 88 (by decide) (by decide), t2c 88 (by decide)]) (by rw [t4c 89 (by decide) (by decide), t2c 89 (by decide)]) (by rw [t4c 90 (by decide) (by decide), t2c 90 (by decide)]) (t4f 40 (by decide)) (t4f 42 (by decide))
  -- the class, up to what is done
  have cstep : Runner_step 64 (σ 52 1) σ = if op < 24 then (if op = 22 then Runner_step_B144 64 (nI p) 1 σ1 else cl (Machine_perform 52 14 σ1) fun x6 σ5 => if ¬ x6 = (-1) then nm (s2 σ5 52 1 (nI (256 + p))) fun σ7 => (if x6 = (-1) then Runner_step_B144 64 (nI p) x6 σ7 else if ¬ x6 = 1 then some (x6, σ7) else Runner_step_B144 64 (nI p) x6 σ7) else nm (s2 σ5 52 1 (nI (256 + e))) fun σ8 => (if x6 = (-1) then Runner_step_B144 64 (nI p) x6 σ8 else if ¬ x6 = 1 then some (x6, σ8) else Runner_step_B144 64 (nI p) x6 σ8)) else cl (Runner_turnOff 64 14 (nI (256 + e)) σ1) fun x10 σ9 => if x10 = (-1) then Runner_step_B144 64 (nI p) x10 σ9 else if ¬ x10 = 1 then some (x10, σ9) else Runner_step_B144 64 (nI p) x10 σ9 := by
    unfold Runner_step
    rw [hA, nm_of, if_neg n256, ep, cc_64_0, c2, if_pos (nI_lt hp (by omega)), cc_64_1, er, cl_of, if_neg (by decide), cc_13_0, I1.1, if_pos h23, nm_of, l6, eb, cc_64_2]
  rw [cstep]
  -- how RunS comes back
  have back : ∀ (σ2 τ5 : St) (A : Int32), Vr 52 53 54 55 0 σ2 τ5 → (∀ c, c ≠ 52 → c ≠ 53 → c ≠ 54 → c ≠ 55 → c ≠ 13 → c ≠ 14 → σ2 c = σ c) → (∀ k, k ≠ 5 → σ2 52 k = σ 52 k) → ¬ σ2 53 0 = 2 → FX 0 τ τ5 → τ5 67 29 = τ 67 29 → τ5 67 41 = τ 67 41 → τ5 92 = τ 92 → τ5 86 = τ 86 → τ5 91 = τ 91 → τ5 94 0 = τ 94 0 + 1 → τ5 67 39 = τ 67 39 + 0 →
      RunS n (s2 (s2 (s2 σ2 52 1 A) 52 2 (σ 52 2 + 1)) 52 4 (σ 52 4 + 0)) (s2 τ5 93 0 A) := by
    intro σ2 τ5 A hv hc hk hcc hx q1 q2 q3 q4 q5 q6 q7
    refine rs_mk S ?_ ?_ ?_ ?_ ?_ (fx_tr hx (fx_s (by simp))) ?_ ?_ ?_ ?_ ?_
    · refine vr_t (vr_c hv ?_ ?_ ?_ ?_) ?_ ?_ ?_ ?_ ?_
      all_goals simp only [s2_ne, s2_at, up_ne, up_at, ne_eq, not_false_eq_true, not_true_eq_false, if_true, if_false, Nat.reduceEqDiff, Nat.reduceLT, true_or, or_true, reduceIte]
    · obtain ⟨ic, k, oc, y1, y2, y3, y4, y5, y6, y7, y8, y9, y10, y11⟩ := hI
      refine ⟨ic, k, oc, y1, y2, y3, ?_, ?_, ?_, ?_, ?_, ?_, ?_, ?_⟩
      · simp only [s2_ne, s2_at, up_ne, up_at, ne_eq, not_false_eq_true, not_true_eq_false, if_true, if_false, Nat.reduceEqDiff, Nat.reduceLT, true_or, or_true, reduceIte]; rw [hk 10 (by decide)]; exact y4
      · simp only [s2_ne, s2_at, up_ne, up_at, ne_eq, not_false_eq_true, not_true_eq_false, if_true, if_false, Nat.reduceEqDiff, Nat.reduceLT, true_or, or_true, reduceIte]; rw [q1]; exact y5
      · simp only [s2_ne, s2_at, up_ne, up_at, ne_eq, not_false_eq_true, not_true_eq_false, if_true, if_false, Nat.reduceEqDiff, Nat.reduceLT, true_or, or_true, reduceIte]; rw [hk 11 (by decide)]; exact y6
      · simp only [s2_ne, s2_at, up_ne, up_at, ne_eq, not_false_eq_true, not_true_eq_false, if_true, if_false, Nat.reduceEqDiff, Nat.reduceLT, true_or, or_true, reduceIte]; rw [q2]; exact y7
      · simp only [s2_ne, s2_at, up_ne, up_at, ne_eq, not_false_eq_true, not_true_eq_false, if_true, if_false, Nat.reduceEqDiff, Nat.reduceLT, true_or, or_true, reduceIte]; rw [hk 13 (by decide)]; exact y8
      · simp only [s2_ne, s2_at, up_ne, up_at, ne_eq, not_false_eq_true, not_true_eq_false, if_true, if_false, Nat.reduceEqDiff, Nat.reduceLT, true_or, or_true, reduceIte]; rw [q3]; exact y9
      · intro j hj; simp only [s2_ne, s2_at, up_ne, up_at, ne_eq, not_false_eq_true, not_true_eq_false, if_true, if_false, Nat.reduceEqDiff, Nat.reduceLT, true_or, or_true, reduceIte]; rw [hc 56 (by decide) (by decide) (by decide) (by decide) (by decide) (by decide), q4]; exact y10 j hj
      · intro j hj; simp only [s2_ne, s2_at, up_ne, up_at, ne_eq, not_false_eq_true, not_true_eq_false, if_true, if_false, Nat.reduceEqDiff, Nat.reduceLT, true_or, or_true, reduceIte]; rw [hc 57 (by decide) (by decide) (by decide) (by decide) (by decide) (by decide), q5]; exact y11 j hj
    · simp only [s2_ne, s2_at, up_ne, up_at, ne_eq, not_false_eq_true, not_true_eq_false, if_true, if_false, Nat.reduceEqDiff, Nat.reduceLT, true_or, or_true, reduceIte]; exact hc 7 (by decide) (by decide) (by decide) (by decide) (by decide) (by decide)
    · simp only [s2_ne, s2_at, up_ne, up_at, ne_eq, not_false_eq_true, not_true_eq_false, if_true, if_false, Nat.reduceEqDiff, Nat.reduceLT, true_or, or_true, reduceIte]; exact hc 8 (by decide) (by decide) (by decide) (by decide) (by decide) (by decide)
    · simp only [s2_ne, s2_at, up_ne, up_at, ne_eq, not_false_eq_true, not_true_eq_false, if_true, if_false, Nat.reduceEqDiff, Nat.reduceLT, true_or, or_true, reduceIte]; exact hc 9 (by decide) (by decide) (by decide) (by decide) (by decide) (by decide)
    · simp only [s2_ne, s2_at, up_ne, up_at, ne_eq, not_false_eq_true, not_true_eq_false, if_true, if_false, Nat.reduceEqDiff, Nat.reduceLT, true_or, or_true, reduceIte]
    · simp only [s2_ne, s2_at, up_ne, up_at, ne_eq, not_false_eq_true, not_true_eq_false, if_true, if_false, Nat.reduceEqDiff, Nat.reduceLT, true_or, or_true, reduceIte]; rw [q6, a2]
    · simp only [s2_ne, s2_at, up_ne, up_at, ne_eq, not_false_eq_true, not_true_eq_false, if_true, if_false, Nat.reduceEqDiff, Nat.reduceLT, true_or, or_true, reduceIte]; rw [q7, a4]
    · simp only [s2_ne, s2_at, up_ne, up_at, ne_eq, not_false_eq_true, not_true_eq_false, if_true, if_false, Nat.reduceEqDiff, Nat.reduceLT, true_or, or_true, reduceIte]; rw [hk 6 (by decide)]; exact a6
    · simp only [s2_ne, s2_at, up_ne, up_at, ne_eq, not_false_eq_true, not_true_eq_false, if_true, if_false, Nat.reduceEqDiff, Nat.reduceLT, true_or, or_true, reduceIte]; exact hcc
  have tail0 : ∀ (v5 : Int32) (τ5 : St), τ5 67 56 = op → ¬ op < 23 → Mo_step_B334 67 v5 τ5 = some (-1, s2 τ5 93 0 v5) := by
    intro v5 τ5 h h2
    unfold Mo_step_B334 Mo_step_B349
    rw [h, if_pos h23, if_pos (by rw [le_nlt]; exact h2), cc_67_36, sa_L 0 0 rfl (by decide) (by decide)]
  have b202 : Mo_step_B202 67 (nI (256 + p)) (nI (e - p)) 67 (τ 67 39) 0 (s2 τ2 94 0 (τ 94 0 + 1)) = if ¬ op = 22 then (if op = 24 then Mo_step_B253 67 (nI (256 + e)) (nI (256 + e) + τ4 67 61) τ4 else if ¬ op = 26 then Mo_step_B253 67 (nI (256 + e)) (nI (256 + e)) τ4 else Mo_step_B253 67 (nI (256 + e)) (nI (256 + e) + τ4 67 61) τ4) else some (1, τ4) := by
    unfold Mo_step_B202
    rw [nm_of, hτ4, nm_of, eb, N4.1]
    rfl
  have h7 : σ1 7 2 = nI n := by rw [s1 7 (by decide) (by decide)]; exact c2
  have h9 : σ1 9 = σ 9 := s1 9 (by decide) (by decide)
  have hc1 : ¬ σ1 53 0 = 2 := by rw [s1 53 (by decide) (by decide)]; exact ac
  have h50 : σ1 52 5 = 0 := V2.2.2.2.2.2.2.1 rfl
  by_cases c24 : op < 24
  · rw [if_pos c24]
    have hop : opF op fm := by
      rcases hF with k | k | ⟨k, _⟩ | ⟨k, _⟩
      · exact k
      · exact absurd k h23
      · exfalso; rcases k with rfl | rfl | rfl <;> exact absurd c24 (by decide)
      · exfalso; rcases k with rfl | rfl <;> exact absurd c24 (by decide)
    have P : PW op fm r x := ⟨hop, hW.2.2.1, hW.2.2.2.1, hW.2.2.2.2.1⟩
    have n26 : ¬ op = 26 := ne_lt c24 (by decide)
    have n28 : ¬ op = 28 := ne_lt c24 (by decide)
    have n24 : ¬ op = 24 := ne_lt c24 (by decide)
    have n25 : ¬ op = 25 := ne_lt c24 (by decide)
    have n27 : ¬ op = 27 := ne_lt c24 (by decide)
    have hw := m_wants V2 N2 hW.2.2.2.2.1 ⟨h23, n26, n28⟩
    have cperf : Machine_perform 52 14 σ1 = Machine_perform_B30 52 14 (atA σ1 54 fm x d) σ1 := by
      unfold Machine_perform
      rw [c_uk h50 hc1, cl_of, if_pos rfl, I1.2.1, hmf_eq, cl_of]
      by_cases cm : memF fm
      · rw [if_pos cm, if_neg (by decide), c_addr hM, cl_of, I1.2.2.2.1, I1.2.2.2.2.1, atA_m cm]
      · rw [if_neg cm, if_pos rfl, atA_n cm]
    by_cases hl : lk op fm (σ1 54 4) (atA σ1 54 fm x d)
    · have n22 : ¬ op = 22 := by
        intro e22
        rcases hl with ⟨k, _⟩ | ⟨k, _⟩ | ⟨_, _, k, _⟩
        · rw [e22] at k; exact absurd k (by decide)
        · rw [e22] at k; exact absurd k (by decide)
        · have f0 : fm = 0 := by
            rcases hop with ⟨_, q, _⟩ | ⟨q, _⟩ | ⟨q, _⟩ | ⟨q, _⟩ | ⟨q, _⟩ | ⟨q, _⟩ | ⟨q, _⟩ | ⟨q, _⟩ | ⟨_, q⟩
            · rw [e22] at q; exact absurd q (by decide)
            · rw [e22] at q; exact absurd q (by decide)
            · rw [e22] at q; exact absurd q (by decide)
            · rw [e22] at q; exact absurd q (by decide)
            · rw [e22] at q; exact absurd q (by decide)
            · rw [e22] at q; exact absurd q (by decide)
            · rw [e22] at q; exact absurd q (by decide)
            · rw [e22] at q; exact absurd q (by decide)
            · exact q
          rw [f0] at k; exact absurd k (by decide)
      have cb : Machine_perform_B30 52 14 (atA σ1 54 fm x d) σ1 = some (3, σ1) := by
        unfold Machine_perform_B30
        rw [c_lacks hM I1, if_pos hl, cl_of, if_neg (by decide)]
      rw [if_neg n22, cperf, cb, cl_of, if_pos (by decide), nm_of, if_neg (by decide), if_pos (by decide), mstep, hw, if_pos hl, cl_of, if_neg (by decide)]
      refine ⟨3, _, _, rfl, rfl, rs_mk S ?_ ?_ ?_ ?_ ?_ X2 ?_ ?_ ?_ ?_ ?_, X2, fun h => absurd h (by decide), Or.inr (by decide)⟩
      · exact vr_c V2 (s2_ne (by decide)) (s2_ne (by decide)) (s2_ne (by decide)) (by rw [s2_row, upd_ne (by decide)])
      · obtain ⟨ic, k, oc, y1, y2, y3, y4, y5, y6, y7, y8, y9, y10, y11⟩ := hI
        refine ⟨ic, k, oc, y1, y2, y3, ?_, ?_, ?_, ?_, ?_, ?_, ?_, ?_⟩
        · simp only [s2_ne, s2_at, up_ne, up_at, ne_eq, not_false_eq_true, not_true_eq_false, if_true, if_false, Nat.reduceEqDiff, Nat.reduceLT, true_or, or_true, reduceIte]; rw [i52]; exact y4
        · rw [t2f 29 (by decide)]; exact y5
        · simp only [s2_ne, s2_at, up_ne, up_at, ne_eq, not_false_eq_true, not_true_eq_false, if_true, if_false, Nat.reduceEqDiff, Nat.reduceLT, true_or, or_true, reduceIte]; rw [i52]; exact y6
        · rw [t2f 41 (by decide)]; exact y7
        · simp only [s2_ne, s2_at, up_ne, up_at, ne_eq, not_false_eq_true, not_true_eq_false, if_true, if_false, Nat.reduceEqDiff, Nat.reduceLT, true_or, or_true, reduceIte]; rw [i52]; exact y8
        · rw [t2c 92 (by decide)]; exact y9
        · intro j hj; simp only [s2_ne, s2_at, up_ne, up_at, ne_eq, not_false_eq_true, not_true_eq_false, if_true, if_false, Nat.reduceEqDiff, Nat.reduceLT, true_or, or_true, reduceIte]; rw [s1 56 (by decide) (by decide), t2c 86 (by decide)]; exact y10 j hj
        · intro j hj; simp only [s2_ne, s2_at, up_ne, up_at, ne_eq, not_false_eq_true, not_true_eq_false, if_true, if_false, Nat.reduceEqDiff, Nat.reduceLT, true_or, or_true, reduceIte]; rw [s1 57 (by decide) (by decide), t2c 91 (by decide)]; exact y11 j hj
      · simp only [s2_ne, s2_at, up_ne, up_at, ne_eq, not_false_eq_true, not_true_eq_false, if_true, if_false, Nat.reduceEqDiff, Nat.reduceLT, true_or, or_true, reduceIte]; exact s1 7 (by decide) (by decide)
      · simp only [s2_ne, s2_at, up_ne, up_at, ne_eq, not_false_eq_true, not_true_eq_false, if_true, if_false, Nat.reduceEqDiff, Nat.reduceLT, true_or, or_true, reduceIte]; exact s1 8 (by decide) (by decide)
      · simp only [s2_ne, s2_at, up_ne, up_at, ne_eq, not_false_eq_true, not_true_eq_false, if_true, if_false, Nat.reduceEqDiff, Nat.reduceLT, true_or, or_true, reduceIte]; exact s1 9 (by decide) (by decide)
      · simp only [s2_ne, s2_at, up_ne, up_at, ne_eq, not_false_eq_true, not_true_eq_false, if_true, if_false, Nat.reduceEqDiff, Nat.reduceLT, true_or, or_true, reduceIte]; rw [t2c 93 (by decide), ← a1, hA]
      · simp only [s2_ne, s2_at, up_ne, up_at, ne_eq, not_false_eq_true, not_true_eq_false, if_true, if_false, Nat.reduceEqDiff, Nat.reduceLT, true_or, or_true, reduceIte]; rw [i52, t2c 94 (by decide)]; exact a2
      · simp only [s2_ne, s2_at, up_ne, up_at, ne_eq, not_false_eq_true, not_true_eq_false, if_true, if_false, Nat.reduceEqDiff, Nat.reduceLT, true_or, or_true, reduceIte]; rw [i52, t2f 39 (by decide)]; exact a4
      · simp only [s2_ne, s2_at, up_ne, up_at, ne_eq, not_false_eq_true, not_true_eq_false, if_true, if_false, Nat.reduceEqDiff, Nat.reduceLT, true_or, or_true, reduceIte]; rw [i52]; exact a6
      · simp only [s2_ne, s2_at, up_ne, up_at, ne_eq, not_false_eq_true, not_true_eq_false, if_true, if_false, Nat.reduceEqDiff, Nat.reduceLT, true_or, or_true, reduceIte]; exact hc1
    · rw [mgo none (by rw [hw, if_neg hl]), b202]
      by_cases e22 : op = 22
      · rw [if_pos e22, if_neg (not_not_intro e22), c_144 hn h7 hp (by rw [h9]; exact hm)]
        refine ⟨1, _, _, rfl, rfl, rs_mk S ?_ ?_ ?_ ?_ ?_ X4 ?_ ?_ ?_ ?_ ?_, X4, fun h => absurd h (by decide), Or.inr (by decide)⟩
        · refine vr_c V4 ?_ ?_ ?_ ?_
          all_goals simp only [s2_ne, s2_at, up_ne, up_at, ne_eq, not_false_eq_true, not_true_eq_false, if_true, if_false, Nat.reduceEqDiff, Nat.reduceLT, true_or, or_true, reduceIte]
        · obtain ⟨ic, k, oc, y1, y2, y3, y4, y5, y6, y7, y8, y9, y10, y11⟩ := hI
          refine ⟨ic, k, oc, y1, y2, y3, ?_, ?_, ?_, ?_, ?_, ?_, ?_, ?_⟩
          · simp only [s2_ne, s2_at, up_ne, up_at, ne_eq, not_false_eq_true, not_true_eq_false, if_true, if_false, Nat.reduceEqDiff, Nat.reduceLT, true_or, or_true, reduceIte]; rw [i52]; exact y4
          · rw [t4f 29 (by decide), t2f 29 (by decide)]; exact y5
          · simp only [s2_ne, s2_at, up_ne, up_at, ne_eq, not_false_eq_true, not_true_eq_false, if_true, if_false, Nat.reduceEqDiff, Nat.reduceLT, true_or, or_true, reduceIte]; rw [i52]; exact y6
          · rw [t4f 41 (by decide), t2f 41 (by decide)]; exact y7
          · simp only [s2_ne, s2_at, up_ne, up_at, ne_eq, not_false_eq_true, not_true_eq_false, if_true, if_false, Nat.reduceEqDiff, Nat.reduceLT, true_or, or_true, reduceIte]; rw [i52]; exact y8
          · rw [t4c 92 (by decide) (by decide)]; exact y9
          · intro j hj; simp only [s2_ne, s2_at, up_ne, up_at, ne_eq, not_false_eq_true, not_true_eq_false, if_true, if_false, Nat.reduceEqDiff, Nat.reduceLT, true_or, or_true, reduceIte]; rw [s1 56 (by decide) (by decide), t4c 86 (by decide) (by decide)]; exact y10 j hj
          · intro j hj; simp only [s2_ne, s2_at, up_ne, up_at, ne_eq, not_false_eq_true, not_true_eq_false, if_true, if_false, Nat.reduceEqDiff, Nat.reduceLT, true_or, or_true, reduceIte]; rw [s1 57 (by decide) (by decide), t4c 91 (by decide) (by decide)]; exact y11 j hj
        · simp only [s2_ne, s2_at, up_ne, up_at, ne_eq, not_false_eq_true, not_true_eq_false, if_true, if_false, Nat.reduceEqDiff, Nat.reduceLT, true_or, or_true, reduceIte]; exact s1 7 (by decide) (by decide)
        · simp only [s2_ne, s2_at, up_ne, up_at, ne_eq, not_false_eq_true, not_true_eq_false, if_true, if_false, Nat.reduceEqDiff, Nat.reduceLT, true_or, or_true, reduceIte]; exact s1 8 (by decide) (by decide)
        · simp only [s2_ne, s2_at, up_ne, up_at, ne_eq, not_false_eq_true, not_true_eq_false, if_true, if_false, Nat.reduceEqDiff, Nat.reduceLT, true_or, or_true, reduceIte]; exact s1 9 (by decide) (by decide)
        · simp only [s2_ne, s2_at, up_ne, up_at, ne_eq, not_false_eq_true, not_true_eq_false, if_true, if_false, Nat.reduceEqDiff, Nat.reduceLT, true_or, or_true, reduceIte]; rw [i52, t4c 93 (by decide) (by decide), ← a1]
        · simp only [s2_ne, s2_at, up_ne, up_at, ne_eq, not_false_eq_true, not_true_eq_false, if_true, if_false, Nat.reduceEqDiff, Nat.reduceLT, true_or, or_true, reduceIte]; rw [i52, t494, a2]
        · simp only [s2_ne, s2_at, up_ne, up_at, ne_eq, not_false_eq_true, not_true_eq_false, if_true, if_false, Nat.reduceEqDiff, Nat.reduceLT, true_or, or_true, reduceIte]; rw [i52, t49, a4]
        · simp only [s2_ne, s2_at, up_ne, up_at, ne_eq, not_false_eq_true, not_true_eq_false, if_true, if_false, Nat.reduceEqDiff, Nat.reduceLT, true_or, or_true, reduceIte]; rw [i52]; exact a6
        · simp only [s2_ne, s2_at, up_ne, up_at, ne_eq, not_false_eq_true, not_true_eq_false, if_true, if_false, Nat.reduceEqDiff, Nat.reduceLT, true_or, or_true, reduceIte]; exact hc1
      · rw [if_neg e22, if_pos e22, if_neg n24, if_pos n26, cperf]
        obtain ⟨σ2, τ5, p1, p2, p3, p4, p5, p6⟩ := v_does hM h14 V4 I1 N4 P e22 hl
        have q5 : τ5 67 56 = op := by rw [p5.2.1 56 (by decide)]; exact N4.1
        have mref : Mo_step_B253 67 (nI (256 + e)) (nI (256 + e)) τ4 = some (-1, s2 τ5 93 0 (nI (256 + e))) := by
          unfold Mo_step_B253 Mo_step_B282 Mo_step_B310 Mo_step_B334 Mo_step_B349
          rw [N4.1, if_pos n25, if_neg n27, if_pos n28, if_neg n26, if_pos n28, if_pos h23, if_neg (by
            rw [le_nlt]; refine not_not_intro ?_
            exact Int32.lt_iff_toInt_lt.mpr (by
              have z1 := Int32.lt_iff_toInt_lt.mp c24
              have z2 : ¬ op.toInt = (23 : Int32).toInt := fun k => h23 (Int32.toInt_inj.mp k)
              have e1 : (24 : Int32).toInt = 24 := rfl
              have e2 : (23 : Int32).toInt = 23 := rfl
              omega)), p2, cv_of, cc_67_36, sa_L 0 0 rfl (by decide) (by decide)]
        have cc : ∀ c, c ≠ 52 → c ≠ 53 → c ≠ 54 → c ≠ 55 → c ≠ 13 → c ≠ 14 → σ2 c = σ c := fun c z1 z2 z3 z4 z5 z6 => by rw [p4.1 c z1 z2 z3 z4]; exact s1 c z5 z6
        have ck : ∀ k, k ≠ 5 → σ2 52 k = σ 52 k := fun k hk => by rw [p4.2 k hk, i52]
        rw [p1, cl_of, if_neg (by decide), nm_of, if_pos rfl, c_144 (n := n) hn (by rw [s2_ne (by decide), cc 7 (by decide) (by decide) (by decide) (by decide) (by decide) (by decide)]; exact c2) hp (by rw [s2_ne (by decide), cc 9 (by decide) (by decide) (by decide) (by decide) (by decide) (by decide)]; exact hm), mref]
        simp only [s2_row, upd_ne (show (2 : Nat) ≠ 1 by decide), upd_ne (show (4 : Nat) ≠ 1 by decide), ck 2 (by decide), ck 4 (by decide)]
        have S2 := back σ2 τ5 (nI (256 + e)) p3 cc ck (p6 hc1) (fx_tr X4 (fx_fr p5)) (by rw [p5.2.1 29 (by decide), t4f 29 (by decide), t2f 29 (by decide)]) (by rw [p5.2.1 41 (by decide), t4f 41 (by decide), t2f 41 (by decide)]) (by rw [p5.1 92 (by decide) (by decide) (by decide) (by decide), t4c 92 (by decide) (by decide)]) (by rw [p5.1 86 (by decide) (by decide) (by decide) (by decide), t4c 86 (by decide) (by decide)]) (by rw [p5.1 91 (by decide) (by decide) (by decide) (by decide), t4c 91 (by decide) (by decide)]) (by rw [p5.1 94 (by decide) (by decide) (by decide) (by decide), t494]) (by rw [p5.2.1 39 (by decide), t49])
        refine ⟨-1, _, _, rfl, rfl, S2, fx_tr (fx_tr X4 (fx_fr p5)) (fx_s (by simp)), fun _ => ⟨?_, ?_⟩, Or.inl rfl⟩
        · simp only [s2_ne, s2_at, up_ne, up_at, ne_eq, not_false_eq_true, not_true_eq_false, if_true, if_false, Nat.reduceEqDiff, Nat.reduceLT, true_or, or_true, reduceIte]
          refine sf_next hn hC hB ?_ ?_ hp heb hsu ?_
          · simp only [s2_ne, s2_at, up_ne, up_at, ne_eq, not_false_eq_true, not_true_eq_false, if_true, if_false, Nat.reduceEqDiff, Nat.reduceLT, true_or, or_true, reduceIte]; exact cc 8 (by decide) (by decide) (by decide) (by decide) (by decide) (by decide)
          · simp only [s2_ne, s2_at, up_ne, up_at, ne_eq, not_false_eq_true, not_true_eq_false, if_true, if_false, Nat.reduceEqDiff, Nat.reduceLT, true_or, or_true, reduceIte]; exact cc 9 (by decide) (by decide) (by decide) (by decide) (by decide) (by decide)
          · intro z4 z5 z6
            have hR := hW.2.2.1 (by rw [z5]; decide)
            obtain ⟨j, hj, ej⟩ := to_nI (m := 8) hR.1 8 rfl (by decide) hR.2
            have nm5 : ¬ memF fm := by rw [z5]; decide
            rw [atA_n nm5] at p1
            rw [z4, z5, z6, ej] at I1
            have := c_and hM h14 V4 hj I1 p1
            unfold rgv
            rw [if_pos hR, ej, nI_clamp (by omega)]
            simp only [s2_ne, s2_at, up_ne, up_at, ne_eq, not_false_eq_true, not_true_eq_false, if_true, if_false, Nat.reduceEqDiff, Nat.reduceLT, true_or, or_true, reduceIte]
            rw [this]
            exact al_and _
        · simp only [s2_ne, s2_at, up_ne, up_at, ne_eq, not_false_eq_true, not_true_eq_false, if_true, if_false, Nat.reduceEqDiff, Nat.reduceLT, true_or, or_true, reduceIte]
  · rw [if_neg c24]
    have n22 : ¬ op = 22 := fun k => c24 (by rw [k]; decide)
    have n23 : ¬ op < 23 := fun k => c24 (lt_of k (by decide))
    have n19 : ¬ op = 19 := fun k => c24 (by rw [k]; decide)
    have n20 : ¬ op = 20 := fun k => c24 (by rw [k]; decide)
    have n10 : ¬ op = 10 := fun k => c24 (by rw [k]; decide)
    have tg : (op = 24 ∨ op = 25 ∨ op = 26) → tgt n (σ 9) (nI (256 + e) + i) := by
      intro k
      have := hC.2.2.2.2 p (by omega) hp hm op fm r x d i e hd k
      rw [show (256 : Int32) + nI p = nI (256 + p) from nI_add 256 p, eb] at this
      exact this
    -- the end of a step that goes elsewhere
    have fin : ∀ (σ2 τ5 : St) (A : Int32), Vr 52 53 54 55 0 σ2 τ5 → (∀ c, c ≠ 52 → c ≠ 53 → c ≠ 54 → c ≠ 55 → c ≠ 13 → c ≠ 14 → σ2 c = σ c) → (∀ k, k ≠ 5 → σ2 52 k = σ 52 k) → ¬ σ2 53 0 = 2 → FR 0 τ4 τ5 → (∀ σ3 : St, σ3 8 = σ 8 → σ3 9 = σ 9 → σ3 54 = σ2 54 → SfA n σ3 A) → StP n σ τ (if (-1 : Int32) = -1 then Runner_step_B144 64 (nI p) (-1) (s2 σ2 52 1 A) else if ¬ (-1 : Int32) = 1 then some (-1, s2 σ2 52 1 A) else Runner_step_B144 64 (nI p) (-1) (s2 σ2 52 1 A)) (some (-1, s2 τ5 93 0 A)) := by
      intro σ2 τ5 A p3 cc ck pc p5 hS
      rw [if_pos rfl, c_144 (n := n) hn (by rw [s2_ne (by decide), cc 7 (by decide) (by decide) (by decide) (by decide) (by decide) (by decide)]; exact c2) hp (by rw [s2_ne (by decide), cc 9 (by decide) (by decide) (by decide) (by decide) (by decide) (by decide)]; exact hm)]
      simp only [s2_row, upd_ne (show (2 : Nat) ≠ 1 by decide), upd_ne (show (4 : Nat) ≠ 1 by decide), ck 2 (by decide), ck 4 (by decide)]
      have S2 := back σ2 τ5 A p3 cc ck pc (fx_tr X4 (fx_fr p5)) (by rw [p5.2.1 29 (by decide), t4f 29 (by decide), t2f 29 (by decide)]) (by rw [p5.2.1 41 (by decide), t4f 41 (by decide), t2f 41 (by decide)]) (by rw [p5.1 92 (by decide) (by decide) (by decide) (by decide), t4c 92 (by decide) (by decide)]) (by rw [p5.1 86 (by decide) (by decide) (by decide) (by decide), t4c 86 (by decide) (by decide)]) (by rw [p5.1 91 (by decide) (by decide) (by decide) (by decide), t4c 91 (by decide) (by decide)]) (by rw [p5.1 94 (by decide) (by decide) (by decide) (by decide), t494]) (by rw [p5.2.1 39 (by decide), t49])
      refine ⟨-1, _, _, rfl, rfl, S2, fx_tr (fx_tr X4 (fx_fr p5)) (fx_s (by simp)), fun _ => ⟨?_, ?_⟩, Or.inl rfl⟩
      · have e1 : (s2 (s2 (s2 σ2 52 1 A) 52 2 (σ 52 2 + 1)) 52 4 (σ 52 4 + 0)) 52 1 = A := by simp only [s2_ne, s2_at, up_ne, up_at, ne_eq, not_false_eq_true, not_true_eq_false, if_true, if_false, Nat.reduceEqDiff, Nat.reduceLT, true_or, or_true, reduceIte]
        rw [e1]
        refine hS _ ?_ ?_ ?_
        · simp only [s2_ne, s2_at, up_ne, up_at, ne_eq, not_false_eq_true, not_true_eq_false, if_true, if_false, Nat.reduceEqDiff, Nat.reduceLT, true_or, or_true, reduceIte]; exact cc 8 (by decide) (by decide) (by decide) (by decide) (by decide) (by decide)
        · simp only [s2_ne, s2_at, up_ne, up_at, ne_eq, not_false_eq_true, not_true_eq_false, if_true, if_false, Nat.reduceEqDiff, Nat.reduceLT, true_or, or_true, reduceIte]; exact cc 9 (by decide) (by decide) (by decide) (by decide) (by decide) (by decide)
        · simp only [s2_ne, s2_at, up_ne, up_at, ne_eq, not_false_eq_true, not_true_eq_false, if_true, if_false, Nat.reduceEqDiff, Nat.reduceLT, true_or, or_true, reduceIte]
      · simp only [s2_ne, s2_at, up_ne, up_at, ne_eq, not_false_eq_true, not_true_eq_false, if_true, if_false, Nat.reduceEqDiff, Nat.reduceLT, true_or, or_true, reduceIte]
    have c1 : ∀ c, c ≠ 52 → c ≠ 53 → c ≠ 54 → c ≠ 55 → c ≠ 13 → c ≠ 14 → σ1 c = σ c := fun c _ _ _ _ z5 z6 => s1 c z5 z6
    have hop5 : op = 24 ∨ op = 25 ∨ op = 26 ∨ op = 27 ∨ op = 28 := by
      rcases hF with k | k | ⟨k, _⟩ | ⟨k, _⟩
      · exfalso; exact c24 (lt_of (opF_op k).1.2 (by decide))
      · exact absurd k h23
      · rcases k with k | k | k
        · exact Or.inl k
        · exact Or.inr (Or.inl k)
        · exact Or.inr (Or.inr (Or.inl k))
      · rcases k with k | k
        · exact Or.inr (Or.inr (Or.inr (Or.inl k)))
        · exact Or.inr (Or.inr (Or.inr (Or.inr k)))
    have f8 : (op = 24 ∨ op = 25 ∨ op = 26) → fm = 8 := by
      intro k
      rcases hF with q | q | ⟨_, q⟩ | ⟨q, _⟩
      · exfalso; exact c24 (lt_of (opF_op q).1.2 (by decide))
      · exact absurd q h23
      · exact q
      · exfalso; rcases k with rfl | rfl | rfl <;> exact absurd q (by decide)
    have f1 : (op = 27 ∨ op = 28) → fm = 1 := hW.2.2.2.2.2.1
    have wants0 : ¬ op = 26 → ¬ op = 28 → Mo_wants 67 τ2 = some (0, τ2) := by
      intro k1 k2
      rw [m_wants V2 N2 hW.2.2.2.2.1 ⟨h23, k1, k2⟩, if_neg]
      rintro (⟨q, _⟩ | ⟨q, _⟩ | ⟨_, _, q, _⟩)
      · exact n19 q
      · exact n20 q
      · rcases hop5 with k | k | k | k | k
        · rw [f8 (Or.inl k)] at q; exact absurd q (by decide)
        · rw [f8 (Or.inr (Or.inl k))] at q; exact absurd q (by decide)
        · exact k1 k
        · rw [f1 (Or.inl k)] at q; exact absurd q (by decide)
        · exact k2 k
    have wants1 : (op = 26 ∨ op = 28) → Mo_wants 67 τ2 = some (if inW (σ1 54 4 - 4) then 0 else 1, τ2) := by
      intro k
      have b27 : Mo_wants_B27 67 τ2 = some (if inW (σ1 54 4 - 4) then 0 else 1, τ2) := by
        unfold Mo_wants_B27
        rw [m_reg V2 r4, cl_of, rgv_4, mt_eq, cl_of]
        by_cases q : inW (σ1 54 4 - 4)
        · rw [if_pos q, if_pos q, if_pos (by decide)]
        · rw [if_neg q, if_neg q, if_neg (by decide)]
      unfold Mo_wants
      rw [b27, N2.1, if_neg n19]
      rcases k with k | k
      · rw [if_pos k]
      · rw [if_neg (by rw [k]; decide), if_neg (not_not_intro k)]
    -- DATA at a CALL
    have dat : ¬ inW (σ1 54 4 - 4) → (op = 26 ∨ op = 28) → StP n σ τ (cl (Runner_turnOff 64 14 (nI (256 + e)) σ1) fun x10 σ9 => if x10 = (-1) then Runner_step_B144 64 (nI p) x10 σ9 else if ¬ x10 = 1 then some (x10, σ9) else Runner_step_B144 64 (nI p) x10 σ9) (Mo_step 67 τ) := by
      intro q k
      have ct : Runner_turnOff 64 14 (nI (256 + e)) σ1 = some (3, σ1) := by
        unfold Runner_turnOff Runner_turnOff_B23
        rw [I1.1, cc_64_2, c_canPush hM, if_neg q, cl_of, if_neg (show ¬ (1 : Int32) = 0 by decide), if_neg (show ¬ ¬ (0 : Int32) = 0 by decide)]
        rcases k with k | k
        · rw [if_pos k]
        · rw [if_neg (by rw [k]; decide), if_neg (not_not_intro k)]
      rw [ct, cl_of, if_neg (by decide), if_pos (by decide), mstep, wants1 k, if_neg q, cl_of, if_neg (by decide)]
      refine ⟨3, _, _, rfl, rfl, rs_mk S ?_ ?_ (s1 7 (by decide) (by decide)) (s1 8 (by decide) (by decide)) h9 X2 ?_ ?_ ?_ ?_ hc1, X2, fun h => absurd h (by decide), Or.inr (by decide)⟩
      · exact V2
      · obtain ⟨ic, k, oc, y1, y2, y3, y4, y5, y6, y7, y8, y9, y10, y11⟩ := hI
        refine ⟨ic, k, oc, y1, y2, y3, ?_, ?_, ?_, ?_, ?_, ?_, ?_, ?_⟩
        · rw [i52]; exact y4
        · rw [t2f 29 (by decide)]; exact y5
        · rw [i52]; exact y6
        · rw [t2f 41 (by decide)]; exact y7
        · rw [i52]; exact y8
        · rw [t2c 92 (by decide)]; exact y9
        · intro j hj; rw [s1 56 (by decide) (by decide), t2c 86 (by decide)]; exact y10 j hj
        · intro j hj; rw [s1 57 (by decide) (by decide), t2c 91 (by decide)]; exact y11 j hj
      · rw [i52, t2c 93 (by decide)]; exact a1
      · rw [i52, t2c 94 (by decide)]; exact a2
      · rw [i52, t2f 39 (by decide)]; exact a4
      · rw [i52]; exact a6
    have i61 : hsI fm → τ4 67 61 = i := N4.2.2.2.2.2
    rcases hop5 with k | k | k | k | k
    · -- JUMP
      have h8 := f8 (Or.inl k)
      have ct : Runner_turnOff 64 14 (nI (256 + e)) σ1 = some (-1, s2 σ1 52 1 (nI (256 + e) + i)) := by
        unfold Runner_turnOff Runner_turnOff_B23 Runner_turnOff_B40 Runner_turnOff_B69 Runner_turnOff_B83
        rw [I1.1, I1.2.1, I1.2.2.2.2.2, cc_64_2, if_neg (by rw [k]; decide), if_pos (by rw [k]; decide), if_pos rfl, if_neg (not_not_intro h8), if_pos rfl, if_pos (by rw [k]; decide)]
        rfl
      have mr : Mo_step 67 τ = some (-1, s2 τ4 93 0 (nI (256 + e) + i)) := by
        rw [mgo none (wants0 (by rw [k]; decide) (by rw [k]; decide)), b202, if_pos n22, if_pos k, i61 (by rw [h8]; decide)]
        unfold Mo_step_B253 Mo_step_B282 Mo_step_B310
        rw [N4.1, if_pos (by rw [k]; decide), if_neg (by rw [k]; decide), if_pos (by rw [k]; decide), if_neg (by rw [k]; decide), if_pos (by rw [k]; decide), tail0 _ τ4 N4.1 n23]
      rw [ct, cl_of, mr]
      exact fin σ1 τ4 _ V4 c1 (fun k _ => i52 k) hc1 fr_rf (fun σ3 z8 z9 _ => sf_tgt hn (by rw [z9]; exact tg (Or.inl k)))
    · -- BRANCH
      have h8 := f8 (Or.inr (Or.inl k))
      obtain ⟨b, eh1, eh2, hb⟩ := v_holds V4 r
      have ct : Runner_turnOff 64 14 (nI (256 + e)) σ1 = some (-1, s2 σ1 52 1 (if b = 0 then nI (256 + e) else nI (256 + e) + i)) := by
        unfold Runner_turnOff Runner_turnOff_B23 Runner_turnOff_B40 Runner_turnOff_B69 Runner_turnOff_B83
        rw [I1.1, I1.2.1, I1.2.2.2.2.2, I1.2.2.1, cc_64_2, cc_52_0, if_neg (by rw [k]; decide), if_pos (by rw [k]; decide), if_pos rfl, if_neg (not_not_intro h8), if_pos rfl, if_neg (not_not_intro k), eh1, cl_of]
        rcases hb with rfl | rfl
        · rfl
        · rfl
      have mr : Mo_step 67 τ = some (-1, s2 τ4 93 0 (if b = 0 then nI (256 + e) else nI (256 + e) + i)) := by
        rw [mgo none (wants0 (by rw [k]; decide) (by rw [k]; decide)), b202, if_pos n22, if_neg (by rw [k]; decide), if_pos (by rw [k]; decide)]
        have r58 : τ4 67 58 = r := by rw [← hτ4, s2_row, upd_ne (by decide), s2_ne (by decide), ← hτ2]; unfold tkn; simp only [s2_ne, s2_at, up_ne, up_at, ne_eq, not_false_eq_true, not_true_eq_false, if_true, if_false, Nat.reduceEqDiff, Nat.reduceLT, true_or, or_true, reduceIte]
        have b282 : ∀ v, Mo_step_B282 67 (nI (256 + e)) v τ4 = some (-1, s2 τ4 93 0 v) := by
          intro v
          unfold Mo_step_B282 Mo_step_B310
          rw [N4.1, if_neg (by rw [k]; decide), if_pos (by rw [k]; decide), if_neg (by rw [k]; decide), if_pos (by rw [k]; decide), tail0 _ τ4 N4.1 n23]
        unfold Mo_step_B253
        rw [N4.1, if_neg (not_not_intro k), r58, eh2, cl_of, i61 (by rw [h8]; decide), b282, nm_of, b282]
        rcases hb with rfl | rfl
        · rw [if_pos rfl, if_pos rfl]
        · rw [if_neg (by decide), if_neg (by decide)]
      rw [ct, cl_of, mr]
      refine fin σ1 τ4 _ V4 c1 (fun k _ => i52 k) hc1 fr_rf (fun σ3 z8 z9 _ => ?_)
      by_cases zb : b = 0
      · rw [if_pos zb]
        exact sf_next hn hC hB z8 z9 hp heb hsu (fun z _ _ => by rw [k] at z; exact absurd z (by decide))
      · rw [if_neg zb]
        exact sf_tgt hn (by rw [z9]; exact tg (Or.inr (Or.inl k)))
    · -- CALL
      have h8 := f8 (Or.inr (Or.inr k))
      by_cases q : inW (σ1 54 4 - 4)
      · obtain ⟨σ2, τ5, e3, e4, V5, C5, R5, g5, m5, r5⟩ := v_push hM V4 q (nI (256 + e))
        have ct : Runner_turnOff 64 14 (nI (256 + e)) σ1 = some (-1, s2 σ2 52 1 (nI (256 + e) + i)) := by
          unfold Runner_turnOff Runner_turnOff_B23 Runner_turnOff_B40 Runner_turnOff_B69 Runner_turnOff_B83
          rw [I1.1, I1.2.1, I1.2.2.2.2.2, cc_64_2, if_pos k, if_neg (by decide), c_canPush hM, if_pos q, cl_of, if_pos (by decide), I1.2.1, I1.2.2.2.2.2, if_neg (not_not_intro h8), if_neg (by decide), e3, cv_of, (inst_c I1 (C5.1 14 h14.1 h14.2.1 h14.2.2.1 h14.2.2.2)).1, if_pos (by rw [k]; decide)]
          rfl
        have mr : Mo_step 67 τ = some (-1, s2 τ5 93 0 (nI (256 + e) + i)) := by
          rw [mgo none (by rw [wants1 (Or.inl k), if_pos q]), b202, if_pos n22, if_neg (by rw [k]; decide), if_neg (not_not_intro k), i61 (by rw [h8]; decide)]
          unfold Mo_step_B253 Mo_step_B282 Mo_step_B310
          rw [N4.1, if_pos (by rw [k]; decide), if_neg (by rw [k]; decide), if_pos (by rw [k]; decide), if_pos k, e4, cv_of, tail0 _ τ5 (by rw [R5.2.1 56 (by decide)]; exact N4.1) n23]
        rw [ct, cl_of, mr]
        exact fin σ2 τ5 _ V5 (fun c z1 z2 z3 z4 z5 z6 => by rw [C5.1 c z1 z2 z3 z4]; exact s1 c z5 z6) (fun k _ => by rw [m5]; exact i52 k) (by rw [g5]; exact hc1) R5 (fun σ3 z8 z9 _ => sf_tgt hn (by rw [z9]; exact tg (Or.inr (Or.inr k))))
      · exact dat q (Or.inl k)
    · -- GO
      have h1 := f1 (Or.inl k)
      have hR := hW.2.2.1 (by rw [h1]; decide)
      have hmk2 : σ 9 p = 2 := by rw [hmk, if_pos (Or.inl k)]
      have hal := hgo hmk2 op fm r x d i e hd
      have rs : rgv σ1 54 r = rgv σ 54 r := by unfold rgv; rw [s1 54 (by decide) (by decide)]
      have ct : Runner_turnOff 64 14 (nI (256 + e)) σ1 = some (-1, s2 σ1 52 1 (rgv σ 54 r)) := by
        unfold Runner_turnOff Runner_turnOff_B23 Runner_turnOff_B40 Runner_turnOff_B69 Runner_turnOff_B83
        rw [I1.1, I1.2.1, I1.2.2.1, cc_64_2, if_neg (by rw [k]; decide), if_pos (by rw [k]; decide), if_pos rfl, if_pos (by rw [h1]; decide), c_reg hM, cl_of, if_pos rfl, I1.1, if_pos (by rw [k]; decide), rs]
        rfl
      have mr : Mo_step 67 τ = some (-1, s2 τ4 93 0 (rgv σ 54 r)) := by
        rw [mgo none (wants0 (by rw [k]; decide) (by rw [k]; decide)), b202, if_pos n22, if_neg (by rw [k]; decide), if_pos (by rw [k]; decide)]
        unfold Mo_step_B253 Mo_step_B282
        rw [N4.1, if_pos (by rw [k]; decide), if_pos k, N4.2.2.1 (by rw [h1]; decide), m_reg V4 hR, cl_of, rs]
        unfold Mo_step_B310
        rw [N4.1, if_neg (by rw [k]; decide), if_pos (by rw [k]; decide), tail0 _ τ4 N4.1 n23]
      rw [ct, cl_of, mr]
      exact fin σ1 τ4 _ V4 c1 (fun k _ => i52 k) hc1 fr_rf (fun σ3 z8 z9 _ => sf_al hn (by rw [z8, z9]; exact hC) hal)
    · -- GOSUB
      have h1 := f1 (Or.inr k)
      have hR := hW.2.2.1 (by rw [h1]; decide)
      have hmk2 : σ 9 p = 2 := by rw [hmk, if_pos (Or.inr k)]
      have hal := hgo hmk2 op fm r x d i e hd
      have rs : rgv σ1 54 r = rgv σ 54 r := by unfold rgv; rw [s1 54 (by decide) (by decide)]
      by_cases q : inW (σ1 54 4 - 4)
      · obtain ⟨σ2, τ5, e3, e4, V5, C5, R5, g5, m5, r5⟩ := v_push hM V4 q (nI (256 + e))
        have ct : Runner_turnOff 64 14 (nI (256 + e)) σ1 = some (-1, s2 σ2 52 1 (rgv σ 54 r)) := by
          unfold Runner_turnOff Runner_turnOff_B23 Runner_turnOff_B40 Runner_turnOff_B69 Runner_turnOff_B83
          rw [I1.1, I1.2.1, I1.2.2.1, cc_64_2, if_neg (by rw [k]; decide), if_neg (not_not_intro k), if_neg (by decide), c_canPush hM, if_pos q, cl_of, if_pos (by decide), I1.2.1, I1.2.2.1, if_pos (by rw [h1]; decide), c_reg hM, cl_of, if_neg (by decide), e3, cv_of, (inst_c I1 (C5.1 14 h14.1 h14.2.1 h14.2.2.1 h14.2.2.2)).1, if_pos (by rw [k]; decide), rs]
          rfl
        have mr : Mo_step 67 τ = some (-1, s2 τ5 93 0 (rgv σ 54 r)) := by
          rw [mgo none (by rw [wants1 (Or.inr k), if_pos q]), b202, if_pos n22, if_neg (by rw [k]; decide), if_pos (by rw [k]; decide)]
          unfold Mo_step_B253 Mo_step_B282
          rw [N4.1, if_pos (by rw [k]; decide), if_neg (by rw [k]; decide), if_neg (not_not_intro k), N4.2.2.1 (by rw [h1]; decide), m_reg V4 hR, cl_of, rs]
          unfold Mo_step_B310
          rw [N4.1, if_neg (by rw [k]; decide), if_neg (not_not_intro k), e4, cv_of, tail0 _ τ5 (by rw [R5.2.1 56 (by decide)]; exact N4.1) n23]
        rw [ct, cl_of, mr]
        exact fin σ2 τ5 _ V5 (fun c z1 z2 z3 z4 z5 z6 => by rw [C5.1 c z1 z2 z3 z4]; exact s1 c z5 z6) (fun k _ => by rw [m5]; exact i52 k) (by rw [g5]; exact hc1) R5 (fun σ3 z8 z9 _ => sf_al hn (by rw [z8, z9]; exact hC) hal)
      · exact dat q (Or.inr k)
end
