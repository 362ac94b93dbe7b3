/-! ===== both sides build ===== -/
theorem rp_d {f f' c c' tl tl' : Int32} {s a b op fm r x d i pr lr ld ts top tfm tr tx td ti tpr tlr tlp tpr' tlr' tlp' : Nat → Int32}
    (h1 : ∀ k, 120 ≤ k → tpr' k = tpr k) (h2 : ∀ l, 40 ≤ l → tlr' l = tlr l) (h3 : ∀ l, 40 ≤ l → tlp' l = tlp l)
    (h : Rprog f f' c c' tl tl' s a b op fm r x d i pr lr ld ts top tfm tr tx td ti tpr tlr tlp) : Rprog f f' c c' tl tl' s a b op fm r x d i pr lr ld ts top tfm tr tx td ti tpr' tlr' tlp' := by
  obtain ⟨q1, q2, q3⟩ := h
  refine ⟨q1, q2, fun k => ?_⟩
  obtain ⟨m, T, pl, w1, w2, w3, w4, w5, w6, w7, w8, l1, l2⟩ := q3 k
  refine ⟨m, T, pl, w1, w2, w3, w4, w5, w6, w7, fun k hk => ?_, fun l hl => ?_, l2⟩
  · rw [h1 _ (by omega)]; exact w8 k hk
  · rw [h2 _ (by omega), h3 _ (by omega)]; exact l1 l hl
theorem R_flt {σ τ σ' τ' : St} (h : R σ τ) (hc : ∀ c, c ≠ 0 → c ≠ 15 → c ≠ 19 → ¬ (26 ≤ c ∧ c ≤ 32) → σ' c = σ c) (h0 : ∀ j, j ≠ 14 → j ≠ 15 → σ' 0 j = σ 0 j) (h15 : σ' 15 4 = σ 15 4) (tc : ∀ c, c ≠ 67 → ¬ (78 ≤ c ∧ c ≤ 83) → c ≠ 96 → τ' c = τ c) (t0 : ∀ j, j ≠ 0 → j ≠ 3 → j ≠ 4 → j ≠ 22 → j ≠ 25 → τ' 67 j = τ 67 j) (t78 : ∀ j, 120 ≤ j → τ' 78 j = τ 78 j) (t79 : ∀ l, 40 ≤ l → τ' 79 l = τ 79 l) (t80 : ∀ l, 40 ≤ l → τ' 80 l = τ 80 l) (e1 : σ' 0 14 = τ' 67 3) (e2 : σ' 0 15 = τ' 67 4) : R σ' τ' := by
  unfold R at h ⊢
  simp only [hc 1 (by decide) (by decide) (by decide) (by decide), hc 2 (by decide) (by decide) (by decide) (by decide), hc 7 (by decide) (by decide) (by decide) (by decide), hc 8 (by decide) (by decide) (by decide) (by decide), hc 9 (by decide) (by decide) (by decide) (by decide), hc 16 (by decide) (by decide) (by decide) (by decide), hc 17 (by decide) (by decide) (by decide) (by decide), hc 18 (by decide) (by decide) (by decide) (by decide), hc 20 (by decide) (by decide) (by decide) (by decide), hc 21 (by decide) (by decide) (by decide) (by decide), hc 22 (by decide) (by decide) (by decide) (by decide), hc 23 (by decide) (by decide) (by decide) (by decide), hc 24 (by decide) (by decide) (by decide) (by decide), hc 25 (by decide) (by decide) (by decide) (by decide), hc 33 (by decide) (by decide) (by decide) (by decide), hc 34 (by decide) (by decide) (by decide) (by decide), hc 35 (by decide) (by decide) (by decide) (by decide), hc 36 (by decide) (by decide) (by decide) (by decide), hc 37 (by decide) (by decide) (by decide) (by decide), hc 38 (by decide) (by decide) (by decide) (by decide), hc 39 (by decide) (by decide) (by decide) (by decide), hc 40 (by decide) (by decide) (by decide) (by decide), hc 41 (by decide) (by decide) (by decide) (by decide), hc 42 (by decide) (by decide) (by decide) (by decide), hc 43 (by decide) (by decide) (by decide) (by decide), hc 44 (by decide) (by decide) (by decide) (by decide), hc 45 (by decide) (by decide) (by decide) (by decide), hc 46 (by decide) (by decide) (by decide) (by decide), hc 48 (by decide) (by decide) (by decide) (by decide), hc 49 (by decide) (by decide) (by decide) (by decide), hc 50 (by decide) (by decide) (by decide) (by decide), hc 52 (by decide) (by decide) (by decide) (by decide), hc 53 (by decide) (by decide) (by decide) (by decide), hc 54 (by decide) (by decide) (by decide) (by decide), hc 55 (by decide) (by decide) (by decide) (by decide), hc 57 (by decide) (by decide) (by decide) (by decide), hc 58 (by decide) (by decide) (by decide) (by decide), hc 59 (by decide) (by decide) (by decide) (by decide), hc 60 (by decide) (by decide) (by decide) (by decide), hc 61 (by decide) (by decide) (by decide) (by decide), hc 63 (by decide) (by decide) (by decide) (by decide), tc 68 (by decide) (by decide) (by decide), tc 69 (by decide) (by decide) (by decide), tc 70 (by decide) (by decide) (by decide), tc 71 (by decide) (by decide) (by decide), tc 72 (by decide) (by decide) (by decide), tc 73 (by decide) (by decide) (by decide), tc 74 (by decide) (by decide) (by decide), tc 75 (by decide) (by decide) (by decide), tc 76 (by decide) (by decide) (by decide), tc 77 (by decide) (by decide) (by decide), tc 84 (by decide) (by decide) (by decide), tc 85 (by decide) (by decide) (by decide), tc 86 (by decide) (by decide) (by decide), tc 87 (by decide) (by decide) (by decide), tc 88 (by decide) (by decide) (by decide), tc 89 (by decide) (by decide) (by decide), tc 90 (by decide) (by decide) (by decide), tc 91 (by decide) (by decide) (by decide), tc 92 (by decide) (by decide) (by decide), tc 93 (by decide) (by decide) (by decide), tc 94 (by decide) (by decide) (by decide), tc 95 (by decide) (by decide) (by decide), t0 2 (by decide) (by decide) (by decide) (by decide) (by decide), t0 6 (by decide) (by decide) (by decide) (by decide) (by decide), t0 8 (by decide) (by decide) (by decide) (by decide) (by decide), t0 9 (by decide) (by decide) (by decide) (by decide) (by decide), t0 10 (by decide) (by decide) (by decide) (by decide) (by decide), t0 29 (by decide) (by decide) (by decide) (by decide) (by decide), t0 39 (by decide) (by decide) (by decide) (by decide) (by decide), t0 40 (by decide) (by decide) (by decide) (by decide) (by decide), t0 55 (by decide) (by decide) (by decide) (by decide) (by decide), h0 13 (by decide) (by decide), h15]
  exact ⟨h.1, ⟨e1, e2⟩, h.2.2.1, h.2.2.2.1, rp_d t78 t80 t79 h.2.2.2.2.1, h.2.2.2.2.2⟩
theorem wrk_hi {f g : Nat → Int32} {p k j : Nat} (h : j < k) : wrk f p g k (p + j) = g j := by unfold wrk; rw [if_pos (by omega), Nat.add_sub_cancel_left]
theorem wrk_lo {f g : Nat → Int32} {p k j : Nat} (h : j < p) : wrk f p g k j = f j := by unfold wrk; rw [if_neg (by omega)]
section
variable {m : Nat} {s a b s' a' b' lr ld tlr tlp : Nat → Int32} {pl : Nat → Nat}
theorem lnd_c (hs : ∀ k, k < m → s' k = s k ∧ a' k = a k ∧ b' k = b k) {q j w : Nat} (hq : q < m) : Lnd s' b' pl q j w ↔ Lnd s b pl q j w := by
  unfold Lnd
  rw [(hs q hq).1, (hs q hq).2.2]
theorem Lay_c (hs : ∀ k, k < m → s' k = s k ∧ a' k = a k ∧ b' k = b k) (h : Lay m s a b lr ld tlr tlp pl) : Lay m s' a' b' lr ld tlr tlp pl := by
  obtain ⟨h1, h2, h3, h4, h5⟩ := h
  refine ⟨h1, fun k hk y => ?_, fun q w j hq y => h3 q w j hq ((lnd_c hs hq).mp y), fun q hq => ?_, fun j hj => ?_⟩
  · rw [(hs k hk).1] at y
    rw [(hs k hk).2.1]
    exact h2 k hk y
  · rw [(hs q hq).1, (hs q hq).2.2]; exact h4 q hq
  · rcases h5 j hj with ⟨y1, y2⟩ | ⟨q, w, y1, y2, y3, y4⟩
    · exact Or.inl ⟨y1, fun q w hq y => y2 q w hq ((lnd_c hs hq).mp y)⟩
    · refine Or.inr ⟨q, w, y1, (lnd_c hs y1).mpr y2, y3, fun q' w' hq y => ?_⟩
      obtain ⟨z1, z2⟩ := y4 q' w' hq ((lnd_c hs hq).mp y)
      refine ⟨z1, fun k x1 x2 => ?_⟩
      have hw : w ≤ m := by
        rcases y2 with ⟨_, _, _, e⟩ | ⟨_, _, e⟩ <;> omega
      rw [(hs k (by omega)).1]
      exact z2 k x1 x2
end
/-- R behind a build that kept THE PROGRAM -/
theorem R_bld {σ τ σ' τ' : St} {m n T : Nat} {W : Nat → Int32} {pl : Nat → Nat} (h : R σ τ) (hm : m ≤ 120) (m1 : σ 15 4 = nI m) (m2 : τ 67 8 = nI m) (It : Itms 0 m (σ 16) (σ 17) (σ 18) (σ 20) (σ 21) (σ 22) (σ 23) (σ 24) (σ 25) (τ 71) (τ 72) (τ 73) (τ 74) (τ 75) (τ 76) (τ 77)) (hT : T < 1024) (hn : n ≤ 1024)
    (hB : ∀ j, BY (W j)) (hC : Cod W n (pol W n).2.2)
    (hc : ∀ c, c ≠ 0 → (c < 7 ∨ (15 < c ∧ c < 26) ∨ 45 < c) → c ≠ 52 → c ≠ 58 → c ≠ 19 → σ' c = σ c) (hc15 : σ' 15 4 = σ 15 4) (c13 : σ' 0 13 = 1) (c14 : σ' 0 14 = 0) (c15 : σ' 0 15 = -1) (c52 : ∀ j, j ≠ 6 → σ' 52 j = σ 52 j) (z52 : σ' 52 6 = 0) (c58 : ∀ j, j ≠ 6 → σ' 58 j = σ 58 j) (z58 : σ' 58 6 = 0)
    (k1 : σ' 7 2 = nI n) (k2 : Eqn n W (σ' 8)) (k3 : Eqn n (pol W n).2.2 (σ' 9)) (k4 : σ' 33 4 = nI m) (k5 : σ' 33 5 = nI T)
    (k6 : ∀ j, j < 120 → σ' 34 j = σ 16 j ∧ σ' 35 j = σ 17 j ∧ σ' 36 j = σ 18 j ∧ σ' 38 j = σ 20 j ∧ σ' 39 j = σ 21 j ∧ σ' 40 j = σ 22 j ∧ σ' 41 j = σ 23 j ∧ σ' 42 j = σ 24 j ∧ σ' 43 j = σ 25 j) (k7 : ∀ j, j < m → σ' 37 j = nI (pl j) ∧ τ' 78 (120 + j) = nI (pl j) ∧ pl j < 1024)
    (tc : ∀ c, c ≠ 67 → (c < 69 ∨ (83 < c ∧ c < 96)) → c ≠ 87 → c ≠ 81 → τ' c = τ c) (t71 : ∀ c, 71 ≤ c → c ≤ 77 → τ' c = wrk (τ c) 120 (τ c) m)
    (z0 : τ' 87 0 = 0) (z1 : τ' 87 1 = 0) (u1 : Eqn n W (τ' 69)) (u2 : Eqn n (pol W n).2.2 (τ' 70)) (u3 : τ' 67 3 = 0) (u4 : τ' 67 4 = -1) (u6 : τ' 67 6 = nI n) (u9 : τ' 67 9 = nI m) (u10 : τ' 67 10 = 1) (u55 : τ' 67 55 = nI T)
    (t0 : ∀ j, j ≠ 0 → j ≠ 3 → j ≠ 4 → j ≠ 6 → j ≠ 9 → j ≠ 10 → j ≠ 22 → j ≠ 25 → j ≠ 55 → (j < 43 ∨ 53 < j) → τ' 67 j = τ 67 j)
    (L : Lay m (σ 16) (σ 17) (σ 18) (σ' 44) (σ' 45) (τ' 80) (τ' 79) pl) : R σ' τ' := by
  have lo : ∀ c, 71 ≤ c → c ≤ 77 → ∀ k, k < m → τ' c (0 + k) = τ c (0 + k) := fun c x1 x2 k hk => by rw [t71 c x1 x2, wrk_lo (by omega)]
  have hi : ∀ c, 71 ≤ c → c ≤ 77 → ∀ k, k < m → τ' c (120 + k) = τ c (0 + k) := fun c x1 x2 k hk => by rw [t71 c x1 x2, wrk_hi hk, Nat.zero_add]
  unfold R at h ⊢
  simp only [hc 1 (by decide) (by decide) (by decide) (by decide) (by decide), hc 2 (by decide) (by decide) (by decide) (by decide) (by decide), hc 16 (by decide) (by decide) (by decide) (by decide) (by decide), hc 17 (by decide) (by decide) (by decide) (by decide) (by decide), hc 18 (by decide) (by decide) (by decide) (by decide) (by decide), hc 20 (by decide) (by decide) (by decide) (by decide) (by decide), hc 21 (by decide) (by decide) (by decide) (by decide) (by decide), hc 22 (by decide) (by decide) (by decide) (by decide) (by decide), hc 23 (by decide) (by decide) (by decide) (by decide) (by decide), hc 24 (by decide) (by decide) (by decide) (by decide) (by decide), hc 25 (by decide) (by decide) (by decide) (by decide) (by decide), hc 46 (by decide) (by decide) (by decide) (by decide) (by decide), hc 48 (by decide) (by decide) (by decide) (by decide) (by decide), hc 49 (by decide) (by decide) (by decide) (by decide) (by decide), hc 50 (by decide) (by decide) (by decide) (by decide) (by decide), hc 53 (by decide) (by decide) (by decide) (by decide) (by decide), hc 54 (by decide) (by decide) (by decide) (by decide) (by decide), hc 55 (by decide) (by decide) (by decide) (by decide) (by decide), hc 57 (by decide) (by decide) (by decide) (by decide) (by decide), hc 59 (by decide) (by decide) (by decide) (by decide) (by decide), hc 60 (by decide) (by decide) (by decide) (by decide) (by decide), hc 61 (by decide) (by decide) (by decide) (by decide) (by decide), hc 63 (by decide) (by decide) (by decide) (by decide) (by decide), hc15, tc 68 (by decide) (by decide) (by decide) (by decide), tc 84 (by decide) (by decide) (by decide) (by decide), tc 85 (by decide) (by decide) (by decide) (by decide), tc 86 (by decide) (by decide) (by decide) (by decide), tc 88 (by decide) (by decide) (by decide) (by decide), tc 89 (by decide) (by decide) (by decide) (by decide), tc 90 (by decide) (by decide) (by decide) (by decide), tc 91 (by decide) (by decide) (by decide) (by decide), tc 92 (by decide) (by decide) (by decide) (by decide), tc 93 (by decide) (by decide) (by decide) (by decide), tc 94 (by decide) (by decide) (by decide) (by decide), tc 95 (by decide) (by decide) (by decide) (by decide), t0 2 (by decide) (by decide) (by decide) (by decide) (by decide) (by decide) (by decide) (by decide) (by decide) (by decide), t0 8 (by decide) (by decide) (by decide) (by decide) (by decide) (by decide) (by decide) (by decide) (by decide) (by decide), t0 29 (by decide) (by decide) (by decide) (by decide) (by decide) (by decide) (by decide) (by decide) (by decide) (by decide), t0 39 (by decide) (by decide) (by decide) (by decide) (by decide) (by decide) (by decide) (by decide) (by decide) (by decide), t0 40 (by decide) (by decide) (by decide) (by decide) (by decide) (by decide) (by decide) (by decide) (by decide) (by decide)]
  refine ⟨h.1, ⟨by rw [c14, u3], by rw [c15, u4]⟩, ⟨n, hn, k1, u6, fun j hj => by rw [← k2 j hj]; exact hB j, fun j hj => by rw [← k2 j hj, ← u1 j hj], fun j hj => by rw [← k3 j hj, ← u2 j hj], Or.inr (Cod_c k2 k3 hC)⟩, ⟨m, hm, m1, m2, fun k hk => ?_⟩, ⟨by rw [c13, u10], Or.inr c13, fun _ => ⟨m, T, pl, hm, k4, u9, hT, k5, u55, fun k hk => ?_, fun k hk => k7 k hk, Lay_c (fun k hk => ?_) L⟩⟩, h.2.2.2.2.2.1, ⟨⟨by rw [z52, z0], Or.inl z52, fun y => absurd (z52.symm.trans y) (by decide)⟩, ?_, ?_⟩, ⟨⟨by rw [z58, z1], Or.inl z58, fun y => absurd (z58.symm.trans y) (by decide)⟩, fun y => absurd (z58.symm.trans y) (by decide), ?_⟩⟩
  · rw [lo 71 (by decide) (by decide) k hk, lo 72 (by decide) (by decide) k hk, lo 73 (by decide) (by decide) k hk, lo 74 (by decide) (by decide) k hk, lo 75 (by decide) (by decide) k hk, lo 76 (by decide) (by decide) k hk, lo 77 (by decide) (by decide) k hk]
    exact It k hk
  · obtain ⟨q1, q2, q3, q4, q5, q6, q7, q8, q9⟩ := k6 k (by omega)
    rw [hi 71 (by decide) (by decide) k hk, hi 72 (by decide) (by decide) k hk, hi 73 (by decide) (by decide) k hk, hi 74 (by decide) (by decide) k hk, hi 75 (by decide) (by decide) k hk, hi 76 (by decide) (by decide) k hk, hi 77 (by decide) (by decide) k hk, q1, q2, q3, q4, q5, q6, q7, q8, q9]
    exact It k hk
  · obtain ⟨q1, q2, q3, _⟩ := k6 k (by omega)
    exact ⟨q1, q2, q3⟩
  · rw [c52 4 (by decide)]; exact h.2.2.2.2.2.2.1.2.1
  · rw [c52 5 (by decide)]; exact h.2.2.2.2.2.2.1.2.2
  · rw [c58 5 (by decide)]; exact h.2.2.2.2.2.2.2.2.2
theorem ts_build : TS (House_build 0) (Mo_build 67) := by
  intro σ τ h
  obtain ⟨m, hm, m1, m2, It⟩ := id h.2.2.2.1
  have D : MT0 m (σ 16) (σ 17) (σ 18) (σ 20) (σ 21) (σ 22) (σ 23) (σ 24) (σ 25) τ := ⟨hm, m2, It⟩
  have hI := bl_it D
  have hS := it_srt hI
  unfold House_build
  rw [cc_0_6, cc_0_3, cc_0_5, cc_0_7]
  rcases bl_head hm m1 D with ⟨f, j, σ1, τ1, hj, f0, f4, e1, e2, g1, e3, g2, g3, g4⟩ | ⟨lb, lg, jl, σ3, τ3, J, F, e1, e2, g1, g2, g3, g4, t1, t2, t3, t4, t5, t6, L⟩
  · have nz : ¬ nI f = 0 := fun y => absurd ((nI_inj (b := 0) (by omega) (by decide)).mp y) (by omega)
    have x14 : s2 (s2 σ1 0 14 (nI f)) 0 15 (nI j) 0 14 = nI f := by rw [s2_row, upd_ne (by decide), s2_row, upd_s]
    have x28 : s2 σ1 0 14 (nI f) 28 0 = nI j := by rw [s2_ne (by decide)]; exact e2
    rw [e1, cl_of, nm_of, x28, nm_of, x14, if_pos nz, e3]
    unfold Mo_faults
    rw [nm_of, nm_of, cl_of]
    have y3 : s2 (s2 τ1 67 3 (nI f)) 67 4 (nI j) 67 3 = nI f := by rw [s2_row, upd_ne (by decide), s2_row, upd_s]
    rw [y3]
    refine ⟨_, _, _, rfl, rfl, R_flt h (fun c x0 x1 x2 x3 => ?_) (fun j x1 x2 => ?_) ?_ (fun c x1 x2 x3 => ?_) (fun j x0 x1 x2 x3 x4 => ?_) (fun j hj => ?_) (fun l hl => ?_) (fun l hl => ?_) ?_ ?_⟩
    · rw [s2_ne x0, s2_ne x0, g1 c (by omega) (by omega)]
    · rw [s2_row, upd_ne x2, s2_row, upd_ne x1, g1 0 (by decide) (by decide)]
    · rw [s2_ne (by decide), s2_ne (by decide), g1 15 (by decide) (by decide)]
    · rw [s2_ne x1, s2_ne x1, g2 c x1 (by omega)]
    · rw [s2_row, upd_ne x2, s2_row, upd_ne x1, g3 j x0]
    · rw [s2_ne (by decide), s2_ne (by decide), g2 78 (by decide) (by decide)]
    · rw [s2_ne (by decide), s2_ne (by decide), g2 79 (by decide) (by decide)]
    · rw [s2_ne (by decide), s2_ne (by decide), g4 l hl]
    · rw [x14, y3]
    · rw [s2_row, upd_s, s2_row, upd_s]
  · obtain ⟨l1, l2, l3, l4, l5, l6, l7, l8⟩ := L
    have E : ELn m (σ 16) (σ 20) (σ 21) (σ 22) (σ 23) (σ 24) (σ 25) (elS σ) := fun k _ _ => rfl
    have H : LnO m (σ 16) (lnF (σ 16) (elS σ) lg) := lnF_O hS E (fun k hk => rfl)
    have hT : nx (σ 16) (σ 18) (lnF (σ 16) (elS σ) lg) m ≤ 7200 := by
      have := nx_le (b := σ 18) (fun k hk => ⟨(H k hk).1, (H k hk).2.1⟩) m (Nat.le_refl m)
      omega
    have B : Bld m (σ 16) (σ 17) (σ 18) (σ 20) (σ 21) (σ 22) (σ 23) (σ 24) (σ 25) lb (elS σ) (lnF (σ 16) (elS σ) lg) jl lg := ⟨hm, hI, E, fun k hk => rfl, J, fun k hk y1 y2 => Decidable.not_not.mp (fun y3 => l8 k hk ⟨y1, y2, y3⟩)⟩
    generalize hln : lnF (σ 16) (elS σ) lg = ln at *
    generalize hN : nx (σ 16) (σ 18) ln m / 16 * 16 + 16 = n
    have w := c_whole l2 (by omega)
    rw [hN] at w
    rw [e1, e2]
    unfold Builder_findFault_B89
    rw [w, cl_of, m_fin l4 (by omega) hN.symm]
    by_cases c : n ≤ 1024
    · have x28 : s2 σ3 0 14 0 28 0 = -1 := by rw [s2_ne (by decide)]; exact g3
      have x14 : s2 (s2 σ3 0 14 0) 0 15 (-1) 0 14 = 0 := by rw [s2_row, upd_ne (by decide), s2_row, upd_s]
      have o4 : ∀ c, c ≠ 0 → s2 (s2 σ3 0 14 0) 0 15 (-1) c = σ3 c := fun c hc => by rw [s2_ne hc, s2_ne hc]
      have Wc : CWr m (σ 16) (σ 17) (σ 18) (σ 20) (σ 21) (σ 22) (σ 23) (σ 24) (σ 25) lb (plc (σ 16) (σ 18) ln) ln (s2 (s2 σ3 0 14 0) 0 15 (-1)) := by
        unfold CWr
        rw [o4 15 (by decide), o4 16 (by decide), o4 17 (by decide), o4 18 (by decide), o4 19 (by decide), o4 20 (by decide), o4 21 (by decide), o4 22 (by decide), o4 23 (by decide), o4 24 (by decide), o4 25 (by decide), o4 26 (by decide), o4 32 (by decide), g2 4 (by decide)]
        exact ⟨hm, m1, g1 16 (by decide) (by decide) (by decide) (by decide), g1 17 (by decide) (by decide) (by decide) (by decide), g1 18 (by decide) (by decide) (by decide) (by decide), g1 20 (by decide) (by decide) (by decide) (by decide), g1 21 (by decide) (by decide) (by decide) (by decide), g1 22 (by decide) (by decide) (by decide) (by decide), g1 23 (by decide) (by decide) (by decide) (by decide), g1 24 (by decide) (by decide) (by decide) (by decide), g1 25 (by decide) (by decide) (by decide) (by decide), g4, l1, l3⟩
      obtain ⟨σ', p0, q1, q2, q3, q4, q5, q6, q7, q8, q9, q10, q11, q12, q13, q14, q15⟩ := c_tail B hN.symm c Wc (by rw [o4 15 (by decide)]; exact l2)
      have D3 : MT0 m (σ 16) (σ 17) (σ 18) (σ 20) (σ 21) (σ 22) (σ 23) (σ 24) (σ 25) τ3 := mt_c D (fun c x1 x2 => t1 c (by omega) (by omega) (by omega) (by omega)) (t2 8 (by decide) (by decide) (by decide))
      obtain ⟨τ', p1, r1, r2, r3, r4, r5, r6, r7, r8, r9, r10, r11, r12, r13, r14, r15⟩ := m_tail B hN.symm c D3 l7 l5 l6 l4
      have mf := m_fin l4 (by omega) hN.symm
      rw [if_pos c] at mf
      rw [if_pos (show nI n ≤ 1024 from (nI_le' (b := 1024) (by omega) (by decide)).mpr c), cl_of, nm_of, x28, nm_of, x14, if_neg (not_not_intro rfl), if_pos c, ← mf, p1, p0, x14]
      refine ⟨_, _, _, rfl, rfl, ?_⟩
      have hB : ∀ j, BY (wrA (σ 16) (σ 17) (σ 18) (σ 20) (σ 21) (σ 22) (σ 23) (σ 24) (σ 25) (plc (σ 16) (σ 18) ln) ln jl lg (flR (nx (σ 16) (σ 18) ln m)) m j) := fun j => bd_by j
      obtain ⟨cod, _⟩ := pol_ok (fun k _ => hB k) (bd_pol B hN.symm c)
      have ll := ld_lay (fun k hk => ⟨(H k hk).1, (H k hk).2.1, (H k hk).2.2.1, (H k hk).2.2.2.1⟩) (show nx (σ 16) (σ 18) ln m < 1024 by omega) q15
      have r78 : ∀ j, j < m → τ' 78 (120 + j) = nI (plc (σ 16) (σ 18) ln j) := fun j hj => by rw [r2 78 (by decide) (by decide), wrk_hi hj]; exact l5 j hj
      have lab : Lay m (σ 16) (σ 17) (σ 18) (σ' 44) (σ' 45) (τ' 80) (τ' 79) (plc (σ 16) (σ 18) ln) := by
        have q44 : ∀ l, l < 40 → σ' 44 l = lb l := fun l hl => by rw [q14 l hl, o4 26 (by decide), g4]
        refine ⟨fun l hl => ?_, fun k hk y => ?_, ll⟩
        · rw [r4, wrk_hi hl, t6 l hl, q44 l hl, r3, wrk_hi hl]
          refine ⟨rfl, ?_⟩
          rcases F l hl with ⟨y, _⟩ | ⟨j, _, y2, y3, y4, y5, _⟩
          · exact Or.inl y
          · refine Or.inr ⟨j, y2, y3, ?_⟩
            have := l6 j y2 y4
            rw [y5, nI_clamp (by omega)] at this
            exact this
        · obtain ⟨l, hl, ea, eb, ec, _⟩ := J k hk y
          rw [ea, nI_clamp (by omega), q44 l hl, eb]
          exact fun y => nI_pos (n := jl k) (by omega) (by rw [y]; decide)
      have top : ∀ k, k < m → plc (σ 16) (σ 18) ln k < 1024 := fun k hk => by
        have a1 := (sg (b := σ 18) H hk).2.1
        have a2 := nx_m (b := σ 18) H (show k + 1 ≤ m from hk) (Nat.le_refl m)
        omega
      refine R_bld (m := m) (n := n) h hm m1 m2 It (show nx (σ 16) (σ 18) ln m < 1024 by omega) c hB cod (fun c x0 x1 x2 x3 x4 => ?_) ?_ q3 ?_ ?_ (fun j hj => ?_) q5 (fun j hj => ?_) q7 q8 q9 q10 q11 q12 (fun j hj => ?_) (fun j hj => ⟨?_, r78 j hj, top j hj⟩) (fun c x0 x1 x2 x3 => ?_) (fun c x1 x2 => ?_) r5 r6 r7 r8 r9 r10 r11 r12 r13 r14 (fun j x0 x1 x2 x3 x4 x5 x6 x7 x8 x9 => ?_) lab
      · rw [q1 c x0 (by omega) x2 x3, o4 c x0, g1 c (by omega) x4 (by omega) (by omega)]
      · rw [q1 15 (by decide) (by decide) (by decide) (by decide), o4 15 (by decide), g2 4 (by decide)]
      · rw [q2 14 (by decide)]; exact x14
      · rw [q2 15 (by decide), s2_row, upd_s]
      · rw [q4 j hj, o4 52 (by decide), g1 52 (by decide) (by decide) (by decide) (by decide)]
      · rw [q6 j hj, o4 58 (by decide), g1 58 (by decide) (by decide) (by decide) (by decide)]
      · obtain ⟨v1, v2, v3, _, v5, v6, v7, v8, v9, v10⟩ := q13 j hj
        have ar : ∀ c, 16 ≤ c → c ≤ 25 → c ≠ 19 → s2 (s2 σ3 0 14 0) 0 15 (-1) c = σ c := fun c x1 x2 x3 => by rw [o4 c (by omega), g1 c (by omega) x3 (by omega) (by omega)]
        rw [v1, v2, v3, v5, v6, v7, v8, v9, v10, ar 16 (by decide) (by decide) (by decide), ar 17 (by decide) (by decide) (by decide), ar 18 (by decide) (by decide) (by decide), ar 20 (by decide) (by decide) (by decide), ar 21 (by decide) (by decide) (by decide), ar 22 (by decide) (by decide) (by decide), ar 23 (by decide) (by decide) (by decide), ar 24 (by decide) (by decide) (by decide), ar 25 (by decide) (by decide) (by decide)]
        exact ⟨rfl, rfl, rfl, rfl, rfl, rfl, rfl, rfl, rfl⟩
      · rw [(q13 j (by omega)).2.2.2.1, o4 19 (by decide)]; exact l1 j hj
      · rw [r1 c x0 (by omega) x2, t1 c x0 (by omega) (by omega) (by omega)]
      · rw [r2 c x1 (by omega), t1 c (by omega) (by omega) (by omega) (by omega)]
      · rw [r15 j x1 x2 x3 x4 x5 x7 x8 x9, t2 j x0 x6 x7]
    · have x28 : s2 σ3 0 14 4 28 0 = -1 := by rw [s2_ne (by decide)]; exact g3
      have x14 : s2 (s2 σ3 0 14 4) 0 15 (-1) 0 14 = 4 := by rw [s2_row, upd_ne (by decide), s2_row, upd_s]
      rw [if_neg (show ¬ nI n ≤ 1024 from fun y => c ((nI_le' (b := 1024) (by omega) (by decide)).mp y)), cl_of, nm_of, x28, nm_of, x14, if_pos (by decide), if_neg c]
      unfold Mo_faults
      rw [nm_of, nm_of, cl_of]
      have y3 : s2 (s2 τ3 67 3 4) 67 4 (-1) 67 3 = 4 := by rw [s2_row, upd_ne (by decide), s2_row, upd_s]
      rw [y3]
      refine ⟨_, _, _, rfl, rfl, R_flt h (fun c x0 x1 x2 x3 => ?_) (fun j x1 x2 => ?_) ?_ (fun c x1 x2 x3 => ?_) (fun j x0 x1 x2 x3 x4 => ?_) (fun j hj => ?_) (fun l hl => ?_) (fun l hl => ?_) ?_ ?_⟩
      · rw [s2_ne x0, s2_ne x0, g1 c x1 x2 (by omega) (by omega)]
      · rw [s2_row, upd_ne x2, s2_row, upd_ne x1, g1 0 (by decide) (by decide) (by decide) (by decide)]
      · rw [s2_ne (by decide), s2_ne (by decide), g2 4 (by decide)]
      · rw [s2_ne x1, s2_ne x1, t1 c x1 (by omega) (by omega) x3]
      · rw [s2_row, upd_ne x2, s2_row, upd_ne x1, t2 j x0 x3 x4]
      · rw [s2_ne (by decide), s2_ne (by decide), t3 j hj]
      · rw [s2_ne (by decide), s2_ne (by decide), t4 l hl]
      · rw [s2_ne (by decide), s2_ne (by decide), t5 l hl]
      · rw [x14, y3]
      · rw [s2_row, upd_s, s2_row, upd_s]
