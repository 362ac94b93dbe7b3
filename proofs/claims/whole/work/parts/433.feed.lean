theorem m255 : ∀ i, i < 32 → ¬ i < 8 → (255#32).getLsbD i = false := by decide
theorem bv_us (x : BitVec 32) (k : Nat) (hk : k ≤ 24) : (x >>> k) &&& 255#32 = (x.sshiftRight k) &&& 255#32 := by
  apply BitVec.eq_of_getLsbD_eq
  intro i hi
  rw [BitVec.getLsbD_and, BitVec.getLsbD_and]
  by_cases c : i < 8
  · rw [BitVec.getLsbD_ushiftRight, BitVec.getLsbD_sshiftRight, if_pos (by omega), show decide (32 ≤ i) = false from decide_eq_false (by omega)]
    rfl
  · rw [m255 i hi c]; simp
theorem us_24 (v : Int32) : (ushr v 24) &&& 255 = (shr v 24) &&& 255 := Int32.toBitVec_inj.mp (bv_us v.toBitVec 24 (by decide))
theorem us_16 (v : Int32) : (ushr v 16) &&& 255 = (shr v 16) &&& 255 := Int32.toBitVec_inj.mp (bv_us v.toBitVec 16 (by decide))
theorem us_8 (v : Int32) : (ushr v 8) &&& 255 = (shr v 8) &&& 255 := Int32.toBitVec_inj.mp (bv_us v.toBitVec 8 (by decide))
theorem us_0 (v : Int32) : (ushr v 0) &&& 255 = (shr v 0) &&& 255 := Int32.toBitVec_inj.mp (bv_us v.toBitVec 0 (by decide))
/-- the low BYTE of a number -/
theorem by_and (v : Int32) : BY (v &&& 255) := by
  have h : (v &&& 255).toBitVec = v.toBitVec &&& 255#32 := rfl
  have hn : (v.toBitVec &&& 255#32).toNat ≤ 255 := by rw [BitVec.toNat_and]; exact Nat.and_le_right
  have e : (v &&& 255).toInt = ((v.toBitVec &&& 255#32).toNat : Int) := by
    show (v &&& 255).toBitVec.toInt = _
    rw [h]
    exact BitVec.toInt_eq_toNat_of_lt (by omega)
  constructor
  · intro k
    have := Int32.lt_iff_toInt_lt.mp k
    have e3 : (0 : Int32).toInt = 0 := rfl
    omega
  · refine Int32.lt_iff_toInt_lt.mpr ?_
    have e3 : (256 : Int32).toInt = 256 := rfl
    omega
def wr4 (row : Nat → Int32) (c : Nat) (v : Int32) : Nat → Int32 := upd (upd (upd (upd row c ((shr v 24) &&& 255)) (c + 1) ((shr v 16) &&& 255)) (c + 2) ((shr v 8) &&& 255)) (c + 3) ((shr v 0) &&& 255)
theorem af_b (k : Nat) {σ : St} {c : Nat} (hc : c + 4 ≤ 1100) (h : σ 1 2 = nI c) (v : Int32) : wv (Strip_addFour_B3 (k + 1 + 1 + 1 + 1 + 1) 1 v 24 σ) (fun σ' => σ' 2 = wr4 (σ 2) c v ∧ σ' 1 2 = nI (c + 4) ∧ ∀ d, d ≠ 1 → d ≠ 2 → σ' d = σ d) := by
  have n0 : ¬ (1100 : Int32) ≤ nI c := lf_nle 1100 1100 c rfl (by omega) (by decide)
  have n1 : ¬ (1100 : Int32) ≤ nI (c + 1) := lf_nle 1100 1100 (c + 1) rfl (by omega) (by decide)
  have n2 : ¬ (1100 : Int32) ≤ nI (c + 1 + 1) := lf_nle 1100 1100 (c + 1 + 1) rfl (by omega) (by decide)
  have n3 : ¬ (1100 : Int32) ≤ nI (c + 1 + 1 + 1) := lf_nle 1100 1100 (c + 1 + 1 + 1) rfl (by omega) (by decide)
  rw [Strip_addFour_B3, if_neg (by decide), cc_1_0, h, if_neg n0, sa_nI (by omega) (by decide), nm_of, nm_of, s2_ne (by decide), h, nI_1]
  rw [Strip_addFour_B3, if_neg (by decide), cc_1_0, s2_row, upd_at, if_pos rfl, if_neg n1, sa_nI (by omega) (by decide), nm_of, nm_of, s2_ne (by decide), s2_row, upd_at, if_pos rfl, nI_1]
  rw [Strip_addFour_B3, if_neg (by decide), cc_1_0, s2_row, upd_at, if_pos rfl, if_neg n2, sa_nI (by omega) (by decide), nm_of, nm_of, s2_ne (by decide), s2_row, upd_at, if_pos rfl, nI_1]
  rw [Strip_addFour_B3, if_neg (by decide), cc_1_0, s2_row, upd_at, if_pos rfl, if_neg n3, sa_nI (by omega) (by decide), nm_of, nm_of, s2_ne (by decide), s2_row, upd_at, if_pos rfl, nI_1]
  rw [Strip_addFour_B3, if_pos (by decide)]
  refine wv_some.mpr ⟨?_, ?_, ?_⟩
  · simp only [s2_ne, s2_row, ne_eq, not_false_eq_true, Nat.reduceEqDiff]
    unfold wr4
    rw [← us_24, ← us_16, ← us_8, ← us_0]
    rfl
  · rw [s2_row, upd_at, if_pos rfl]
  · intro d h1 h2
    simp only [s2_ne h1, s2_ne h2]
theorem mw_b (k : Nat) {σ : St} {c : Nat} (hc : c + 4 ≤ 1100) (h : σ 67 2 = nI c) (v : Int32) : wv (Mo_word_B3 (k + 1 + 1 + 1 + 1 + 1) 67 v 24 σ) (fun σ' => σ' 68 = wr4 (σ 68) c v ∧ σ' 67 = upd (σ 67) 2 (nI (c + 4)) ∧ ∀ d, d ≠ 67 → d ≠ 68 → σ' d = σ d) := by
  rw [Mo_word_B3, if_neg (by decide), cc_67_1, h, sa_nI (by omega) (by decide), nm_of, nm_of, s2_ne (by decide), h, nI_1]
  rw [Mo_word_B3, if_neg (by decide), cc_67_1, s2_row, upd_at, if_pos rfl, sa_nI (by omega) (by decide), nm_of, nm_of, s2_ne (by decide), s2_row, upd_at, if_pos rfl, nI_1]
  rw [Mo_word_B3, if_neg (by decide), cc_67_1, s2_row, upd_at, if_pos rfl, sa_nI (by omega) (by decide), nm_of, nm_of, s2_ne (by decide), s2_row, upd_at, if_pos rfl, nI_1]
  rw [Mo_word_B3, if_neg (by decide), cc_67_1, s2_row, upd_at, if_pos rfl, sa_nI (by omega) (by decide), nm_of, nm_of, s2_ne (by decide), s2_row, upd_at, if_pos rfl, nI_1]
  rw [Mo_word_B3, if_pos (by decide)]
  refine wv_some.mpr ⟨?_, ?_, ?_⟩
  · simp only [s2_ne, s2_row, ne_eq, not_false_eq_true, Nat.reduceEqDiff]
    rfl
  · simp only [s2_ne, s2_row, ne_eq, not_false_eq_true, Nat.reduceEqDiff]
    funext j
    simp only [upd_at]
    split <;> rfl
  · intro d h1 h2
    simp only [s2_ne h1, s2_ne h2]
theorem wr4_at (row : Nat → Int32) (c : Nat) (v : Int32) (j : Nat) : wr4 row c v j = if j = c + 3 then (shr v 0) &&& 255 else if j = c + 2 then (shr v 8) &&& 255 else if j = c + 1 then (shr v 16) &&& 255 else if j = c then (shr v 24) &&& 255 else row j := rfl
theorem wr4_by {row : Nat → Int32} {c : Nat} (h : ∀ j, j < c → BY (row j)) {v : Int32} : ∀ j, j < c + 4 → BY (wr4 row c v j) := by
  intro j hj
  rw [wr4_at]
  by_cases c3 : j = c + 3
  · rw [if_pos c3]; exact by_and (shr v 0)
  · by_cases c2 : j = c + 2
    · rw [if_neg c3, if_pos c2]; exact by_and (shr v 8)
    · by_cases c1 : j = c + 1
      · rw [if_neg c3, if_neg c2, if_pos c1]; exact by_and (shr v 16)
      · by_cases c0 : j = c
        · rw [if_neg c3, if_neg c2, if_neg c1, if_pos c0]; exact by_and (shr v 24)
        · rw [if_neg c3, if_neg c2, if_neg c1, if_neg c0]; exact h j (by omega)
theorem wr4_eq {row row' : Nat → Int32} {c : Nat} (h : Eqn c row row') {v : Int32} : Eqn (c + 4) (wr4 row c v) (wr4 row' c v) := by
  intro j hj
  rw [wr4_at, wr4_at]
  by_cases q : j < c
  · rw [h j q]
  · by_cases c3 : j = c + 3
    · rw [if_pos c3, if_pos c3]
    · by_cases c2 : j = c + 2
      · rw [if_neg c3, if_neg c3, if_pos c2, if_pos c2]
      · by_cases c1 : j = c + 1
        · rw [if_neg c3, if_neg c3, if_neg c2, if_neg c2, if_pos c1, if_pos c1]
        · have c0 : j = c := by omega
          rw [if_neg c3, if_neg c3, if_neg c2, if_neg c2, if_neg c1, if_neg c1, if_pos c0, if_pos c0]
theorem lf_leR (c : Int32) (m p : Nat) (hc : nI m = c) (hm : m < 2 ^ 31) (hp : p < 2 ^ 31) : (nI p ≤ c) ↔ p ≤ m := by subst hc; exact nI_le' hp hm
theorem fd_step {σ τ : St} (h : R σ τ) {c : Nat} (hc : c + 4 ≤ 1100) (h1 : σ 1 2 = nI c) (v : Int32) : ∃ σ' τ', Strip_addFour 1 v σ = some σ' ∧ Mo_word 67 v τ = some τ' ∧ R σ' τ' ∧ σ' 1 2 = nI (c + 4) := by
  obtain ⟨⟨n, t1, t2, t3, t4, t5⟩, hr⟩ := h
  obtain rfl : n = c := (nI_inj (by omega) (by omega)).mp (t2.symm.trans h1)
  obtain ⟨σ', e1, a1, a2, a3⟩ := af_b 19995 hc h1 v
  obtain ⟨τ', e2, b1, b2, b3⟩ := mw_b 19995 hc t3 v
  refine ⟨σ', τ', e1, e2, ?_, a2⟩
  have g67 : τ' 67 2 = nI (n + 4) := by rw [b2, upd_at, if_pos rfl]
  have go : ∀ k, k ≠ 2 → τ' 67 k = τ 67 k := fun k hk => by rw [b2, upd_at, if_neg hk]
  refine ⟨⟨n + 4, hc, a2, g67, by rw [a1]; exact wr4_by t4, by rw [a1, b1]; exact wr4_eq t5⟩, ?_⟩
  simp only [a3, b3, go, ne_eq, not_false_eq_true, Nat.reduceEqDiff]
  exact hr
theorem ts_feed (a b c d e : Int32) : TS (House_feed 0 a b c d e) (Mo_feed 67 a b c d e) := by
  intro σ τ h
  obtain ⟨n, t1, t2, t3, t4, t5⟩ := h.1
  unfold House_feed Mo_feed
  rw [nm_of, cc_0_0]
  have e0 : (s2 τ 67 0 0) 67 2 = nI n := by rw [s2_row, upd_at, if_neg (by decide), t3]
  rw [e0, t2, show nI n + 20 = nI (n + 20) from nI_add n 20]
  by_cases c1 : n ≤ 1080
  · rw [if_pos ((lf_leR 1080 1080 n rfl (by decide) (by omega)).mpr c1), if_pos ((lf_leR 1100 1100 (n + 20) rfl (by decide) (by omega)).mpr (by omega))]
    obtain ⟨σ1, τ1, e1, f1, r1, q1⟩ := fd_step (R_th h (w := 0)) (c := n) (by omega) t2 a
    obtain ⟨σ2, τ2, e2, f2, r2, q2⟩ := fd_step r1 (by omega) q1 b
    obtain ⟨σ3, τ3, e3, f3, r3, q3⟩ := fd_step r2 (by omega) q2 c
    obtain ⟨σ4, τ4, e4, f4, r4, q4⟩ := fd_step r3 (by omega) q3 d
    obtain ⟨σ5, τ5, e5, f5, r5, q5⟩ := fd_step r4 (by omega) q4 e
    rw [e1, cv_of, e2, cv_of, e3, cv_of, e4, cv_of, e5, cv_of, f1, cv_of, f2, cv_of, f3, cv_of, f4, cv_of, f5, cv_of]
    exact ⟨_, _, _, rfl, rfl, r5⟩
  · rw [if_neg (fun k => c1 ((lf_leR 1080 1080 n rfl (by decide) (by omega)).mp k)), if_neg (fun k => c1 (by have := (lf_leR 1100 1100 (n + 20) rfl (by decide) (by omega)).mp k; omega))]
    exact ⟨_, _, _, rfl, rfl, R_th h⟩
