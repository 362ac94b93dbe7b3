section
variable {P m : Nat} {σ : St}
theorem pi_eq (h : σ P 4 = nI m) (hm : m ≤ 120) (k : Int32) : Program_hasItem P k σ = some (if ¬ k < 0 ∧ k < nI m then 1 else 0, σ) := by
  unfold Program_hasItem
  rw [h]
  by_cases c1 : k < 0
  · rw [if_pos c1, if_neg (fun q => q.1 c1)]
  · rw [if_neg c1]
    by_cases c2 : k < nI m
    · rw [if_pos (⟨c1, c2⟩ : ¬ k < 0 ∧ k < nI m), if_neg (show ¬ nI m ≤ k by rw [le_nlt]; exact not_not_intro c2), if_neg]
      intro q
      have q1 := Int32.le_iff_toInt_le.mp q
      have q2 := Int32.lt_iff_toInt_lt.mp c2
      rw [nI_toInt (by omega)] at q2
      have e : (120 : Int32).toInt = 120 := rfl
      omega
    · rw [if_neg (fun q : ¬ k < 0 ∧ k < nI m => c2 q.2), if_pos (show nI m ≤ k by rw [le_nlt]; exact c2)]
theorem pi_in (h : σ P 4 = nI m) (hm : m ≤ 120) {j : Nat} (hj : j < m) : Program_hasItem P (nI j) σ = some (1, σ) := by
  rw [pi_eq h hm, if_pos ⟨nI_pos (by omega), nI_lt hj (by omega)⟩]
theorem pi_out (h : σ P 4 = nI m) (hm : m ≤ 120) {j : Nat} (hj : m ≤ j) (hj2 : j < 2 ^ 31) : Program_hasItem P (nI j) σ = some (0, σ) := by
  rw [pi_eq h hm, if_neg (fun q => nI_nlt hj (by omega) q.2)]
theorem pp_in (h : σ P 4 = nI m) (hm : m ≤ 120) {j : Nat} (hj : j < m) : Program_itemPlace P (nI j) σ = some (σ (ch P 3) j, σ) := by
  unfold Program_itemPlace
  rw [pi_in h hm hj, cl_of, if_neg (by decide), ld_nI (by omega) (by decide)]
theorem pp_out (h : σ P 4 = nI m) (hm : m ≤ 120) {k : Int32} (hk : ¬ (¬ k < 0 ∧ k < nI m)) : Program_itemPlace P k σ = some (-1, σ) := by
  unfold Program_itemPlace
  rw [pi_eq h hm, if_neg hk, cl_of, if_pos rfl]
theorem pl_in {l : Nat} (hl : l < 40) : Program_labelItem P (nI l) σ = some (σ (ch P 12) l, σ) := by
  unfold Program_labelItem
  rw [hl_eq, if_pos ⟨nI_pos (by omega), lf_lt 40 40 l rfl hl (by decide)⟩, cl_of, if_neg (by decide), ld_nI hl (by decide)]
theorem pl_out {l : Int32} (hl : ¬ isLb l) : Program_labelItem P l σ = some (-1, σ) := by
  unfold Program_labelItem
  rw [hl_eq, if_neg hl, cl_of, if_pos rfl]
end
theorem ts_place (s k : Int32) : TS (House_place 0 s k) (Mo_place 67 s k) := by
  intro σ τ h
  obtain ⟨p1, p2, p3⟩ := h.2.2.2.2.1
  have e10 : (s2 τ 67 0 0) 67 10 = σ 0 13 := by rw [s2_row, upd_ne (by decide), p1]
  have e9 : (s2 τ 67 0 0) 67 9 = τ 67 9 := by rw [s2_row, upd_ne (by decide)]
  unfold House_place Mo_place
  rw [nm_of, e10, e9, cc_0_7, cc_67_20, cc_67_19, cc_67_18]
  rcases p2 with c | c
  · rw [if_neg (not_not_intro c), if_neg (not_not_intro c)]; exact ⟨_, _, _, rfl, rfl, R_th h⟩
  · obtain ⟨m, T, pl, w1, w2, w3, w4, w5, w6, w7, w8, w9⟩ := p3 c
    rw [if_pos (show ¬ σ 0 13 = 0 by rw [c]; decide), if_pos (show ¬ σ 0 13 = 0 by rw [c]; decide), w2, w3]
    by_cases s0 : s = 0
    · subst s0
      rw [if_pos rfl, if_pos (by decide), if_neg (by decide)]
      by_cases ck : ¬ k < 0 ∧ k < nI m
      · obtain ⟨j, hj, rfl⟩ := nI_of ck.1
        have hjm := (nI_ltI hj (by omega)).mp ck.2
        rw [pp_in w2 w1 hjm, cl_of, if_neg ck.1, if_neg (show ¬ nI m ≤ nI j by rw [le_nlt]; exact not_not_intro ck.2), show (120 : Int32) + nI j = nI (120 + j) from nI_add 120 j, ld_nI (by omega) (by decide), s2_ne (by decide), cc_33_3, (w8 j hjm).1, (w8 j hjm).2.1]
        exact ⟨_, _, _, rfl, rfl, R_th h⟩
      · rw [pp_out w2 w1 ck, cl_of]
        by_cases c1 : k < 0
        · rw [if_pos c1]; exact ⟨_, _, _, rfl, rfl, R_th h⟩
        · rw [if_neg c1, if_pos (show nI m ≤ k by rw [le_nlt]; exact fun q => ck ⟨c1, q⟩)]; exact ⟨_, _, _, rfl, rfl, R_th h⟩
    · rw [if_neg s0]
      by_cases s1 : s = 1
      · subst s1
        rw [if_pos rfl, if_pos (by decide), if_pos (by decide), if_neg (by decide)]
        by_cases cl' : isLb k
        · obtain ⟨l, hl, rfl⟩ := to_nI (m := 40) cl'.1 40 rfl (by decide) cl'.2
          rw [pl_in hl, cl_of, cc_33_12, if_neg cl'.1, if_neg (lf_nle 40 40 l rfl hl (by decide)), show (40 : Int32) + nI l = nI (40 + l) from nI_add 40 l, ld_nI (by omega) (by decide), s2_ne (by decide)]
          obtain ⟨q1, q2⟩ := w9.1 l hl
          rw [q1]
          rcases q2 with q2 | ⟨j, hj, q3, q4⟩
          · rw [q2, pp_out w2 w1 (fun q => q.1 (by decide)), cl_of, if_pos (by decide)]
            exact ⟨_, _, _, rfl, rfl, R_th h⟩
          · rw [q3, pp_in w2 w1 hj, cl_of, if_neg (nI_pos (by omega)), ld_nI (by omega) (by decide), s2_ne (by decide), cc_33_3, (w8 j hj).1, q4]
            exact ⟨_, _, _, rfl, rfl, R_th h⟩
        · rw [pl_out cl', cl_of, pp_out w2 w1 (fun q => q.1 (by decide)), cl_of]
          by_cases c1 : k < 0
          · rw [if_pos c1]; exact ⟨_, _, _, rfl, rfl, R_th h⟩
          · rw [if_neg c1, if_pos (show (40 : Int32) ≤ k by rw [le_nlt]; exact fun q => cl' ⟨c1, q⟩)]; exact ⟨_, _, _, rfl, rfl, R_th h⟩
      · rw [if_neg s1]
        by_cases s2' : s = 2
        · subst s2'
          rw [if_pos rfl, if_neg (by decide)]; exact ⟨_, _, _, rfl, rfl, R_th h⟩
        · rw [if_neg s2', if_pos s2', if_pos s0, if_pos s1]; exact ⟨_, _, _, rfl, rfl, R_th h⟩
