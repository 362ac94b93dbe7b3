section
variable {τ : St} {w : Nat} {c z s o : Int32}
theorem k89 : kd 89 = 900 ∧ al 89 = 8 := by decide
theorem g4 (h : τ 67 42 = nI w) (k : Nat) (kk : Int32) (hk : nI k = kk) : (4 * (mkG τ w c z s o) 67 42) + kk = nI (4 * w + k) := by
  subst hk; rw [mkG_row (by decide), h, show (4 : Int32) = nI 4 from rfl, nI_mul, nI_add]
theorem gm_set (h : τ 67 42 = nI w) (hw : w < 2) {a b : Int32} : Mo_setFlags 67 a b (mkG τ w c z s o) = some (mkG τ w (if a = 0 then 0 else 1) z s (if b = 0 then 0 else 1)) := by
  have e : ∀ v, Mo_setFlags_B21 67 b 89 (nI (4 * w + 0)) v (mkG τ w c z s o) = some (mkG τ w v z s (if b = 0 then 0 else 1)) := by
    intro v
    unfold Mo_setFlags_B21
    rw [sr_nI k89.1 (by rw [k89.2]; omega) (by decide), mkG_sc, cc_67_32, g4 h 3 3 rfl]
    by_cases q : b = 0
    · rw [if_pos q, if_pos q, sa_nI (by omega) (by decide), mkG_so]
    · rw [if_neg q, if_neg q, sa_nI (by omega) (by decide), mkG_so]
  unfold Mo_setFlags
  rw [cc_67_32, g4 h 0 0 rfl]
  by_cases q : a = 0
  · rw [if_pos q, if_pos q, e]
  · rw [if_neg q, if_neg q, e]
theorem gm_res (h : τ 67 42 = nI w) (hw : w < 2) {v : Int32} : Mo_result 67 v (mkG τ w c z s o) = some (mkG τ w c (zv v) (sv v) o) := by
  have e : ∀ u, Mo_result_B21 67 v 89 (nI (4 * w + 1)) u (mkG τ w c z s o) = some (mkG τ w c u (sv v) o) := by
    intro u
    unfold Mo_result_B21 sv
    rw [sr_nI k89.1 (by rw [k89.2]; omega) (by decide), mkG_sz, cc_67_32, g4 h 2 2 rfl]
    simp only [le_nlt]
    by_cases q : v < 0
    · rw [if_neg (not_not_intro q), if_pos q, sa_nI (by omega) (by decide), mkG_ss]
    · rw [if_pos q, if_neg q, sa_nI (by omega) (by decide), mkG_ss]
  unfold Mo_result zv
  rw [cc_67_32, g4 h 1 1 rfl]
  by_cases q : v = 0
  · rw [if_neg (not_not_intro q), if_pos q, e]
  · rw [if_pos q, if_neg q, e]
theorem gm_both (h : τ 67 42 = nI w) (hw : w < 2) {a b v : Int32} : (cv (Mo_setFlags 67 a b (mkG τ w c z s o)) fun σ1 => cv (Mo_result 67 v σ1) fun σ2 => some (v, σ2)) = some (v, mkG τ w (if a = 0 then 0 else 1) (zv v) (sv v) (if b = 0 then 0 else 1)) := by
  rw [gm_set h hw, cv_of, gm_res h hw, cv_of]
theorem gm_add (h : τ 67 42 = nI w) (hw : w < 2) {l r m : Int32} : Mo_added 67 l r m (mkG τ w c z s o) = some (Int64.toInt32 (adX l r m), mkG τ w (adC l r m) (zv (Int64.toInt32 (adX l r m))) (sv (Int64.toInt32 (adX l r m))) (ov (adX l r m))) := by
  unfold Mo_added Mo_added_B62 adC ov
  simp only [nm_of]
  rw [show ((Int32.toInt64 l) + (Int32.toInt64 r)) + (Int32.toInt64 m) = adX l r m from rfl]
  by_cases q1 : (lg_cmp ((((Int32.toInt64 l) &&& 4294967295) + ((Int32.toInt64 r) &&& 4294967295)) + (Int32.toInt64 m)) 4294967295) ≤ 0
  · rw [if_pos q1, if_pos q1]
    by_cases q2 : lg_cmp (adX l r m) (Int32.toInt64 (Int64.toInt32 (adX l r m))) = 0
    · rw [if_pos q2, if_pos q2, gm_both h hw]; rfl
    · rw [if_neg q2, if_neg q2, gm_both h hw]; rfl
  · rw [if_neg q1, if_neg q1]
    by_cases q2 : lg_cmp (adX l r m) (Int32.toInt64 (Int64.toInt32 (adX l r m))) = 0
    · rw [if_pos q2, if_pos q2, gm_both h hw]; rfl
    · rw [if_neg q2, if_neg q2, gm_both h hw]; rfl
theorem gm_tak (h : τ 67 42 = nI w) (hw : w < 2) {l r m : Int32} : Mo_taken 67 l r m (mkG τ w c z s o) = some (Int64.toInt32 (sbX l r m), mkG τ w (sbC l r m) (zv (Int64.toInt32 (sbX l r m))) (sv (Int64.toInt32 (sbX l r m))) (ov (sbX l r m))) := by
  unfold Mo_taken Mo_taken_B54 sbC ov
  simp only [nm_of, lg_cmp_ge, lg_cmp_le]
  rw [show ((Int32.toInt64 l) - (Int32.toInt64 r)) - (Int32.toInt64 m) = sbX l r m from rfl]
  by_cases q1 : ((Int32.toInt64 r) &&& 4294967295) + (Int32.toInt64 m) ≤ (Int32.toInt64 l) &&& 4294967295
  · rw [if_pos q1, if_pos q1]
    by_cases q2 : lg_cmp (sbX l r m) (Int32.toInt64 (Int64.toInt32 (sbX l r m))) = 0
    · rw [if_pos q2, if_pos q2, gm_both h hw]; rfl
    · rw [if_neg q2, if_neg q2, gm_both h hw]; rfl
  · rw [if_neg q1, if_neg q1]
    by_cases q2 : lg_cmp (sbX l r m) (Int32.toInt64 (Int64.toInt32 (sbX l r m))) = 0
    · rw [if_pos q2, if_pos q2, gm_both h hw]; rfl
    · rw [if_neg q2, if_neg q2, gm_both h hw]; rfl
theorem gm_pln (h : τ 67 42 = nI w) (hw : w < 2) {v : Int32} : Mo_plainResult 67 v (mkG τ w c z s o) = some (v, mkG τ w 0 (zv v) (sv v) 0) := by
  unfold Mo_plainResult; rw [gm_both h hw]; rfl
/-- bits -/
theorem and_1 (x : Int32) : x &&& 1 = 0 ∨ x &&& 1 = 1 := by
  have hb : (x &&& 1).toBitVec = x.toBitVec &&& 1#32 := rfl
  have hn : (x.toBitVec &&& 1#32).toNat ≤ 1 := by rw [BitVec.toNat_and]; exact Nat.and_le_right
  rcases Nat.le_one_iff_eq_zero_or_eq_one.mp hn with e | e
  · left; exact Int32.toBitVec_inj.mp (BitVec.eq_of_toNat_eq (by rw [hb, e]; rfl))
  · right; exact Int32.toBitVec_inj.mp (BitVec.eq_of_toNat_eq (by rw [hb, e]; rfl))
theorem us_31 (v : Int32) : ushr v 31 = if v < 0 then 1 else 0 := by
  apply Int32.toBitVec_inj.mp
  have e0 : (ushr v 31).toBitVec = v.toBitVec >>> 31 := rfl
  rw [e0]
  have hlt : (v < 0) ↔ v.toBitVec.msb = true := by
    rw [Int32.lt_iff_toInt_lt]
    show v.toBitVec.toInt < 0 ↔ _
    rw [BitVec.msb_eq_toInt]; simp
  apply BitVec.eq_of_getLsbD_eq
  intro i hi
  rw [BitVec.getLsbD_ushiftRight]
  by_cases hv : v < 0
  · rw [if_pos hv]
    by_cases i0 : i = 0
    · subst i0
      have := hlt.mp hv
      rw [BitVec.msb_eq_getLsbD_last] at this
      exact this
    · rw [BitVec.getLsbD_of_ge _ _ (by omega)]
      have : ∀ i, i < 32 → ¬ i = 0 → (Int32.toBitVec 1).getLsbD i = false := by decide
      exact (this i hi i0).symm
  · rw [if_neg hv]
    by_cases i0 : i = 0
    · subst i0
      have : ¬ v.toBitVec.msb = true := fun k => hv (hlt.mpr k)
      rw [BitVec.msb_eq_getLsbD_last] at this
      have t2 : v.toBitVec.getLsbD 31 = false := by simpa using this
      exact t2
    · rw [BitVec.getLsbD_of_ge _ _ (by omega)]
      have : ∀ i, i < 32 → (Int32.toBitVec 0).getLsbD i = false := by decide
      exact (this i hi).symm
theorem bv_u1 (x : BitVec 32) (k : Nat) (hk : k < 32) : (x >>> k) &&& 1#32 = (x.sshiftRight k) &&& 1#32 := by
  apply BitVec.eq_of_getLsbD_eq
  intro i hi
  rw [BitVec.getLsbD_and, BitVec.getLsbD_and]
  by_cases i0 : i = 0
  · subst i0
    rw [BitVec.getLsbD_ushiftRight, BitVec.getLsbD_sshiftRight, if_pos (by omega)]
    simp
  · have : ∀ i, i < 32 → ¬ i = 0 → (1#32).getLsbD i = false := by decide
    rw [this i hi i0]; simp
theorem u1_all : ∀ j, j < 32 → ∀ v : Int32, (ushr v (nI j)) &&& 1 = (shr v (nI j)) &&& 1 := by
  intro j hj v
  have key : ∀ j, j < 32 → ((nI j &&& 31).toBitVec.smod 32).toNat = j ∧ ((nI j).toUInt32 &&& Int32.toUInt32 31).toNat % 32 = j := by decide +kernel
  obtain ⟨k1, k2⟩ := key j hj
  apply Int32.toBitVec_inj.mp
  have e1 : (shr v (nI j) &&& 1).toBitVec = (v.toBitVec.sshiftRight j) &&& 1#32 := by
    show v.toBitVec.sshiftRight' ((nI j &&& 31).toBitVec.smod 32) &&& 1#32 = _
    show v.toBitVec.sshiftRight ((nI j &&& 31).toBitVec.smod 32).toNat &&& 1#32 = _
    rw [k1]
  have e2 : (ushr v (nI j) &&& 1).toBitVec = (v.toBitVec >>> j) &&& 1#32 := by
    show (v.toUInt32.toBitVec >>> (((nI j).toUInt32 &&& Int32.toUInt32 31).toBitVec % 32)) &&& 1#32 = _
    have : ((((nI j).toUInt32 &&& Int32.toUInt32 31).toBitVec % 32 : BitVec 32)).toNat = j := by
      rw [BitVec.toNat_umod]; exact k2
    rw [BitVec.ushiftRight_eq', this]
    rfl
  rw [e1, e2]
  exact bv_u1 v.toBitVec j hj
theorem and_31 (x : Int32) : ∃ j, j < 32 ∧ x &&& 31 = nI j := by
  have hb : (x &&& 31).toBitVec = x.toBitVec &&& 31#32 := rfl
  have hn : (x.toBitVec &&& 31#32).toNat ≤ 31 := by rw [BitVec.toNat_and]; exact Nat.and_le_right
  refine ⟨(x.toBitVec &&& 31#32).toNat, by omega, ?_⟩
  apply Int32.toInt_inj.mp
  rw [nI_toInt (by omega)]
  show (x &&& 31).toBitVec.toInt = _
  rw [hb]
  exact BitVec.toInt_eq_toNat_of_lt (by omega)
end
