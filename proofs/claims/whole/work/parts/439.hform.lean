def hF (v0 v1 : Int32) : Int32 :=
  if v0 < 0 then
    0
  else
    if v0 ≤ 22 then
      if 8 < v0 then
        if v0 = 9 then
          if v1 = 2 then
            1
          else
            if ¬ v1 = 4 then
              0
            else
              1
        else
        if v0 = 10 then
          if ¬ v1 = 3 then
            0
          else
            1
        else
        if v0 = 11 then
          if v1 = 2 then
            1
          else
            if ¬ v1 = 3 then
              0
            else
              1
        else
        if v0 = 12 then
          if v1 = 1 then
            1
          else
            if ¬ v1 = 7 then
              0
            else
              1
        else
        if v0 = 13 then
          if v1 = 1 then
            1
          else
            if ¬ v1 = 7 then
              0
            else
              1
        else
        if v0 = 14 then
          if v1 = 5 then
            1
          else
            if ¬ v1 = 6 then
              0
            else
              1
        else
        if v0 = 15 then
          if v1 = 5 then
            1
          else
            if ¬ v1 = 6 then
              0
            else
              1
        else
        if v0 = 16 then
          if v1 = 5 then
            1
          else
            if ¬ v1 = 6 then
              0
            else
              1
        else
        if v0 = 17 then
          if ¬ v1 = 1 then
            0
          else
            1
        else
        if v0 = 18 then
          if ¬ v1 = 1 then
            0
          else
            1
        else
        if v0 = 19 then
          if v1 = 1 then
            1
          else
            if ¬ v1 = 8 then
              0
            else
              1
        else
        if v0 = 20 then
          if ¬ v1 = 1 then
            0
          else
            1
        else
        if ¬ v1 = 0 then
          0
        else
          1
      else
        if v1 < 2 then
          0
        else
          if 6 < v1 then
            0
          else
            1
    else
      0
theorem so_ite {c : Prop} [Decidable c] (a b : Int32) (σ : St) : (some ((if c then a else b), σ) : Option (Int32 × St)) = if c then some (a, σ) else some (b, σ) := by split <;> rfl
theorem hF_eq (op fm : Int32) (σ : St) : Mo_hasForm op fm σ = some (hF op fm, σ) := by
  unfold Mo_hasForm hF
  simp only [so_ite]
theorem hF_in : ∀ j, j < 23 → ∀ k, k < 9 → (hF (nI j) (nI k) = if opF (nI j) (nI k) then 1 else 0) := by decide +kernel
theorem fm_in0 : ∀ j, j < 23 → ∀ k, k < 9 → ((if (shr (FORMS j) (nI k)) &&& 1 = 0 then (0 : Int32) else 1) = if opF (nI j) (nI k) then 1 else 0) := by decide +kernel
theorem fm_in (j : Nat) (hj : j < 23) (k : Nat) (hk : k < 9) : (¬ (shr (FORMS j) (nI k)) &&& 1 = 0) ↔ opF (nI j) (nI k) := by
  have := fm_in0 j hj k hk
  by_cases c : (shr (FORMS j) (nI k)) &&& 1 = 0
  · by_cases d : opF (nI j) (nI k)
    · rw [if_pos c, if_pos d] at this; exact absurd this (by decide)
    · exact ⟨fun h => absurd c h, fun h => absurd h d⟩
  · by_cases d : opF (nI j) (nI k)
    · exact ⟨fun _ => d, fun _ => c⟩
    · rw [if_neg c, if_neg d] at this; exact absurd this (by decide)
theorem opF_op {op fm : Int32} (h : opF op fm) : (¬ op < 0 ∧ op < 23) ∧ (¬ fm < 0 ∧ fm < 9) := by
  rcases h with ⟨a, b, c, d⟩ | ⟨a, b⟩ | ⟨a, b⟩ | ⟨a, b⟩ | ⟨a, b⟩ | ⟨a, b⟩ | ⟨a, b⟩ | ⟨a, b⟩ | ⟨a, b⟩
  · exact ⟨⟨a, lt_of b (by decide)⟩, nlt_of c (by decide), lt_of d (by decide)⟩
  · subst a; rcases b with rfl | rfl <;> decide
  · subst a; subst b; decide
  · subst a; rcases b with rfl | rfl <;> decide
  · rcases a with rfl | rfl <;> rcases b with rfl | rfl <;> decide
  · rcases a with rfl | rfl | rfl <;> rcases b with rfl | rfl <;> decide
  · subst b; rcases a with rfl | rfl | rfl <;> decide
  · subst a; rcases b with rfl | rfl <;> decide
  · subst b; rcases a with rfl | rfl <;> decide
theorem hF_out {op fm : Int32} (h : ¬ opF op fm) : hF op fm = 0 := by
  by_cases c : ((¬ op < 0 ∧ op < 23) ∧ (¬ fm < 0 ∧ fm < 9))
  · obtain ⟨j, hj, rfl⟩ := to_nI (m := 23) c.1.1 23 rfl (by decide) c.1.2
    obtain ⟨k, hk, rfl⟩ := to_nI (m := 9) c.2.1 9 rfl (by decide) c.2.2
    rw [hF_in j hj k hk, if_neg h]
  · unfold hF
    by_cases c1 : op < 0
    · rw [if_pos c1]
    · rw [if_neg c1]
      by_cases c2 : op ≤ 22
      · have hop : op < 23 := Int32.lt_iff_toInt_lt.mpr (by
          have := Int32.le_iff_toInt_le.mp c2
          have e1 : (22 : Int32).toInt = 22 := rfl
          have e2 : (23 : Int32).toInt = 23 := rfl
          omega)
        have cf : ¬ (¬ fm < 0 ∧ fm < 9) := fun k => c ⟨⟨c1, hop⟩, k⟩
        have ne : ∀ k, k < 9 → ¬ fm = nI k := fun k hk e => cf (by
          subst e; exact ⟨nI_pos (by omega), lf_lt 9 9 k rfl hk (by decide)⟩)
        have n0 : ¬ fm = 0 := ne 0 (by decide)
        have n1 : ¬ fm = 1 := ne 1 (by decide)
        have n2 : ¬ fm = 2 := ne 2 (by decide)
        have n3 : ¬ fm = 3 := ne 3 (by decide)
        have n4 : ¬ fm = 4 := ne 4 (by decide)
        have n5 : ¬ fm = 5 := ne 5 (by decide)
        have n6 : ¬ fm = 6 := ne 6 (by decide)
        have n7 : ¬ fm = 7 := ne 7 (by decide)
        have n8 : ¬ fm = 8 := ne 8 (by decide)
        rw [if_pos c2]
        simp only [n0, n1, n2, n3, n4, n5, n6, n7, n8, not_false_eq_true, if_true, if_false]
        by_cases c8 : 8 < op
        · rw [if_pos c8]; repeat' split
          all_goals rfl
        · rw [if_neg c8]
          by_cases d1 : fm < 2
          · rw [if_pos d1]
          · rw [if_neg d1]
            by_cases d2 : 6 < fm
            · rw [if_pos d2]
            · exfalso
              refine cf ⟨nlt_of d1 (by decide), Int32.lt_iff_toInt_lt.mpr ?_⟩
              have := mt Int32.lt_iff_toInt_lt.mpr d2
              have e1 : (6 : Int32).toInt = 6 := rfl
              have e2 : (9 : Int32).toInt = 9 := rfl
              omega
      · rw [if_neg c2]
theorem hF_ok {op fm : Int32} (h : opF op fm) : hF op fm = 1 := by
  obtain ⟨c1, c2⟩ := opF_op h
  obtain ⟨j, hj, rfl⟩ := to_nI (m := 23) c1.1 23 rfl (by decide) c1.2
  obtain ⟨k, hk, rfl⟩ := to_nI (m := 9) c2.1 9 rfl (by decide) c2.2
  rw [hF_in j hj k hk, if_pos h]
theorem hmf_eq (fm : Int32) (σ : St) : House_isMemoryForm fm σ = some (if memF fm then 1 else 0, σ) := by
  unfold House_isMemoryForm
  by_cases c3 : fm = 3
  · simp [c3]
  · by_cases c4 : fm = 4
    · simp [c4]
    · by_cases c6 : fm = 6
      · simp [c6]
      · by_cases c7 : fm = 7 <;> simp [c3, c4, c6, c7]
theorem mmf_eq (fm : Int32) (σ : St) : Mo_formHasMemory fm σ = some (if memF fm then 1 else 0, σ) := by
  unfold Mo_formHasMemory
  by_cases c3 : fm = 3
  · simp [c3]
  · by_cases c4 : fm = 4
    · simp [c4]
    · by_cases c6 : fm = 6
      · simp [c6]
      · by_cases c7 : fm = 7 <;> simp [c3, c4, c6, c7]
theorem mfi_eq (fm : Int32) (σ : St) : Mo_formHasI fm σ = some (if hsI fm then 1 else 0, σ) := by
  unfold Mo_formHasI
  by_cases c3 : fm = 5
  · simp [c3]
  · by_cases c4 : fm = 6
    · simp [c4]
    · by_cases c7 : fm = 8 <;> simp [c3, c4, c7]
theorem gt_lt {a : Int32} (c d : Int32) (h : d.toInt = c.toInt + 1) : (c < a) = ¬ a < d := propext ⟨fun k q => by
    have := Int32.lt_iff_toInt_lt.mp k; have := Int32.lt_iff_toInt_lt.mp q; omega, fun k => Int32.lt_iff_toInt_lt.mpr (by have := mt Int32.lt_iff_toInt_lt.mpr k; omega)⟩
theorem le_lt {a : Int32} (c d : Int32) (h : d.toInt = c.toInt + 1) : (a ≤ c) = (a < d) := by rw [le_nlt, gt_lt c d h]; simp
theorem mfr_eq (fm : Int32) (σ : St) : Mo_formHasR fm σ = some (if hsR fm then 1 else 0, σ) := by
  unfold Mo_formHasR
  simp only [gt_lt 5 6 rfl]
  by_cases c3 : fm < 1
  · simp [c3]
  · by_cases c4 : fm < 6 <;> simp [c3, c4]
theorem and_15 (x : Int32) : ¬ x &&& 15 < 0 ∧ x &&& 15 < 16 := by
  have h : (x &&& 15).toBitVec = x.toBitVec &&& 15#32 := rfl
  have hn : (x.toBitVec &&& 15#32).toNat ≤ 15 := by rw [BitVec.toNat_and]; exact Nat.and_le_right
  have e : (x &&& 15).toInt = ((x.toBitVec &&& 15#32).toNat : Int) := by
    show (x &&& 15).toBitVec.toInt = _
    rw [h]
    exact BitVec.toInt_eq_toNat_of_lt (by omega)
  constructor
  · intro k
    have := Int32.lt_iff_toInt_lt.mp k
    have e3 : (0 : Int32).toInt = 0 := rfl
    omega
  · refine Int32.lt_iff_toInt_lt.mpr ?_
    have e3 : (16 : Int32).toInt = 16 := rfl
    omega
theorem sh8_neg (x : Int32) : (shr x 8 < 0) ↔ (x < 0) := by
  have e : (shr x 8).toInt = x.toInt >>> 8 := by
    show (x.toBitVec.sshiftRight 8).toInt = _
    rw [BitVec.toInt_sshiftRight]; rfl
  have e3 : (0 : Int32).toInt = 0 := rfl
  rw [Int32.lt_iff_toInt_lt, Int32.lt_iff_toInt_lt, e, Int.shiftRight_eq_div_pow]
  omega
def MX (x : Int32) : Prop := memX x ∧ ¬ (shr x 4) &&& 15 = 4 ∧ ((shr x 4) &&& 15 = 8 → shr x 8 = 0)
theorem hm_ok {x : Int32} (h : MX x) (σ : St) : House_isMemory x σ = some (1, σ) ∧ Mo_isMemoryX x σ = some (1, σ) := by
  obtain ⟨⟨a1, a2, a3, a4, a5, a6⟩, b, c⟩ := h
  unfold House_isMemory Mo_isMemoryX
  simp only [nm_of, gt_lt 8 9 rfl, gt_lt 3 4 rfl]
  have n0 : ¬ x < 0 := fun k => a5 ((sh8_neg x).mpr k)
  constructor
  · simp only [a2, a4, a5, a6, b, not_true_eq_false, not_false_eq_true, if_true, if_false]
    by_cases d : (shr x 4) &&& 15 = 8
    · simp [d, c d]
    · simp [d]
  · simp only [a2, a4, a6, b, n0, not_true_eq_false, if_false]
    by_cases d : (shr x 4) &&& 15 < 8
    · simp [d]
    · have d8 : (shr x 4) &&& 15 = 8 := by
        apply Int32.toInt_inj.mp
        have q1 := mt Int32.lt_iff_toInt_lt.mpr d
        have q2 := Int32.lt_iff_toInt_lt.mp a4
        have e1 : (8 : Int32).toInt = 8 := rfl
        have e2 : (9 : Int32).toInt = 9 := rfl
        omega
      simp [d, c d8]
theorem hm_no {x : Int32} (h : ¬ MX x) (σ : St) : House_isMemory x σ = some (0, σ) ∧ Mo_isMemoryX x σ = some (0, σ) := by
  unfold House_isMemory Mo_isMemoryX
  simp only [nm_of, gt_lt 8 9 rfl, gt_lt 3 4 rfl]
  have a1 := (and_15 x).1
  have a3 := (and_15 (shr x 4)).1
  by_cases n0 : x < 0
  · have := (sh8_neg x).mpr n0
    simp [n0, this]
  · have n8 : ¬ shr x 8 < 0 := fun k => n0 ((sh8_neg x).mp k)
    by_cases a2 : x &&& 15 < 9
    · by_cases a4 : (shr x 4) &&& 15 < 9
      · by_cases b : (shr x 4) &&& 15 = 4
        · simp [n0, n8, a2, b]
        · by_cases a6 : shr x 8 < 4
          · have d : ¬ ((shr x 4) &&& 15 = 8 → shr x 8 = 0) := fun k => h ⟨⟨a1, a2, a3, a4, n8, a6⟩, b, k⟩
            have d8 : (shr x 4) &&& 15 = 8 := Decidable.not_not.mp fun k => d fun q => absurd q k
            have dz : ¬ shr x 8 = 0 := fun k => d fun _ => k
            simp [n0, n8, a2, a6, d8, dz]
          · simp [n0, n8, a2, a4, b, a6]
      · simp [n0, n8, a2, a4]
    · simp [n0, n8, a2]
