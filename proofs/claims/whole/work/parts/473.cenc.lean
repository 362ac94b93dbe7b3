section
variable {σ : St} {op fm r x d i : Int32} {L : List Int32}
theorem c_put0 (v : Int32) : Piece_put 29 v (cP σ []) = some (cP σ [bt v]) := c_put (L := []) (by decide) v
theorem c_put1 (a v : Int32) : Piece_put 29 v (cP σ [a]) = some (cP σ [a, bt v]) := c_put (L := [a]) (by simp) v
theorem c_lead (I : Inst σ 31 op fm r x d i) : Piece_putLead 29 31 (cP σ []) = some (cP σ (eLead op fm r i)) := by
  obtain ⟨i0, i1, i2, i3, i4, i5⟩ := I
  have ci : ∀ L, cP σ L 31 = σ 31 := fun L => cP_row (by decide) (by decide)
  unfold Piece_putLead Piece_putMovLead Piece_putLead_B144 Piece_putArithmeticLead Piece_putArithmeticLead_B17 eLead
  simp only [ci, i0, i1, i2, i5, nm_of, c_put0, c_put1, cv_of, cs_eq, cl_of]
  by_cases o8 : op = 8
  · subst o8
    by_cases f5 : fm = 5 <;> by_cases f6 : fm = 6 <;> by_cases f3 : fm = 3 <;> simp [f5, f6, f3, cv_of]
  by_cases o9 : op = 9
  · simp [o9]
  by_cases o10 : op = 10
  · simp [o10]
  by_cases o11 : op = 11
  · simp [o11]
  by_cases o12 : op = 12
  · simp [o12]
  by_cases o13 : op = 13
  · simp [o13]
  by_cases o14 : op = 14
  · simp [o14]
  by_cases o15 : op = 15
  · simp [o15]
  by_cases o16 : op = 16
  · simp [o16]
  by_cases o17 : op = 17
  · simp [o17]
  by_cases o18 : op = 18
  · simp [o18]
  by_cases o19 : op = 19
  · by_cases hs : smI i
    · by_cases f1 : fm = 1 <;> simp only [o19, f1, if_pos hs, cv_of, if_true, if_false, not_true_eq_false, not_false_eq_true, show ¬ (19 : Int32) = 8 by decide, show ¬ (19 : Int32) = 9 by decide, show ¬ (19 : Int32) = 10 by decide, show ¬ (19 : Int32) = 11 by decide, show ¬ (19 : Int32) = 12 by decide, show ¬ (19 : Int32) = 13 by decide, show ¬ (19 : Int32) = 14 by decide, show ¬ (19 : Int32) = 15 by decide, show ¬ (19 : Int32) = 16 by decide, show ¬ (19 : Int32) = 17 by decide, show ¬ (19 : Int32) = 18 by decide, show ¬ (19 : Int32) = 20 by decide, or_self, show ¬ (1 : Int32) = 0 by decide]
    · by_cases f1 : fm = 1 <;> simp only [o19, f1, if_neg hs, cv_of, if_true, if_false, not_true_eq_false, not_false_eq_true, show ¬ (19 : Int32) = 8 by decide, show ¬ (19 : Int32) = 9 by decide, show ¬ (19 : Int32) = 10 by decide, show ¬ (19 : Int32) = 11 by decide, show ¬ (19 : Int32) = 12 by decide, show ¬ (19 : Int32) = 13 by decide, show ¬ (19 : Int32) = 14 by decide, show ¬ (19 : Int32) = 15 by decide, show ¬ (19 : Int32) = 16 by decide, show ¬ (19 : Int32) = 17 by decide, show ¬ (19 : Int32) = 18 by decide, show ¬ (19 : Int32) = 20 by decide, or_self, show ¬ (1 : Int32) = 0 by decide]
  by_cases o20 : op = 20
  · simp [o20]
  by_cases o21 : op = 21
  · simp [o21]
  by_cases o22 : op = 22
  · simp [o22]
  · simp only [o8, o9, o10, o11, o12, o13, o14, o15, o16, o17, o18, o19, o20, o21, o22, if_false, or_self]
    by_cases f5 : fm = 5
    · by_cases hs : smI i
      · simp only [f5, if_pos hs, cv_of, if_true, if_false, true_or, show ¬ (1 : Int32) = 0 by decide]
      · simp only [f5, if_neg hs, cv_of, if_true, if_false, true_or, show ¬ (1 : Int32) = 0 by decide]
    · by_cases f6 : fm = 6
      · by_cases hs : smI i
        · simp only [f6, if_pos hs, cv_of, if_true, if_false, or_true, not_true_eq_false, show ¬ (6 : Int32) = 5 by decide, show ¬ (1 : Int32) = 0 by decide]
        · simp only [f6, if_neg hs, cv_of, if_true, if_false, or_true, not_true_eq_false, show ¬ (6 : Int32) = 5 by decide, show ¬ (1 : Int32) = 0 by decide]
      · by_cases f3 : fm = 3
        · simp only [f3, if_true, if_false, not_true_eq_false, not_false_eq_true, show ¬ (3 : Int32) = 5 by decide, show ¬ (3 : Int32) = 6 by decide, or_self, cv_of]
        · simp only [f3, f5, f6, if_true, if_false, not_true_eq_false, not_false_eq_true, or_self, cv_of]
theorem c_hasO (I : Inst σ 31 op fm r x d i) : Piece_hasOperand 31 (cP σ L) = some (if hsO op fm then 1 else 0, cP σ L) := by
  obtain ⟨i0, i1, i2, i3, i4, i5⟩ := I
  have ci : ∀ L, cP σ L 31 = σ 31 := fun L => cP_row (by decide) (by decide)
  unfold Piece_hasOperand
  simp only [ci, i0, i1]
  by_cases f1 : fm = 1
  · by_cases o12 : op = 12
    · simp [f1, o12]
    · by_cases o13 : op = 13 <;> simp [f1, o12, o13]
  · by_cases f0 : fm = 0
    · simp [f0]
    · by_cases f8 : fm = 8
      · simp [f8]
      · by_cases f5 : fm = 5
        · by_cases o8 : op = 8 <;> simp [f5, o8]
        · simp [f0, f1, f8, f5]
theorem c_mid (I : Inst σ 31 op fm r x d i) : Piece_middleOf 31 (cP σ L) = some (eMid op fm r x, cP σ L) := by
  obtain ⟨i0, i1, i2, i3, i4, i5⟩ := I
  have ci : ∀ L, cP σ L 31 = σ 31 := fun L => cP_row (by decide) (by decide)
  unfold Piece_middleOf eMid
  simp only [ci, i0, i1, i2, i3, nm_of]
  by_cases f2 : fm = 2
  · by_cases o11 : op = 11 <;> simp [f2, o11]
  · by_cases f3 : fm = 3
    · simp [f3]
    · by_cases f4 : fm = 4
      · simp [f4]
      · by_cases o8 : op = 8
        · simp [f2, f3, f4, o8]
        by_cases o9 : op = 9
        · simp [f2, f3, f4, o9]
        by_cases o10 : op = 10
        · simp [f2, f3, f4, o10]
        by_cases o11 : op = 11
        · simp [f2, f3, f4, o11]
        by_cases o12 : op = 12
        · simp [f2, f3, f4, o12]
        by_cases o13 : op = 13
        · simp [f2, f3, f4, o13]
        by_cases o14 : op = 14
        · simp [f2, f3, f4, o14]
        by_cases o15 : op = 15
        · simp [f2, f3, f4, o15]
        by_cases o16 : op = 16
        · simp [f2, f3, f4, o16]
        · simp [f2, f3, f4, o8, o9, o10, o11, o12, o13, o14, o15, o16]
theorem c_215 (I : Inst σ 31 op fm r x d i) (hL : L.length ≤ 8) (b mo : Int32) : Piece_putOperand_B215 29 31 (if b = 8 then 1 else 0) mo (cP σ L) = some (cP σ (L ++ eMd b mo d)) := by
  obtain ⟨i0, i1, i2, i3, i4, i5⟩ := I
  have ci : ∀ L, cP σ L 31 = σ 31 := fun L => cP_row (by decide) (by decide)
  unfold Piece_putOperand_B215 eMd
  rw [ci, i4, c_four (by omega), c_put (by omega), cv_of, cv_of]
  by_cases b8 : b = 8
  · rw [if_pos b8, if_pos (by decide), if_pos (Or.inl b8)]
  · rw [if_neg b8, if_neg (by decide)]
    by_cases m2 : mo = 2
    · rw [if_neg (not_not_intro m2), if_pos (Or.inr m2)]
    · rw [if_pos m2, if_neg (show ¬ (b = 8 ∨ mo = 2) from fun z => by rcases z with z | z; exact b8 z; exact m2 z)]
      by_cases m1 : mo = 1
      · rw [if_neg (not_not_intro m1), if_pos m1]
      · rw [if_pos m1, if_neg m1, List.append_nil]
theorem c_128 (I : Inst σ 31 op fm r x d i) (hL : L.length ≤ 2) (k b mo : Int32) (hb : b = x &&& 15) : Piece_putOperand_B128 29 31 (8 * k) b (if b = 8 then 1 else 0) (if (shr x 4) &&& 15 = 8 then 1 else 0) mo (cP σ L) = some (cP σ (L ++ (eMm k b ((shr x 4) &&& 15) ((shr x 8) &&& 3) mo ++ eMd b mo d))) := by
  have ci : ∀ L, cP σ L 31 = σ 31 := fun L => cP_row (by decide) (by decide)
  have i3 := I.2.2.2.1
  have n10 : ¬ (1 : Int32) = 0 := by decide
  have w : ∀ (a : Int32), Piece_putOperand_B215 29 31 (if b = 8 then 1 else 0) mo (cP σ (L ++ [bt a])) = some (cP σ (L ++ bt a :: eMd b mo d)) := fun a => by
    rw [c_215 I (L := L ++ [bt a]) (by simp; omega) b mo, List.append_assoc]; rfl
  have w2 : ∀ (a a2 : Int32), Piece_putOperand_B215 29 31 (if b = 8 then 1 else 0) mo (cP σ (L ++ [bt a, bt a2])) = some (cP σ (L ++ bt a :: bt a2 :: eMd b mo d)) := fun a a2 => by
    rw [c_215 I (L := L ++ [bt a, bt a2]) (by simp; omega) b mo, List.append_assoc]; rfl
  have p1 : ∀ a : Int32, Piece_put 29 a (cP σ L) = some (cP σ (L ++ [bt a])) := fun a => c_put (by omega) a
  have p2 : ∀ a a2 : Int32, Piece_put 29 a2 (cP σ (L ++ [bt a])) = some (cP σ (L ++ [bt a, bt a2])) := fun a a2 => by
    rw [c_put (L := L ++ [bt a]) (by simp; omega) a2, List.append_assoc]; rfl
  unfold Piece_putOperand_B128 Piece_putOperand_B163 Instruction_scale Instruction_index eMm
  simp only [p1, p2, cv_of, cl_of, ci, i3]
  by_cases j8 : (shr x 4) &&& 15 = 8
  · by_cases b4 : b = 4
    · subst b4
      have w2' := w2
      simp only [show ¬ (4 : Int32) = 8 by decide, if_false] at w2'
      simp only [j8, n10, if_true, if_false, true_and, not_true_eq_false, show ¬ (4 : Int32) = 8 by decide, w2', List.append_assoc, List.cons_append, List.nil_append]
    · by_cases b8 : b = 8
      · have w' := w
        rw [if_pos b8] at w'
        simp only [j8, b4, b8, n10, if_true, if_false, true_and, not_false_eq_true, show ¬ (8 : Int32) = 4 by decide, List.append_assoc, List.cons_append, List.nil_append]
        rw [b8] at w'
        rw [w']
      · have w' := w
        rw [if_neg b8] at w'
        simp only [j8, b4, b8, n10, if_true, if_false, true_and, not_false_eq_true, w', List.append_assoc, List.cons_append, List.nil_append]
  · by_cases b8 : b = 8
    · have w' := w2
      rw [if_pos b8] at w'
      rw [b8] at w' ⊢
      simp only [j8, n10, if_true, if_false, false_and, w', List.append_assoc, List.cons_append, List.nil_append]
    · have w' := w2
      rw [if_neg b8] at w'
      simp only [j8, b8, n10, if_true, if_false, false_and, w', List.append_assoc, List.cons_append, List.nil_append]
theorem c_opnd (I : Inst σ 31 op fm r x d i) (hL : L.length ≤ 2) : Piece_putOperand 29 31 (cP σ L) = some (cP σ (L ++ (if memF fm then eMem (eMid op fm r x) x d else [bt ((192 + 8 * eMid op fm r x) + (if fm = 2 ∧ op = 11 then x else r))]))) := by
  have ci : ∀ L, cP σ L 31 = σ 31 := fun L => cP_row (by decide) (by decide)
  obtain ⟨i0, i1, i2, i3, i4, i5⟩ := id I
  have p1 : ∀ a : Int32, Piece_put 29 a (cP σ L) = some (cP σ (L ++ [bt a])) := fun a => c_put (by omega) a
  unfold Piece_putOperand Instruction_base
  simp only [c_mid I, cl_of, nm_of, ci, i0, i1, i2, i3, hmf_eq, p1, cv_of]
  by_cases cm : memF fm
  · rw [if_pos cm, if_pos (by decide), if_pos cm]
    unfold Piece_putOperand_B73 Instruction_index Piece_putOperand_B89 Piece_putOperand_B106 eMem
    simp only [cl_of, ci, i3, i4, cs_eq]
    have w := fun mo => c_128 I hL (eMid op fm r x) (x &&& 15) mo rfl
    generalize hb : x &&& 15 = b at w ⊢
    generalize hj : (shr x 4) &&& 15 = j at w ⊢
    have n10 : ¬ (1 : Int32) = 0 := by decide
    unfold eMo
    by_cases b8 : b = 8
    · have b8' : b = 8 := b8
      subst b8'
      by_cases j8 : j = 8
      · subst j8
        simp only [if_true, n10, if_false] at w
        by_cases hs : smI d
        · simp only [if_pos hs, cv_of, n10, if_true, if_false, not_true_eq_false, not_false_eq_true, true_or, w]
        · simp only [if_neg hs, cv_of, n10, if_true, if_false, not_true_eq_false, not_false_eq_true, true_or, w]
      · simp only [if_true, j8, if_false] at w
        by_cases hs : smI d
        · simp only [if_pos hs, cv_of, j8, n10, if_true, if_false, not_true_eq_false, not_false_eq_true, true_or, w]
        · simp only [if_neg hs, cv_of, j8, n10, if_true, if_false, not_true_eq_false, not_false_eq_true, true_or, w]
    · have hw : ∀ mo, Piece_putOperand_B128 29 31 (8 * eMid op fm r x) b 0 (if j = 8 then 1 else 0) mo (cP σ L) = some (cP σ (L ++ (eMm (eMid op fm r x) b j ((shr x 8) &&& 3) mo ++ eMd b mo d))) := fun mo => by have := w mo; rw [if_neg b8] at this; exact this
      by_cases j8 : j = 8
      · simp only [j8, if_true] at hw
        by_cases hs : smI d
        · by_cases d0 : d = 0 <;> by_cases b5 : b = 5 <;> simp only [if_pos hs, cv_of, j8, b8, d0, b5, n10, if_true, if_false, not_true_eq_false, not_false_eq_true, false_or, true_and, false_and, and_self, and_false, and_true, hw] <;> simp_all <;> rw [if_pos (show smI 0 by decide)]
        · by_cases d0 : d = 0 <;> by_cases b5 : b = 5 <;> simp only [if_neg hs, cv_of, j8, b8, d0, b5, n10, if_true, if_false, not_true_eq_false, not_false_eq_true, false_or, true_and, false_and, and_self, and_false, and_true, hw] <;> simp_all
      · simp only [j8, if_false] at hw
        by_cases hs : smI d
        · by_cases d0 : d = 0 <;> by_cases b5 : b = 5 <;> simp only [if_pos hs, cv_of, j8, b8, d0, b5, n10, if_true, if_false, not_true_eq_false, not_false_eq_true, false_or, true_and, false_and, and_self, and_false, and_true, hw] <;> simp_all <;> rw [if_pos (show smI 0 by decide)]
        · by_cases d0 : d = 0 <;> by_cases b5 : b = 5 <;> simp only [if_neg hs, cv_of, j8, b8, d0, b5, n10, if_true, if_false, not_true_eq_false, not_false_eq_true, false_or, true_and, false_and, and_self, and_false, and_true, hw] <;> simp_all
  · rw [if_neg cm, if_neg (by decide), if_neg cm]
    by_cases f2 : fm = 2
    · by_cases o11 : op = 11 <;> simp only [f2, o11, if_true, if_false, not_true_eq_false, not_false_eq_true, and_self, and_false]
    · simp only [f2, if_true, if_false, not_true_eq_false, not_false_eq_true, false_and]
theorem c_val (I : Inst σ 31 op fm r x d i) (hL : L.length ≤ 12) : Piece_putValue 29 31 (cP σ L) = some (cP σ (L ++ eVal op fm i)) := by
  have ci : ∀ L, cP σ L 31 = σ 31 := fun L => cP_row (by decide) (by decide)
  obtain ⟨i0, i1, i2, i3, i4, i5⟩ := id I
  have sh : House_isShift op (cP σ L) = some (if isSh op then 1 else 0, cP σ L) := by
    unfold House_isShift
    by_cases h1 : op < 14
    · rw [if_pos h1, if_neg (fun z => z.1 h1)]
    · rw [if_neg h1]
      by_cases h2 : 16 < op
      · rw [if_pos h2, if_neg (fun z => z.2 h2)]
      · rw [if_neg h2, if_pos ⟨h1, h2⟩]
  have e27 : Piece_putValue_B27 29 31 (cP σ L) = some (cP σ (L ++ (if isSh op ∨ (¬ op = 8 ∧ smI i) then [bt i] else four i))) := by
    unfold Piece_putValue_B27
    rw [ci, i0, sh, cl_of, ci, i0, i5, c_put (by omega), cv_of, c_four hL, cv_of, cs_eq, cl_of, ci, i5, c_put (by omega), cv_of, c_four hL, cv_of]
    by_cases h1 : isSh op
    · rw [if_pos h1, if_pos (by decide), if_pos (Or.inl h1)]
    · rw [if_neg h1, if_neg (by decide)]
      by_cases o8 : op = 8
      · rw [if_pos o8, if_neg (fun z => by rcases z with z | z; exact h1 z; exact z.1 o8)]
      · rw [if_neg o8]
        by_cases hs : smI i
        · rw [if_pos hs, if_neg (by decide), if_pos (Or.inr ⟨o8, hs⟩)]
        · rw [if_neg hs, if_pos rfl, if_neg (fun z => by rcases z with z | z; exact h1 z; exact hs z.2)]
  unfold Piece_putValue eVal
  rw [ci, i1, e27]
  by_cases f5 : fm = 5
  · rw [if_pos f5, if_pos (Or.inl f5)]
  · rw [if_neg f5]
    by_cases f6 : fm = 6
    · rw [if_pos f6, if_pos (Or.inr (Or.inl f6))]
    · rw [if_neg f6]
      by_cases f8 : fm = 8
      · rw [if_pos f8, if_pos (Or.inr (Or.inr f8))]
      · rw [if_neg f8, if_neg (fun z => by rcases z with z | z | z; exact f5 z; exact f6 z; exact f8 z), List.append_nil]
theorem c_become (I : Inst σ 31 op fm r x d i) : Piece_become 29 31 σ = some (cP σ (enc op fm r x d i)) := by
  have l1 := eLead_l op fm r i
  have l2 := eOp_l op fm r x d
  unfold Piece_become enc
  rw [nm_of, cP_nil, c_lead I, cv_of, c_hasO I, cl_of]
  unfold eOp at l2 ⊢
  by_cases h : hsO op fm
  · rw [if_pos h] at l2
    rw [if_pos h, if_neg (by decide), if_pos h, c_opnd I (by omega), cv_of, c_val I (by rw [List.length_append]; omega), cv_of]
  · rw [if_neg h, if_pos rfl, if_neg h, List.append_nil, c_val I (by omega), cv_of]
end
