section
variable {τ : St} {op fm r x d i : Int32} {L : List Int32} {q : Nat}
theorem eLead_lo (h : op < 8) : eLead op fm r i = [bt (if fm = 5 ∨ fm = 6 then (if smI i then 131 else 129) else 8 * op + (if fm = 3 then 3 else 1))] := by
  have n : ∀ c : Int32, 8 ≤ c → ¬ op = c := fun c hc => ne_lt h hc
  unfold eLead
  rw [if_neg (n 8 (by decide)), if_neg (n 9 (by decide)), if_neg (n 10 (by decide)), if_neg (n 11 (by decide)), if_neg (fun z => by rcases z with z | z; exact n 12 (by decide) z; exact n 13 (by decide) z), if_neg (fun z => by rcases z with z | z | z; exact n 14 (by decide) z; exact n 15 (by decide) z; exact n 16 (by decide) z), if_neg (fun z => by rcases z with z | z | z; exact n 17 (by decide) z; exact n 18 (by decide) z; exact n 20 (by decide) z), if_neg (n 19 (by decide)), if_neg (n 21 (by decide)), if_neg (n 22 (by decide))]
theorem eMid_lo (h : op < 8) (h2 : ¬ fm = 2) (h3 : ¬ fm = 3) (h4 : ¬ fm = 4) : eMid op fm r x = op := by
  have n : ∀ c : Int32, 8 ≤ c → ¬ op = c := fun c hc => ne_lt h hc
  unfold eMid
  rw [if_neg h2, if_neg (fun z => by rcases z with z | z; exact h3 z; exact h4 z), if_neg (n 8 (by decide)), if_neg (n 12 (by decide)), if_neg (n 13 (by decide)), if_neg (n 14 (by decide)), if_neg (n 15 (by decide)), if_neg (n 16 (by decide))]
/-- what the reference writes where I is told -/
theorem m_num (hq : q < 240) (hf : τ 73 q = fm) (hd : fm = 6 → τ 76 q = d) (h56 : fm = 5 ∨ fm = 6) (hx : fm = 6 → memX x) (ho : (¬ op < 0 ∧ op < 9) ∨ op = 14 ∨ op = 15 ∨ op = 16) : Mo_encodeNumber 67 (nI q) op r x i (mP τ []) = some (mP τ (enc op fm r x d i)) := by
  have lx : ∀ (c : Nat) (L : List Int32) (f : Int32 → Option St), c ≠ 67 → c ≠ 83 → ld (mP τ L) c 240 (nI q) f = f (τ c q) := fun c L f h1 h2 => by rw [ld_nI hq (by decide), mP_row h1 h2]
  have n10 : ¬ (1 : Int32) = 0 := by decide
  have one : ∀ (L : List Int32) (b : Int32), L.length ≤ 12 → Mo_encodeNumber_B197 67 i b (mP τ L) = some (mP τ (L ++ (if b = 0 then four i else [bt i]))) := fun L b hL => by
    unfold Mo_encodeNumber_B197
    rw [m_four hL, cv_of, m_put (by omega), cv_of]
    by_cases c : b = 0
    · rw [if_pos c, if_pos c]
    · rw [if_neg c, if_neg c]
  have b165 : ∀ (k v9 t1 : Int32), Mo_encodeNumber_B165 67 (nI q) r x i (if fm = 5 then 1 else 0) k v9 67 t1 (mP τ []) = some (mP τ (([bt t1] ++ (if fm = 5 then [bt ((192 + 8 * k) + r)] else eMem k x d)) ++ (if v9 = 0 then four i else [bt i]))) := by
    intro k v9 t1
    unfold Mo_encodeNumber_B165
    rw [m_put (L := []) (by decide), cv_of, cc_67_16, lx 76 _ _ (by decide) (by decide), List.nil_append]
    rcases h56 with e | e
    · rw [if_pos e, if_neg n10, if_pos e, m_putR (by simp), cv_of, one _ _ (by simp)]
    · have ne : ¬ fm = 5 := by rw [e]; decide
      rw [if_neg ne, if_pos rfl, if_neg ne, hd e, m_mem (hx e) (by simp), cv_of, one _ _ (by have := eMem_l k x d; simp; omega)]
  have hfm : hsO op fm ↔ ¬ (fm = 5 ∧ op = 8) := by
    rcases h56 with e | e <;> simp [hsO, e]
  have mf : memF fm ↔ ¬ fm = 5 := by
    rcases h56 with e | e <;> simp [memF, e]
  have f2 : ¬ fm = 2 ∧ ¬ fm = 3 ∧ ¬ fm = 4 := by rcases h56 with e | e <;> rw [e] <;> decide
  have eo : ∀ k, eMid op fm r x = k → ¬ (fm = 5 ∧ op = 8) → eOp op fm r x d = (if fm = 5 then [bt ((192 + 8 * k) + r)] else eMem k x d) := by
    intro k hk hn
    unfold eOp
    rw [if_pos (hfm.mpr hn), hk]
    by_cases e : fm = 5
    · rw [if_neg (fun z => mf.mp z e), if_pos e, if_neg (fun z => f2.1 z.1)]
    · rw [if_pos (mf.mpr e), if_neg e]
  have ev : eVal op fm i = if isSh op ∨ (¬ op = 8 ∧ smI i) then [bt i] else four i := by
    unfold eVal; rw [if_pos (by rcases h56 with e | e; exact Or.inl e; exact Or.inr (Or.inl e))]
  unfold Mo_encodeNumber enc
  rw [cc_67_13, lx 73 _ _ (by decide) (by decide), hf]
  have e15 : (if ¬ fm = 5 then Mo_encodeNumber_B15 67 (nI q) op r x i 0 (mP τ []) else Mo_encodeNumber_B15 67 (nI q) op r x i 1 (mP τ [])) = Mo_encodeNumber_B15 67 (nI q) op r x i (if fm = 5 then 1 else 0) (mP τ []) := by
    by_cases e : fm = 5
    · rw [if_neg (not_not_intro e), if_pos e]
    · rw [if_pos e, if_neg e]
  rw [e15]
  unfold Mo_encodeNumber_B15 Mo_encodeNumber_B55 Mo_encodeNumber_B99 Mo_encodeNumber_B125
  simp only [mes_eq, cl_of]
  by_cases o8 : op = 8
  · subst o8
    by_cases e : fm = 5
    · simp only [not_true_eq_false, if_false, e, if_true, n10]
      rw [m_put (L := []) (by decide), cv_of, m_four (by simp), cv_of]
      rw [e] at ev
      unfold eLead eOp
      rw [if_pos rfl, if_pos rfl, if_neg (by decide), ev, if_neg (fun z => by rcases z with z | z; exact absurd z (by decide); exact z.1 rfl)]
      rfl
    · simp only [not_true_eq_false, if_false, e, if_true, show ((8 : Int32) < 14) = True by decide, show ((8 : Int32) ≤ 8) = True by decide]
      have := b165 0 0 199
      rw [if_neg e] at this
      rw [this, eo 0 (by unfold eMid; rw [if_neg f2.1, if_neg (fun z => by rcases z with z | z; exact f2.2.1 z; exact f2.2.2 z), if_pos rfl]) (fun z => e z.1), ev, if_neg (show ¬ (isSh 8 ∨ (¬ (8 : Int32) = 8 ∧ smI i)) from fun z => by rcases z with z | z; exact absurd z (by decide); exact z.1 rfl), if_neg e]
      have el : eLead 8 fm r i = [bt 199] := by unfold eLead; rw [if_pos rfl, if_neg e, if_pos (h56.resolve_left e)]
      rw [el, if_pos rfl]
  · have hsh : ∀ k : Int32, (op = 14 ∨ op = 15 ∨ op = 16) → eMid op fm r x = k → some (mP τ (([bt 193] ++ (if fm = 5 then [bt ((192 + 8 * k) + r)] else eMem k x d)) ++ [bt i])) = some (mP τ ((eLead op fm r i ++ eOp op fm r x d) ++ eVal op fm i)) := by
      intro k h3 hk
      rw [eo k hk (fun z => o8 z.2), ev, if_pos (Or.inl (by rcases h3 with e | e | e <;> rw [e] <;> decide))]
      have : eLead op fm r i = [bt 193] := by
        unfold eLead
        rcases h3 with e | e | e <;> simp [e]
      rw [this]
    have mid : ∀ c k : Int32, op = c → (c = 14 ∧ k = 4 ∨ c = 15 ∧ k = 5 ∨ c = 16 ∧ k = 7) → eMid op fm r x = k := by
      intro c k h1 h2
      unfold eMid
      rw [if_neg f2.1, if_neg (fun z => by rcases z with z | z; exact f2.2.1 z; exact f2.2.2 z), h1]
      rcases h2 with ⟨rfl, rfl⟩ | ⟨rfl, rfl⟩ | ⟨rfl, rfl⟩ <;> simp
    have b9 : ∀ k v9 t1, (if fm = 5 then (1 : Int32) else 0) = (if fm = 5 then 1 else 0) → Mo_encodeNumber_B165 67 (nI q) r x i (if fm = 5 then 1 else 0) k v9 67 t1 (mP τ []) = some (mP τ (([bt t1] ++ (if fm = 5 then [bt ((192 + 8 * k) + r)] else eMem k x d)) ++ (if v9 = 0 then four i else [bt i]))) := fun k v9 t1 _ => b165 k v9 t1
    rcases ho with ⟨h0, h9⟩ | h14 | h15 | h16
    · have h8 : op < 8 := by
        obtain ⟨j, hj, rfl⟩ := to_nI (m := 9) h0 9 rfl (by decide) h9
        have : ∀ j, j < 9 → ¬ nI j = 8 → nI j < 8 := by decide +kernel
        exact this j hj o8
      have n : ∀ c : Int32, 8 ≤ c → ¬ op = c := fun c hc => ne_lt h8 hc
      have h14 : op < 14 := lt_of h8 (by decide)
      have n8le : ¬ (8 : Int32) ≤ op := by rw [le_nlt]; exact not_not_intro h8
      simp only [o8, not_false_eq_true, if_true, h14, n 14 (by decide), n 15 (by decide), n 16 (by decide), not_true_eq_false, if_false, n8le]
      rw [eo op (eMid_lo h8 f2.1 f2.2.1 f2.2.2) (fun z => o8 z.2), ev, eLead_lo h8, if_pos h56]
      have nsh : ¬ isSh op := fun z => z.1 h14
      by_cases hs : smI i
      · rw [if_pos hs, if_neg n10, if_neg n10, b165, if_neg n10, if_pos hs, if_pos (Or.inr ⟨o8, hs⟩)]
      · rw [if_neg hs, if_pos rfl, b165, if_pos rfl, if_neg hs, if_neg (show ¬ (isSh op ∨ (¬ op = 8 ∧ smI i)) from fun z => by rcases z with z | z; exact nsh z; exact hs z.2)]
    · have e := hsh 4 (Or.inl h14) (mid 14 4 h14 (Or.inl ⟨rfl, rfl⟩))
      subst h14
      rw [← e]
      simp only [show ¬ (14 : Int32) = 8 by decide, not_false_eq_true, if_true, show ((14 : Int32) < 14) = False by decide, if_false, not_true_eq_false, n10, b165]
    · have e := hsh 5 (Or.inr (Or.inl h15)) (mid 15 5 h15 (Or.inr (Or.inl ⟨rfl, rfl⟩)))
      subst h15
      rw [← e]
      simp only [show ¬ (15 : Int32) = 8 by decide, show ¬ (15 : Int32) = 14 by decide, not_false_eq_true, if_true, show ((15 : Int32) < 14) = False by decide, if_false, not_true_eq_false, n10, b165]
    · have e := hsh 7 (Or.inr (Or.inr h16)) (mid 16 7 h16 (Or.inr (Or.inr ⟨rfl, rfl⟩)))
      subst h16
      rw [← e]
      simp only [show ¬ (16 : Int32) = 8 by decide, show ¬ (16 : Int32) = 14 by decide, show ¬ (16 : Int32) = 15 by decide, not_false_eq_true, if_true, show ((16 : Int32) < 14) = False by decide, if_false, not_true_eq_false, n10, b165]
end
