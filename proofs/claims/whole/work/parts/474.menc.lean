section
variable {τ : St} {op fm r x d i : Int32} {L : List Int32}
theorem m_179 (hL : L.length ≤ 8) (b mo : Int32) (h : b = 8 → ¬ mo = 1) : Mo_putMemory_B179 67 d b mo (mP τ L) = some (mP τ (L ++ eMd b mo d)) := by
  unfold Mo_putMemory_B179 eMd
  rw [m_four (by omega), cv_of, m_put (by omega), cv_of, m_four (by simp; omega), cv_of]
  by_cases m1 : mo = 1
  · have b8 : ¬ b = 8 := fun z => h z m1
    rw [if_neg (not_not_intro m1), if_neg (show ¬ mo = 2 by rw [m1]; decide), if_pos b8, if_neg (show ¬ (b = 8 ∨ mo = 2) from fun z => by rcases z with z | z; exact b8 z; rw [m1] at z; exact absurd z (by decide)), if_pos m1]
  · rw [if_pos m1]
    by_cases m2 : mo = 2
    · rw [if_pos m2, if_pos (Or.inr m2)]
    · rw [if_neg m2]
      by_cases b8 : b = 8
      · rw [if_neg (not_not_intro b8), if_pos (Or.inl b8)]
      · rw [if_pos b8, if_neg (show ¬ (b = 8 ∨ mo = 2) from fun z => by rcases z with z | z; exact b8 z; exact m2 z), if_neg m1, List.append_nil]
theorem sib_eq {s a b : Int32} (h1 : ¬ s < 0) (h2 : s < 4) : (a * 8 + b) + shl s 6 = (64 * (s &&& 3) + 8 * a) + b := by
  obtain ⟨j, hj, rfl⟩ := to_nI (m := 4) h1 4 rfl (by decide) h2
  have : ∀ j, j < 4 → shl (nI j) 6 = 64 * (nI j &&& 3) := by decide +kernel
  rw [this j hj, Int32.add_comm _ (64 * (nI j &&& 3)), Int32.mul_comm a 8, Int32.add_assoc]
theorem m_mem (hx : memX x) (hL : L.length ≤ 2) (k : Int32) : Mo_putMemory 67 k x d (mP τ L) = some (mP τ (L ++ eMem k x d)) := by
  obtain ⟨a1, a2, a3, a4, a5, a6⟩ := hx
  unfold Mo_putMemory
  simp only [nm_of]
  have p1 : ∀ a : Int32, Mo_put 67 a (mP τ L) = some (mP τ (L ++ [bt a])) := fun a => m_put (by omega) a
  have p2 : ∀ a a2 : Int32, Mo_put 67 a2 (mP τ (L ++ [bt a])) = some (mP τ (L ++ [bt a, bt a2])) := fun a a2 => by
    rw [m_put (L := L ++ [bt a]) (by simp; omega) a2, List.append_assoc]; rfl
  have w : ∀ (a b mo : Int32), (b = 8 → ¬ mo = 1) → Mo_putMemory_B179 67 d b mo (mP τ (L ++ [bt a])) = some (mP τ (L ++ bt a :: eMd b mo d)) := fun a b mo h => by
    rw [m_179 (L := L ++ [bt a]) (by simp; omega) b mo h, List.append_assoc]; rfl
  have w2 : ∀ (a a2 b mo : Int32), (b = 8 → ¬ mo = 1) → Mo_putMemory_B179 67 d b mo (mP τ (L ++ [bt a, bt a2])) = some (mP τ (L ++ bt a :: bt a2 :: eMd b mo d)) := fun a a2 b mo h => by
    rw [m_179 (L := L ++ [bt a, bt a2]) (by simp; omega) b mo h, List.append_assoc]; rfl
  have sb : ∀ a b : Int32, (a * 8 + b) + shl (shr x 8) 6 = (64 * ((shr x 8) &&& 3) + 8 * a) + b := fun a b => sib_eq a5 a6
  have hj : ((shr x 4) &&& 15 < 8) ↔ ¬ (shr x 4) &&& 15 = 8 := by
    obtain ⟨j, hj, e⟩ := to_nI (m := 9) a3 9 rfl (by decide) a4
    rw [e]
    have : ∀ j, j < 9 → (nI j < 8 ↔ ¬ nI j = 8) := by decide +kernel
    exact this j hj
  unfold eMem
  generalize x &&& 15 = b at *
  generalize (shr x 4) &&& 15 = j at *
  -- the mode
  have b77 : ∀ mo : Int32, (b = 8 → ¬ mo = 1) → ¬ (b = 8 ∧ j = 8) → Mo_putMemory_B77 67 k x d b j mo (mP τ L) = some (mP τ (L ++ (eMm k b j ((shr x 8) &&& 3) mo ++ eMd b mo d))) := by
    intro mo hmo hn
    have b104 : ∀ t : Int32, (t = 0 ∧ j = 8 ∧ ¬ b = 4) ∨ (t = 1 ∧ ¬ (j = 8 ∧ ¬ b = 4)) → Mo_putMemory_B104 67 k x d b j mo t (mP τ L) = some (mP τ (L ++ (eMm k b j ((shr x 8) &&& 3) mo ++ eMd b mo d))) := by
      intro t ht
      unfold Mo_putMemory_B104 Mo_putMemory_B128 Mo_putMemory_B167 eMm
      simp only [p1, p2, cv_of, sb]
      rcases ht with ⟨rfl, j8, b4⟩ | ⟨rfl, h4⟩
      · have b8 : ¬ b = 8 := fun z => hn ⟨z, j8⟩
        rw [if_pos rfl, if_pos rfl, if_pos ⟨j8, b4⟩, if_neg b8, w _ _ _ hmo]; rfl
      · rw [if_neg (by decide), if_neg (by decide), if_neg h4]
        by_cases j8 : j = 8
        · have b8 : ¬ b = 8 := fun z => hn ⟨z, j8⟩
          rw [if_neg (not_not_intro j8), if_pos b8, if_pos j8, if_neg b8, w2 _ _ _ _ hmo]; rfl
        · rw [if_pos j8, if_neg j8]
          by_cases b8 : b = 8
          · rw [if_neg (not_not_intro b8), if_pos b8, w2 _ _ _ _ hmo]; rfl
          · rw [if_pos b8, if_neg b8, w2 _ _ _ _ hmo]; rfl
    unfold Mo_putMemory_B77
    by_cases b4 : b = 4
    · rw [if_pos b4]; exact b104 1 (Or.inr ⟨rfl, fun z => z.2 b4⟩)
    · rw [if_neg b4]
      by_cases j8 : j = 8
      · rw [if_neg (fun z => hj.mp z j8), if_pos (fun z => hn ⟨z, j8⟩)]; exact b104 0 (Or.inl ⟨rfl, j8, b4⟩)
      · rw [if_pos (hj.mpr j8)]; exact b104 1 (Or.inr ⟨rfl, fun z => j8 z.1⟩)
  have b44 : ¬ (b = 8 ∧ j = 8) → Mo_putMemory_B44 67 k x d b j (mP τ L) = some (mP τ (L ++ (eMm k b j ((shr x 8) &&& 3) (eMo b d) ++ eMd b (eMo b d) d))) := by
    intro hn
    unfold Mo_putMemory_B44 eMo
    rw [mes_eq, cl_of]
    by_cases b8 : b = 8
    · rw [if_pos b8, if_pos (Or.inl b8)]; exact b77 0 (fun _ => by decide) hn
    · have s12 : (if (if smI d then (1 : Int32) else 0) = 0 then Mo_putMemory_B77 67 k x d b j 2 (mP τ L) else Mo_putMemory_B77 67 k x d b j 1 (mP τ L)) = some (mP τ (L ++ (eMm k b j ((shr x 8) &&& 3) (if smI d then 1 else 2) ++ eMd b (if smI d then 1 else 2) d))) := by
        by_cases hs : smI d
        · rw [if_pos hs, if_neg (by decide), if_pos hs]; exact b77 1 (fun z => absurd z b8) hn
        · rw [if_neg hs, if_pos rfl, if_neg hs]; exact b77 2 (fun z => absurd z b8) hn
      rw [if_neg b8]
      by_cases d0 : d = 0
      · rw [if_neg (not_not_intro d0)]
        by_cases b5 : b = 5
        · rw [if_pos b5, if_neg (show ¬ (b = 8 ∨ (d = 0 ∧ ¬ b = 5)) from fun z => by rcases z with z | z; exact b8 z; exact z.2 b5)]; exact s12
        · rw [if_neg b5, if_pos (Or.inr ⟨d0, b5⟩)]; exact b77 0 (fun _ => by decide) hn
      · rw [if_pos d0, if_neg (show ¬ (b = 8 ∨ (d = 0 ∧ ¬ b = 5)) from fun z => by rcases z with z | z; exact b8 z; exact d0 z.1)]; exact s12
  by_cases b8 : b = 8
  · rw [if_neg (not_not_intro b8)]
    by_cases j8 : j = 8
    · rw [if_neg (not_not_intro j8), p1, cv_of, m_four (by simp; omega), cv_of]
      unfold eMm eMd eMo
      rw [if_pos (Or.inl b8), if_pos (Or.inl b8), if_pos ⟨j8, by rw [b8]; decide⟩, if_pos b8, List.append_assoc, show (64 : Int32) * 0 = 0 from rfl, Int32.zero_add]
    · rw [if_pos j8]; exact b44 (fun z => j8 z.2)
  · rw [if_pos b8]; exact b44 (fun z => b8 z.1)
theorem m_left {o : Int32} (h0 : ¬ o < 0) (h : o < 10) (σ : St) : Mo_leftCode o σ = some (if o = 8 then 137 else if o = 9 then 133 else 8 * o + 1, σ) := by
  obtain ⟨j, hj, rfl⟩ := to_nI (m := 10) h0 10 rfl (by decide) h
  unfold Mo_leftCode
  by_cases c : (8 : Int32) ≤ nI j
  · rw [if_pos c]
    have : ∀ j, j < 10 → 8 ≤ nI j → (nI j = 8 ∨ nI j = 9) := by decide +kernel
    rcases this j hj c with e | e
    · rw [e]; rfl
    · rw [e]; rfl
  · rw [if_neg c]
    have n8 : ¬ nI j = 8 := fun z => c (by rw [z]; decide)
    have n9 : ¬ nI j = 9 := fun z => c (by rw [z]; decide)
    rw [if_neg n8, if_neg n9, Int32.add_comm]
end
