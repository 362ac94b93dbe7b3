/-! ===== what an INSTRUCTION taken apart looks like ===== -/
abbrev inR (r : Int32) : Prop := ¬ r < 0 ∧ r < 8
abbrev memX (x : Int32) : Prop := ¬ x &&& 15 < 0 ∧ x &&& 15 < 9 ∧ ¬ (shr x 4) &&& 15 < 0 ∧ (shr x 4) &&& 15 < 9 ∧ ¬ shr x 8 < 0 ∧ shr x 8 < 4
abbrev memF (fm : Int32) : Prop := fm = 3 ∨ fm = 4 ∨ fm = 6 ∨ fm = 7
abbrev WF (op fm r x : Int32) : Prop := (¬ op < 0 ∧ op < 29) ∧ (¬ fm < 0 ∧ fm < 9) ∧ (¬ fm < 1 ∧ fm < 6 → inR r) ∧ (fm = 2 → inR x) ∧ (memF fm → memX x) ∧ (op = 27 ∨ op = 28 → fm = 1) ∧ (op = 10 → fm = 3) ∧ (op = 20 → fm = 1)
theorem lo7 {v : Int32} (h : BY v) : inR (v &&& 7) := by_dec (P := fun v => inR (v &&& 7)) (by decide +kernel) h.1 h.2
theorem md7 {v : Int32} (h : BY v) : inR ((shr v 3) &&& 7) := by_dec (P := fun v => inR ((shr v 3) &&& 7)) (by decide +kernel) h.1 h.2
theorem hi3 {v : Int32} (h : BY v) : ¬ shr v 6 < 0 ∧ shr v 6 < 4 := by_dec (P := fun v => ¬ shr v 6 < 0 ∧ shr v 6 < 4) (by decide +kernel) h.1 h.2
theorem to_nI {v : Int32} {m : Nat} (h0 : ¬ v < 0) (c : Int32) (hc : nI m = c) (hm : m < 2 ^ 31) (h1 : v < c) : ∃ j, j < m ∧ v = nI j := by
  subst hc
  obtain ⟨j, hj, rfl⟩ := nI_of h0
  exact ⟨j, (nI_ltI hj hm).mp h1, rfl⟩
theorem memX_mk {ba ix sc : Int32} (h1 : ¬ ba < 0 ∧ ba < 9) (h2 : ¬ ix < 0 ∧ ix < 9) (h3 : ¬ sc < 0 ∧ sc < 4) : memX ((ba + 16 * ix) + 256 * sc) := by
  obtain ⟨a, ha, rfl⟩ := to_nI (m := 9) h1.1 9 rfl (by decide) h1.2
  obtain ⟨b, hb, rfl⟩ := to_nI (m := 9) h2.1 9 rfl (by decide) h2.2
  obtain ⟨c, hc, rfl⟩ := to_nI (m := 4) h3.1 4 rfl (by decide) h3.2
  have : ∀ a, a < 9 → ∀ b, b < 9 → ∀ c, c < 4 → memX ((nI a + 16 * nI b) + 256 * nI c) := by decide +kernel
  exact this a ha b hb c hc
theorem r9 {v : Int32} (h : inR v) : ¬ v < 0 ∧ v < 9 := ⟨h.1, lt_of h.2 (by decide)⟩
theorem mx_mem {mo ba ix sc : Int32} (h1 : inR ba) (h2 : ¬ ix < 0 ∧ ix < 9) (h3 : ¬ sc < 0 ∧ sc < 4) : memX (mx_x mo ba ix sc) := by
  unfold mx_x
  refine memX_mk ?_ h2 h3
  split
  · decide
  · exact r9 h1
theorem opnd_mem {row : Nat → Int32} {n p p' : Nat} {x ds : Int32} (hB : ∀ k, k < n → BY (row k)) (h : opnd row n p = some (0, x, ds, p')) : memX x := by
  unfold opnd at h
  by_cases hp : p < n
  · rw [if_pos hp] at h
    by_cases c3 : shr (row p) 6 = 3
    · rw [if_pos c3] at h; cases h
    · rw [if_neg c3] at h
      by_cases c4 : row p &&& 7 = 4
      · rw [if_pos c4] at h
        by_cases hp1 : p + 1 < n
        · rw [if_pos hp1] at h
          by_cases c7 : (shr (row (p + 1)) 3) &&& 7 = 4
          · rw [if_pos c7] at h; cases h; exact mx_mem (lo7 (hB _ hp1)) (by decide) (by decide)
          · rw [if_neg c7] at h; cases h; exact mx_mem (lo7 (hB _ hp1)) (r9 (md7 (hB _ hp1))) (hi3 (hB _ hp1))
        · rw [if_neg hp1] at h; cases h
      · rw [if_neg c4] at h; cases h; exact mx_mem (lo7 (hB _ hp)) (by decide) (by decide)
  · rw [if_neg hp] at h; cases h
theorem tk_mem {row : Nat → Int32} {n p p' : Nat} {x d : Int32} (hB : ∀ k, k < n → BY (row k)) (h : tk row n p = some (0, x, d, p')) : memX x := by
  unfold tk at h
  cases ho : opnd row n p with
  | none => rw [ho] at h; cases h
  | some u =>
    obtain ⟨ir, x1, ds, p1⟩ := u
    rw [ho] at h
    cases hd : num row n ds p1 with
    | none => simp only [hd] at h; cases h
    | some u => simp only [hd] at h; cases h; exact opnd_mem hB ho
theorem dI_some {row : Nat → Int32} {n p : Nat} {vs op fm r x d : Int32} {u : Ins} (h : dI row n vs op fm r x d p = some u) : u.1 = op ∧ u.2.1 = fm ∧ u.2.2.1 = r ∧ u.2.2.2.1 = x ∧ u.2.2.2.2.1 = d ∧ num row n vs p = some (u.2.2.2.2.2.1, u.2.2.2.2.2.2) := by
  unfold dI at h
  cases hd : num row n vs p with
  | none => rw [hd] at h; cases h
  | some w => rw [hd] at h; cases h; exact ⟨rfl, rfl, rfl, rfl, rfl, rfl⟩
/-- the sorts that the first bytes tell -/
abbrev sdOK (s : Int32 × Int32 × Int32 × Int32 × Int32) : Prop := s.1 = 9 ∨ (s.1 = 0 ∧ WF s.2.1 s.2.2.1 s.2.2.2.1 0) ∨ (s.1 = 1 ∧ (¬ s.2.1 < 0 ∧ s.2.1 < 10)) ∨ (s.1 = 2 ∧ (¬ s.2.1 < 0 ∧ s.2.1 < 12)) ∨ s.1 = 3
theorem sd_0op {l : Int32} (h : BY l) : (sd l).1 = 0 → (¬ (sd l).2.1 < 0 ∧ (sd l).2.1 < 29) := by_dec (P := fun l => (sd l).1 = 0 → (¬ (sd l).2.1 < 0 ∧ (sd l).2.1 < 29)) (by decide +kernel) h.1 h.2
theorem sd_0fm {l : Int32} (h : BY l) : (sd l).1 = 0 → (¬ (sd l).2.2.1 < 0 ∧ (sd l).2.2.1 < 9) := by_dec (P := fun l => (sd l).1 = 0 → (¬ (sd l).2.2.1 < 0 ∧ (sd l).2.2.1 < 9)) (by decide +kernel) h.1 h.2
theorem sd_0r {l : Int32} (h : BY l) : (sd l).1 = 0 → (¬ (sd l).2.2.1 < 1 ∧ (sd l).2.2.1 < 6 → inR (sd l).2.2.2.1) := by_dec (P := fun l => (sd l).1 = 0 → (¬ (sd l).2.2.1 < 1 ∧ (sd l).2.2.1 < 6 → inR (sd l).2.2.2.1)) (by decide +kernel) h.1 h.2
theorem sd_0m {l : Int32} (h : BY l) : (sd l).1 = 0 → (¬ memF (sd l).2.2.1) := by_dec (P := fun l => (sd l).1 = 0 → (¬ memF (sd l).2.2.1)) (by decide +kernel) h.1 h.2
theorem sd_0go {l : Int32} (h : BY l) : (sd l).1 = 0 → (¬ (sd l).2.1 = 27 ∧ ¬ (sd l).2.1 = 28) := by_dec (P := fun l => (sd l).1 = 0 → (¬ (sd l).2.1 = 27 ∧ ¬ (sd l).2.1 = 28)) (by decide +kernel) h.1 h.2
theorem sd_0le {l : Int32} (h : BY l) : (sd l).1 = 0 → (¬ (sd l).2.1 = 10) := by_dec (P := fun l => (sd l).1 = 0 → (¬ (sd l).2.1 = 10)) (by decide +kernel) h.1 h.2
theorem sd_0po {l : Int32} (h : BY l) : (sd l).1 = 0 → ((sd l).2.1 = 20 → (sd l).2.2.1 = 1) := by_dec (P := fun l => (sd l).1 = 0 → ((sd l).2.1 = 20 → (sd l).2.2.1 = 1)) (by decide +kernel) h.1 h.2
theorem sd_k {l : Int32} (h : BY l) : (sd l).1 = 9 ∨ (sd l).1 = 0 ∨ (sd l).1 = 1 ∨ (sd l).1 = 2 ∨ (sd l).1 = 3 := by_dec (P := fun l => (sd l).1 = 9 ∨ (sd l).1 = 0 ∨ (sd l).1 = 1 ∨ (sd l).1 = 2 ∨ (sd l).1 = 3) (by decide +kernel) h.1 h.2
theorem sd_1 {l : Int32} (h : BY l) : (sd l).1 = 1 → (¬ (sd l).2.1 < 0 ∧ (sd l).2.1 < 10) := by_dec (P := fun l => (sd l).1 = 1 → (¬ (sd l).2.1 < 0 ∧ (sd l).2.1 < 10)) (by decide +kernel) h.1 h.2
theorem sd_2 {l : Int32} (h : BY l) : (sd l).1 = 2 → (¬ (sd l).2.1 < 0 ∧ (sd l).2.1 < 12) := by_dec (P := fun l => (sd l).1 = 2 → (¬ (sd l).2.1 < 0 ∧ (sd l).2.1 < 12)) (by decide +kernel) h.1 h.2
theorem sd_ok {l : Int32} (h : BY l) : sdOK (sd l) := by
  rcases sd_k h with k | k | k | k | k
  · exact Or.inl k
  · have e := sd_0m h k
    exact Or.inr (Or.inl ⟨k, sd_0op h k, sd_0fm h k, sd_0r h k, fun _ => by decide, fun e2 => absurd e2 e, fun e2 => absurd e2 (by have := sd_0go h k; simp [this.1, this.2]), fun e2 => absurd e2 (sd_0le h k), sd_0po h k⟩)
  · exact Or.inr (Or.inr (Or.inl ⟨k, sd_1 h k⟩))
  · exact Or.inr (Or.inr (Or.inr (Or.inl ⟨k, sd_2 h k⟩)))
  · exact Or.inr (Or.inr (Or.inr (Or.inr k)))
theorem sd2_0op {l : Int32} (h : BY l) : (sd2 l).1 = 0 → (¬ (sd2 l).2.1 < 0 ∧ (sd2 l).2.1 < 29) := by_dec (P := fun l => (sd2 l).1 = 0 → (¬ (sd2 l).2.1 < 0 ∧ (sd2 l).2.1 < 29)) (by decide +kernel) h.1 h.2
theorem sd2_0fm {l : Int32} (h : BY l) : (sd2 l).1 = 0 → (¬ (sd2 l).2.2.1 < 0 ∧ (sd2 l).2.2.1 < 9) := by_dec (P := fun l => (sd2 l).1 = 0 → (¬ (sd2 l).2.2.1 < 0 ∧ (sd2 l).2.2.1 < 9)) (by decide +kernel) h.1 h.2
theorem sd2_0r {l : Int32} (h : BY l) : (sd2 l).1 = 0 → (¬ (sd2 l).2.2.1 < 1 ∧ (sd2 l).2.2.1 < 6 → inR (sd2 l).2.2.2.1) := by_dec (P := fun l => (sd2 l).1 = 0 → (¬ (sd2 l).2.2.1 < 1 ∧ (sd2 l).2.2.1 < 6 → inR (sd2 l).2.2.2.1)) (by decide +kernel) h.1 h.2
theorem sd2_0m {l : Int32} (h : BY l) : (sd2 l).1 = 0 → (¬ memF (sd2 l).2.2.1) := by_dec (P := fun l => (sd2 l).1 = 0 → (¬ memF (sd2 l).2.2.1)) (by decide +kernel) h.1 h.2
theorem sd2_0go {l : Int32} (h : BY l) : (sd2 l).1 = 0 → (¬ (sd2 l).2.1 = 27 ∧ ¬ (sd2 l).2.1 = 28) := by_dec (P := fun l => (sd2 l).1 = 0 → (¬ (sd2 l).2.1 = 27 ∧ ¬ (sd2 l).2.1 = 28)) (by decide +kernel) h.1 h.2
theorem sd2_0le {l : Int32} (h : BY l) : (sd2 l).1 = 0 → (¬ (sd2 l).2.1 = 10) := by_dec (P := fun l => (sd2 l).1 = 0 → (¬ (sd2 l).2.1 = 10)) (by decide +kernel) h.1 h.2
theorem sd2_0po {l : Int32} (h : BY l) : (sd2 l).1 = 0 → ((sd2 l).2.1 = 20 → (sd2 l).2.2.1 = 1) := by_dec (P := fun l => (sd2 l).1 = 0 → ((sd2 l).2.1 = 20 → (sd2 l).2.2.1 = 1)) (by decide +kernel) h.1 h.2
theorem sd2_k {l : Int32} (h : BY l) : (sd2 l).1 = 9 ∨ (sd2 l).1 = 0 ∨ (sd2 l).1 = 1 ∨ (sd2 l).1 = 2 ∨ (sd2 l).1 = 3 := by_dec (P := fun l => (sd2 l).1 = 9 ∨ (sd2 l).1 = 0 ∨ (sd2 l).1 = 1 ∨ (sd2 l).1 = 2 ∨ (sd2 l).1 = 3) (by decide +kernel) h.1 h.2
theorem sd2_1 {l : Int32} (h : BY l) : (sd2 l).1 = 1 → (¬ (sd2 l).2.1 < 0 ∧ (sd2 l).2.1 < 10) := by_dec (P := fun l => (sd2 l).1 = 1 → (¬ (sd2 l).2.1 < 0 ∧ (sd2 l).2.1 < 10)) (by decide +kernel) h.1 h.2
theorem sd2_2 {l : Int32} (h : BY l) : (sd2 l).1 = 2 → (¬ (sd2 l).2.1 < 0 ∧ (sd2 l).2.1 < 12) := by_dec (P := fun l => (sd2 l).1 = 2 → (¬ (sd2 l).2.1 < 0 ∧ (sd2 l).2.1 < 12)) (by decide +kernel) h.1 h.2
theorem sd2_ok {l : Int32} (h : BY l) : sdOK (sd2 l) := by
  rcases sd2_k h with k | k | k | k | k
  · exact Or.inl k
  · have e := sd2_0m h k
    exact Or.inr (Or.inl ⟨k, sd2_0op h k, sd2_0fm h k, sd2_0r h k, fun _ => by decide, fun e2 => absurd e2 e, fun e2 => absurd e2 (by have := sd2_0go h k; simp [this.1, this.2]), fun e2 => absurd e2 (sd2_0le h k), sd2_0po h k⟩)
  · exact Or.inr (Or.inr (Or.inl ⟨k, sd2_1 h k⟩))
  · exact Or.inr (Or.inr (Or.inr (Or.inl ⟨k, sd2_2 h k⟩)))
  · exact Or.inr (Or.inr (Or.inr (Or.inr k)))
theorem gop_ok {l md ir : Int32} (hm : inR md) (h : ¬ gop l md ir = -1) : (¬ gop l md ir < 0 ∧ gop l md ir < 29) ∧ (gop l md ir = 27 ∨ gop l md ir = 28 → l = 255 ∧ ¬ ir = 0) ∧ ¬ gop l md ir = 10 ∧ ¬ gop l md ir = 20 := by
  obtain ⟨j, hj, rfl⟩ := to_nI (m := 8) hm.1 8 rfl (by decide) hm.2
  unfold gop at h ⊢
  have hA : ∀ j, j < 8 → ¬ nI j < 0 ∧ nI j < 29 ∧ ¬ nI j = 27 ∧ ¬ nI j = 28 ∧ ¬ nI j = 10 ∧ ¬ nI j = 20 := by decide +kernel
  by_cases c1 : l = 193
  · simp only [if_pos c1] at h ⊢
    by_cases d4 : nI j = 4
    · simp only [if_pos d4]; exact ⟨by decide, fun h => absurd h (by decide), by decide, by decide⟩
    · by_cases d5 : nI j = 5
      · simp only [if_neg d4, if_pos d5]; exact ⟨by decide, fun h => absurd h (by decide), by decide, by decide⟩
      · by_cases d7 : nI j = 7
        · simp only [if_neg d4, if_neg d5, if_pos d7]; exact ⟨by decide, fun h => absurd h (by decide), by decide, by decide⟩
        · simp only [if_neg d4, if_neg d5, if_neg d7] at h; exact absurd trivial h
  · simp only [if_neg c1] at h ⊢
    by_cases c2 : l = 199
    · simp only [if_pos c2] at h ⊢
      by_cases d : nI j = 0
      · simp only [if_pos d]; exact ⟨by decide, fun h => absurd h (by decide), by decide, by decide⟩
      · simp only [if_neg d] at h; exact absurd trivial h
    · simp only [if_neg c2] at h ⊢
      by_cases c3 : l = 247
      · simp only [if_pos c3] at h ⊢
        by_cases d2 : nI j = 2
        · simp only [if_pos d2]; exact ⟨by decide, fun h => absurd h (by decide), by decide, by decide⟩
        · by_cases d3 : nI j = 3
          · simp only [if_neg d2, if_pos d3]; exact ⟨by decide, fun h => absurd h (by decide), by decide, by decide⟩
          · simp only [if_neg d2, if_neg d3] at h; exact absurd trivial h
      · simp only [if_neg c3] at h ⊢
        by_cases c4 : l = 255
        · simp only [if_pos c4] at h ⊢
          by_cases di : ir = 0
          · simp only [if_pos di] at h; exact absurd trivial h
          · simp only [if_neg di] at h ⊢
            by_cases d4 : nI j = 4
            · simp only [if_pos d4]; exact ⟨by decide, fun _ => ⟨c4, di⟩, by decide, by decide⟩
            · by_cases d2 : nI j = 2
              · simp only [if_neg d4, if_pos d2]; exact ⟨by decide, fun _ => ⟨c4, di⟩, by decide, by decide⟩
              · simp only [if_neg d4, if_neg d2] at h; exact absurd trivial h
        · simp only [if_neg c4]
          obtain ⟨a1, a2, a3, a4, a5, a6⟩ := hA j hj
          exact ⟨⟨a1, a2⟩, fun h => absurd h (by simp [a3, a4]), a5, a6⟩
