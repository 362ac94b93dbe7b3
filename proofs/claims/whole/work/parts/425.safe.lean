/-! ===== what the marks tell ===== -/
def STp (row : Nat → Int32) (n b : Nat) (M : Nat → Int32) (j : Nat) : Prop := M j = 0 ∨ ∃ op fm r x d i e, dc row n j = some (op, fm, r, x, d, i, e) ∧ ¬ op = 23 ∧ e ≤ b + 16 ∧ M j = (if op = 27 ∨ op = 28 then 2 else 1) ∧ (op = 26 ∨ op = 28 → e = b + 16) ∧
  (e = b + 16 ∨ M e = 1 ∨ (M e = 2 ∧ ∃ op' fm' r' x' d' i' e', dc row n e = some (op', fm', r', x', d', i', e') ∧ msk row j op fm r i = r'))
theorem ff_0 {b e : Nat} {m op r : Int32} (h : ff b e m op r = 0) : ¬ op = 23 ∧ e ≤ b + 16 ∧ (op = 27 ∨ op = 28 → m = r) ∧ (op = 26 ∨ op = 28 → e = b + 16) := by
  unfold ff at h
  by_cases c1 : op = 23
  · rw [if_pos c1] at h; exact absurd h (by decide)
  · rw [if_neg c1] at h
    by_cases c2 : b + 16 < e
    · rw [if_pos c2] at h; exact absurd h (by decide)
    · rw [if_neg c2] at h
      by_cases c3 : (op = 27 ∨ op = 28) ∧ ¬ m = r
      · rw [if_pos c3] at h; exact absurd h (by decide)
      · rw [if_neg c3] at h
        by_cases c4 : (op = 26 ∨ op = 28) ∧ ¬ e = b + 16
        · rw [if_pos c4] at h; exact absurd h (by decide)
        · exact ⟨c1, by omega, fun h => Decidable.not_not.mp fun k => c3 ⟨h, k⟩, fun h => Decidable.not_not.mp fun k => c4 ⟨h, k⟩⟩
theorem pbl_none {row : Nat → Int32} {n b k p : Nat} {m : Int32} {M : Nat → Int32} (hp : ¬ b + 16 ≤ p) (h : dc row n p = none) : pbl row n b (k + 1) p m M = (2, p, M) := by rw [pbl, if_neg hp, h]
theorem pbl_ok {row : Nat → Int32} {n b : Nat} : ∀ (k p : Nat) (m : Int32) (M : Nat → Int32), b + 16 ≤ p + k → (pbl row n b k p m M).1 = 0 →
    (∀ j, (j < p ∨ b + 16 ≤ j) → (pbl row n b k p m M).2.2 j = M j) ∧
    ((∀ j, p ≤ j → j < b + 16 → M j = 0) → ∀ j, p ≤ j → j < b + 16 → STp row n b (pbl row n b k p m M).2.2 j) ∧
    (p < b + 16 → (pbl row n b k p m M).2.2 p = 1 ∨ ((pbl row n b k p m M).2.2 p = 2 ∧ ∃ op fm r x d i e, dc row n p = some (op, fm, r, x, d, i, e) ∧ (op = 27 ∨ op = 28) ∧ m = r)) := by
  intro k
  induction k with
  | zero =>
    intro p m M h1 _
    rw [pbl]
    exact ⟨fun _ _ => rfl, fun _ j _ _ => absurd h1 (by omega), fun h => absurd h1 (by omega)⟩
  | succ k ih =>
    intro p m M h1 h2
    by_cases hp : b + 16 ≤ p
    · rw [pbl, if_pos hp]
      exact ⟨fun _ _ => rfl, fun _ j _ _ => absurd hp (by omega), fun h => absurd hp (by omega)⟩
    · cases hd : dc row n p with
      | none => rw [pbl_none hp hd] at h2; exact absurd h2 (show ¬ (2 : Int32) = 0 by decide)
      | some u =>
        obtain ⟨op, fm, r, x, d, i, e⟩ := u
        have hE : p < e ∧ e ≤ n := dc_end hd
        have ps := pbl_s (k := k) (m := m) (M := M) hp hd
        by_cases hf : ff b e m op r = 0
        · rw [if_pos hf] at ps
          rw [ps] at h2 ⊢
          obtain ⟨f1, f2, f3, f4⟩ := ff_0 hf
          obtain ⟨i1, i2, i3⟩ := ih e _ _ (by omega) h2
          have atp : (pbl row n b k e (msk row p op fm r i) (upd M p (if op = 27 ∨ op = 28 then 2 else 1))).2.2 p = if op = 27 ∨ op = 28 then 2 else 1 := by
            rw [i1 p (Or.inl hE.1), upd_at, if_pos rfl]
          refine ⟨?_, ?_, ?_⟩
          · intro j hj
            rw [i1 j (by omega), upd_at, if_neg (by omega)]
          · intro hz j j1 j2
            by_cases c : j = p
            · subst c
              refine Or.inr ⟨op, fm, r, x, d, i, e, hd, f1, f2, atp, f4, ?_⟩
              by_cases ce : e = b + 16
              · exact Or.inl ce
              · rcases i3 (by omega) with q | ⟨q, op', fm', r', x', d', i', e', q1, _, q2⟩
                · exact Or.inr (Or.inl q)
                · exact Or.inr (Or.inr ⟨q, op', fm', r', x', d', i', e', q1, q2⟩)
            · by_cases c2 : j < e
              · left; rw [i1 j (Or.inl c2), upd_at, if_neg c]; exact hz j j1 j2
              · exact i2 (fun j' g1 g2 => by rw [upd_at, if_neg (by omega)]; exact hz j' (by omega) g2) j (by omega) j2
          · intro _
            rw [atp]
            by_cases c : op = 27 ∨ op = 28
            · rw [if_pos c]; exact Or.inr ⟨rfl, op, fm, r, x, d, i, e, rfl, c, f3 c⟩
            · rw [if_neg c]; exact Or.inl rfl
        · rw [ps, if_neg hf] at h2; exact absurd h2 hf
theorem pal_ok {row : Nat → Int32} {n : Nat} (hB : ∀ k, k < n → BY (row k)) (h16 : n % 16 = 0) : ∀ (k b : Nat) (M : Nat → Int32), n ≤ b + 16 * k → b % 16 = 0 → (∀ j, b ≤ j → M j = 0) → (pal row n k b M).1 = 0 →
    (∀ j, j < b → (pal row n k b M).2.2 j = M j) ∧ (∀ j, b ≤ j → j < n → STp row n (j / 16 * 16) (pal row n k b M).2.2 j) ∧ (∀ j, b ≤ j → j < n → j % 16 = 0 → (pal row n k b M).2.2 j = 1) := by
  intro k
  induction k with
  | zero =>
    intro b M h1 _ _ _
    exact ⟨fun _ _ => rfl, fun j _ _ => by omega, fun j _ _ => by omega⟩
  | succ k ih =>
    intro b M h1 hb hz h2
    rw [pal] at h2 ⊢
    by_cases hn : n ≤ b
    · rw [if_pos hn]
      exact ⟨fun _ _ => rfl, fun j _ _ => by omega, fun j _ _ => by omega⟩
    · rw [if_neg hn] at h2 ⊢
      by_cases c : (pbl row n b 16 b (-1) M).1 = 0
      · rw [if_pos c] at h2 ⊢
        obtain ⟨p1, p2, p3⟩ := pbl_ok 16 b (-1) M (by omega) c
        obtain ⟨i1, i2, i3⟩ := ih (b + 16) _ (by omega) (by omega) (fun j hj => by rw [p1 j (Or.inr hj)]; exact hz j (by omega)) h2
        refine ⟨fun j hj => by rw [i1 j (by omega), p1 j (Or.inl hj)], fun j j1 j2 => ?_, fun j j1 j2 j3 => ?_⟩
        · by_cases cj : j < b + 16
          · have e0 : j / 16 * 16 = b := by omega
            rw [e0]
            rcases p2 (fun j' g1 g2 => hz j' g1) j j1 cj with q | ⟨op, fm, r, x, d, i, e, q1, q2, q3, q4, q5, q6⟩
            · left; rw [i1 j cj]; exact q
            · refine Or.inr ⟨op, fm, r, x, d, i, e, q1, q2, q3, by rw [i1 j cj]; exact q4, q5, ?_⟩
              by_cases ce : e = b + 16
              · exact Or.inl ce
              · rw [i1 e (by omega)]; exact q6
          · exact i2 j (by omega) j2
        · by_cases cj : j < b + 16
          · have e0 : j = b := by omega
            subst e0
            rw [i1 j cj]
            rcases p3 (by omega) with q | ⟨_, op, fm, r, x, d, i, e, q1, q2, q3⟩
            · exact q
            · exfalso
              have hw : WF op fm r x := dc_wf hB q1
              have := (hw.2.2.1 (by rw [hw.2.2.2.2.2.1 q2]; decide)).1
              rw [← q3] at this
              exact this (by decide)
          · exact i3 j (by omega) j2 j3
      · rw [if_neg c] at h2; exact absurd h2 c
/-- CODE that keeps the POLICY up to its targets -/
def Saf (row : Nat → Int32) (n : Nat) (M : Nat → Int32) : Prop := (∀ j, j < n → STp row n (j / 16 * 16) M j) ∧ (∀ j, j < n → j % 16 = 0 → M j = 1)
theorem pal_saf {row : Nat → Int32} {n : Nat} (hB : ∀ k, k < n → BY (row k)) (h16 : n % 16 = 0) (hn : n ≤ 1024) (h : (pal row n 64 0 m0).1 = 0) : Saf row n (pal row n 64 0 m0).2.2 := by
  obtain ⟨_, i2, i3⟩ := pal_ok hB h16 64 0 m0 (by omega) (by omega) (fun _ _ => rfl) h
  exact ⟨fun j hj => i2 j (by omega) hj, fun j hj h3 => i3 j (by omega) hj h3⟩
theorem saf_dc {row : Nat → Int32} {n : Nat} {M : Nat → Int32} (h : Saf row n M) {p : Nat} (hp : p < n) (hM : ¬ M p = 0) : ¬ dc row n p = none := by
  rcases h.1 p hp with q | ⟨op, fm, r, x, d, i, e, q, _⟩
  · exact absurd q hM
  · rw [q]; exact fun k => by cases k
/-- the targets -/
def Tgs (row : Nat → Int32) (n : Nat) (M : Nat → Int32) (a : Nat) : Prop := ∀ p, a ≤ p → p < n → ¬ M p = 0 → ∀ op fm r x d i e, dc row n p = some (op, fm, r, x, d, i, e) → (op = 24 ∨ op = 25 ∨ op = 26) → tgt n M (((256 + nI p) + nI (e - p)) + i)
theorem ptl_ok {row : Nat → Int32} {n : Nat} {M : Nat → Int32} : ∀ (k p : Nat), n ≤ p + k → (ptl row n M k p).1 = 0 → Tgs row n M p := by
  intro k
  induction k with
  | zero => intro p h1 _ j h2 h3; omega
  | succ k ih =>
    intro p h1 h2
    rw [ptl] at h2
    by_cases hp : n ≤ p
    · intro j h3 h4; omega
    · rw [if_neg hp] at h2
      have nx : (ptl row n M k (p + 1)).1 = 0 → (¬ M p = 0 → ∀ op fm r x d i e, dc row n p = some (op, fm, r, x, d, i, e) → (op = 24 ∨ op = 25 ∨ op = 26) → tgt n M (((256 + nI p) + nI (e - p)) + i)) → Tgs row n M p := by
        intro h3 h4 j j1 j2
        by_cases c : j = p
        · subst c; exact h4
        · exact ih (p + 1) (by omega) h3 j (by omega) j2
      by_cases hM : M p = 0
      · rw [if_pos hM] at h2; exact nx h2 (fun h => absurd hM h)
      · rw [if_neg hM] at h2
        cases hd : dc row n p with
        | none => rw [hd] at h2; exact nx h2 (fun _ op fm r x d i e h => by rw [hd] at h; cases h)
        | some u =>
          obtain ⟨op, fm, r, x, d, i, e⟩ := u
          rw [hd] at h2
          simp only [] at h2
          by_cases c : (op = 24 ∨ op = 25 ∨ op = 26) ∧ ¬ tgt n M (((256 + nI p) + nI (e - p)) + i)
          · rw [if_pos c] at h2; exact absurd h2 (show ¬ (6 : Int32) = 0 by decide)
          · rw [if_neg c] at h2
            exact nx h2 (fun _ op' fm' r' x' d' i' e' h hop => by
              rw [hd] at h; cases h
              exact Decidable.not_not.mp fun k => c ⟨hop, k⟩)
