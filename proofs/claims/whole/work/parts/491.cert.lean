/-! ===== a row of marks that shows that CODE keeps the POLICY ===== -/
def CrtP (row : Nat → Int32) (n : Nat) (C : Nat → Int32) (p : Nat) : Prop := ∃ op fm r x d i e, dc row n p = some (op, fm, r, x, d, i, e) ∧ ¬ op = 23 ∧ e ≤ p / 16 * 16 + 16 ∧ (∀ j, p < j → j < e → C j = 0) ∧ C p = (if op = 27 ∨ op = 28 then 2 else 1) ∧ (op = 26 ∨ op = 28 → e = p / 16 * 16 + 16) ∧ (e = p / 16 * 16 + 16 ∨ C e = 1 ∨ (C e = 2 ∧ ∀ op' fm' r' x' d' i' e', dc row n e = some (op', fm', r', x', d', i', e') → msk row p op fm r i = r')) ∧ (op = 24 ∨ op = 25 ∨ op = 26 → tgt n C (((256 + nI p) + nI (e - p)) + i))
def Crt (row : Nat → Int32) (n : Nat) (C : Nat → Int32) : Prop := 16 ≤ n ∧ n ≤ 1024 ∧ n % 16 = 0 ∧ (∀ p, p < n → p % 16 = 0 → C p = 1) ∧ ∀ p, p < n → ¬ C p = 0 → CrtP row n C p
section
variable {row : Nat → Int32} {n : Nat} {C : Nat → Int32}
theorem pbl_crt (H : Crt row n C) {b : Nat} (hb : b % 16 = 0) (hbn : b + 16 ≤ n) : ∀ (k p : Nat) (m : Int32) (M : Nat → Int32), b ≤ p → p ≤ b + 16 → b + 16 ≤ p + k → (p < b + 16 → ¬ C p = 0 ∧ (C p = 2 → ∀ op fm r x d i e, dc row n p = some (op, fm, r, x, d, i, e) → m = r)) → (pbl row n b k p m M).1 = 0 ∧ ∀ j, (pbl row n b k p m M).2.2 j = if p ≤ j ∧ j < b + 16 ∧ ¬ C j = 0 then C j else M j := by
  obtain ⟨_, _, _, _, hst⟩ := H
  intro k
  induction k with
  | zero =>
    intro p m M h1 h2 h3 h4
    rw [pbl]
    exact ⟨rfl, fun j => by rw [if_neg (by omega)]⟩
  | succ k ih =>
    intro p m M h1 h2 h3 h4
    by_cases c : b + 16 ≤ p
    · rw [pbl, if_pos c]
      exact ⟨rfl, fun j => by rw [if_neg (by omega)]⟩
    · obtain ⟨z1, z2⟩ := h4 (by omega)
      have ebb : p / 16 * 16 = b := by omega
      obtain ⟨op, fm, r, x, d, i, e, hd, y1, y2, y3, y4, y5, y6, _⟩ := hst p (by omega) z1
      rw [ebb] at y2 y5 y6
      have he : p < e ∧ e ≤ n := dc_end hd
      have hff : ff b e m op r = 0 := by
        unfold ff
        rw [if_neg y1, if_neg (by omega), if_neg, if_neg]
        · rintro ⟨w1, w2⟩; exact w2 (y5 w1)
        · rintro ⟨w1, w2⟩
          rw [if_pos w1] at y4
          exact w2 (z2 y4 op fm r x d i e hd)
      rw [pbl_s c hd, if_pos hff]
      obtain ⟨g1, g2⟩ := ih e (msk row p op fm r i) (upd M p (if op = 27 ∨ op = 28 then 2 else 1)) (by omega) y2 (by omega) (fun q => by
        rcases y6 with w | w | ⟨w, w'⟩
        · omega
        · rw [w]; exact ⟨by decide, fun y => absurd y (by decide)⟩
        · rw [w]; exact ⟨by decide, fun _ => fun op fm r x d i e hd => w' op fm r x d i e hd⟩)
      refine ⟨g1, fun j => ?_⟩
      rw [g2 j, upd_at, ← y4]
      by_cases q1 : e ≤ j ∧ j < b + 16 ∧ ¬ C j = 0
      · rw [if_pos q1, if_pos ⟨by omega, q1.2⟩]
      · rw [if_neg q1]
        by_cases q2 : j = p
        · rw [if_pos q2, if_pos ⟨by omega, by omega, by rw [q2]; exact z1⟩, q2]
        · rw [if_neg q2, if_neg]
          rintro ⟨w1, w2, w3⟩
          by_cases q3 : e ≤ j
          · exact q1 ⟨q3, w2, w3⟩
          · exact w3 (y3 j (by omega) (by omega))
theorem pal_crt (H : Crt row n C) : ∀ (k b : Nat) (M : Nat → Int32), b % 16 = 0 → b ≤ n → n ≤ b + 16 * k → (pal row n k b M).1 = 0 ∧ ∀ j, (pal row n k b M).2.2 j = if b ≤ j ∧ j < n ∧ ¬ C j = 0 then C j else M j := by
  have h16 := H.2.2.1
  intro k
  induction k with
  | zero =>
    intro b M h1 h2 h3
    rw [pal]
    exact ⟨rfl, fun j => by rw [if_neg (by omega)]⟩
  | succ k ih =>
    intro b M h1 h2 h3
    rw [pal]
    by_cases c : n ≤ b
    · rw [if_pos c]
      exact ⟨rfl, fun j => by rw [if_neg (by omega)]⟩
    · have c1 := H.2.2.2.1 b (by omega) h1
      obtain ⟨g1, g2⟩ := pbl_crt H h1 (by omega) 16 b (-1) M (Nat.le_refl _) (by omega) (by omega) (fun _ => by rw [c1]; exact ⟨by decide, fun y => absurd y (by decide)⟩)
      rw [if_neg c, if_pos g1]
      obtain ⟨f1, f2⟩ := ih (b + 16) (pbl row n b 16 b (-1) M).2.2 (by omega) (by omega) (by omega)
      refine ⟨f1, fun j => ?_⟩
      rw [f2 j, g2 j]
      by_cases q1 : b + 16 ≤ j ∧ j < n ∧ ¬ C j = 0
      · rw [if_pos q1, if_pos ⟨by omega, q1.2⟩]
      · rw [if_neg q1]
        by_cases q2 : b ≤ j ∧ j < b + 16 ∧ ¬ C j = 0
        · rw [if_pos q2, if_pos ⟨q2.1, by omega, q2.2.2⟩]
        · rw [if_neg q2, if_neg]
          rintro ⟨w1, w2, w3⟩
          by_cases q3 : j < b + 16
          · exact q2 ⟨w1, q3, w3⟩
          · exact q1 ⟨by omega, w2, w3⟩
theorem ptl_crt (H : Crt row n C) {M : Nat → Int32} (hM : ∀ j, j < n → M j = C j) : ∀ (k p : Nat), (ptl row n M k p).1 = 0 := by
  have hn := H.2.1
  intro k
  induction k with
  | zero => intro p; rfl
  | succ k ih =>
    intro p
    rw [ptl]
    by_cases c : n ≤ p
    · rw [if_pos c]
    · rw [if_neg c]
      by_cases z : M p = 0
      · rw [if_pos z]; exact ih (p + 1)
      · rw [if_neg z]
        obtain ⟨op, fm, r, x, d, i, e, hd, _, _, _, _, _, _, ht⟩ := H.2.2.2.2 p (by omega) (by rw [← hM p (by omega)]; exact z)
        rw [hd]
        simp only []
        rw [if_neg]
        · exact ih (p + 1)
        · rintro ⟨w1, w2⟩
          refine w2 ?_
          rcases ht w1 with w | ⟨w3, w4, w5⟩
          · exact Or.inl w
          · refine Or.inr ⟨w3, w4, ?_⟩
            obtain ⟨j, hj, ej⟩ := nI_of w3
            rw [ej, nI_clamp hj] at w5 ⊢
            rw [ej] at w4
            rw [hM j ((nI_ltI hj (by omega)).mp w4)]; exact w5
theorem pol_crt (H : Crt row n C) : (pol row n).1 = 0 := by
  obtain ⟨a1, a2, a3, a4, a5⟩ := id H
  unfold pol
  rw [if_neg (by omega)]
  obtain ⟨g1, g2⟩ := pal_crt H 64 0 m0 (by omega) (by omega) (by omega)
  have hM : ∀ j, j < n → (pal row n 64 0 m0).2.2 j = C j := by
    intro j hj
    rw [g2 j]
    by_cases z : C j = 0
    · rw [if_neg (fun w => w.2.2 z), z]; rfl
    · rw [if_pos ⟨by omega, hj, z⟩]
  unfold plt
  rw [if_pos g1, if_pos (ptl_crt H hM n 0)]
end
