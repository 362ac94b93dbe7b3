/-! ===== only the BYTES before the end count ===== -/
section
variable {n : Nat} {row row' : Nat → Int32}
def Eqn (n : Nat) (row row' : Nat → Int32) : Prop := ∀ j, j < n → row j = row' j
theorem num_c (h : Eqn n row row') {z : Int32} {p : Nat} : num row n z p = num row' n z p := by
  unfold num b4
  by_cases c0 : z = 0
  · rw [if_pos c0, if_pos c0]
  · rw [if_neg c0, if_neg c0]
    by_cases c4 : z = 4
    · rw [if_pos c4, if_pos c4]
      by_cases hp : p + 3 < n
      · rw [if_pos hp, if_pos hp, h p (by omega), h (p + 1) (by omega), h (p + 2) (by omega), h (p + 3) hp]
      · rw [if_neg hp, if_neg hp]
    · rw [if_neg c4, if_neg c4]
      by_cases hp : p < n
      · rw [if_pos hp, if_pos hp, h p hp]
      · rw [if_neg hp, if_neg hp]
theorem opnd_c (h : Eqn n row row') {p : Nat} : opnd row n p = opnd row' n p := by
  unfold opnd
  by_cases hp : p < n
  · rw [if_pos hp, if_pos hp, h p hp]
    by_cases hp1 : p + 1 < n
    · rw [if_pos hp1, if_pos hp1, h (p + 1) hp1]
    · rw [if_neg hp1, if_neg hp1]
  · rw [if_neg hp, if_neg hp]
theorem opnd_lt {p : Nat} {u : Int32 × Int32 × Int32 × Nat} (h : opnd row n p = some u) : p < n := by
  unfold opnd at h
  by_cases hp : p < n
  · exact hp
  · rw [if_neg hp] at h; cases h
theorem dB_c (h : Eqn n row row') {l : Int32} {s : Int32 × Int32 × Int32 × Int32 × Int32} {p : Nat} : dB row n l s p = dB row' n l s p := by
  unfold dB dO dD dI
  rw [opnd_c h]
  by_cases c9 : s.1 = 9
  · rw [if_pos c9, if_pos c9]
  · rw [if_neg c9, if_neg c9]
    by_cases c0 : s.1 = 0
    · rw [if_pos c0, if_pos c0, num_c h]
    · rw [if_neg c0, if_neg c0]
      cases ho : opnd row' n p with
      | none => rfl
      | some u => simp only [num_c h, h p (opnd_lt ho)]
theorem dc_c (h : Eqn n row row') {p : Nat} : dc row n p = dc row' n p := by
  unfold dc
  by_cases hp : p < n
  · rw [if_pos hp, if_pos hp, h p hp]
    by_cases hp1 : p + 1 < n
    · rw [if_pos hp1, if_pos hp1, h (p + 1) hp1, dB_c h, dB_c h]
    · rw [if_neg hp1, if_neg hp1, dB_c h]
  · rw [if_neg hp, if_neg hp]
theorem dc_lt {p : Nat} {u : Ins} (h : dc row n p = some u) : p < n := by
  have := dc_end h; omega
theorem pbl_c (h : Eqn n row row') {b : Nat} : ∀ (k p : Nat) (m : Int32) (M : Nat → Int32), pbl row n b k p m M = pbl row' n b k p m M := by
  intro k
  induction k with
  | zero => intro p m M; rfl
  | succ k ih =>
    intro p m M
    rw [pbl, pbl, dc_c h]
    cases hd : dc row' n p with
    | none => rfl
    | some u =>
      obtain ⟨op, fm, r, x, d, i, e⟩ := u
      have e0 : msk row p op fm r i = msk row' p op fm r i := by unfold msk; rw [h p (dc_lt hd)]
      simp only [e0, ih]
theorem pal_c (h : Eqn n row row') : ∀ (k b : Nat) (M : Nat → Int32), pal row n k b M = pal row' n k b M := by
  intro k
  induction k with
  | zero => intro b M; rfl
  | succ k ih => intro b M; rw [pal, pal, pbl_c h, ih]
theorem ptl_c (h : Eqn n row row') {M : Nat → Int32} : ∀ (k p : Nat), ptl row n M k p = ptl row' n M k p := by
  intro k
  induction k with
  | zero => intro p; rfl
  | succ k ih => intro p; rw [ptl, ptl, dc_c h, ih]
theorem pol_c (h : Eqn n row row') : pol row n = pol row' n := by
  unfold pol plt
  rw [pal_c h, ptl_c h]
theorem STp_c (h : Eqn n row row') {M M' : Nat → Int32} (hM : Eqn n M M') {b j : Nat} (hb : b + 16 ≤ n) (hj : j < n) (k : STp row n b M j) : STp row' n b M' j := by
  unfold STp at k ⊢
  rw [← hM j hj]
  rcases k with k | ⟨op, fm, r, x, d, i, e, k1, k2, k3, k4, k5, k6⟩
  · exact Or.inl k
  · refine Or.inr ⟨op, fm, r, x, d, i, e, by rw [← dc_c h]; exact k1, k2, k3, k4, k5, ?_⟩
    by_cases c : e = b + 16
    · exact Or.inl c
    · rw [← hM e (by omega)]
      rcases k6 with k6 | k6 | ⟨k6, op', fm', r', x', d', i', e', k7, k8⟩
      · exact Or.inl k6
      · exact Or.inr (Or.inl k6)
      · refine Or.inr (Or.inr ⟨k6, op', fm', r', x', d', i', e', by rw [← dc_c h]; exact k7, ?_⟩)
        unfold msk at k8 ⊢; rw [← h j hj]; exact k8
theorem Cod_c (h : Eqn n row row') {M M' : Nat → Int32} (hM : Eqn n M M') (k : Cod row n M) : Cod row' n M' := by
  obtain ⟨k1, k2, k3, ⟨k4, k5⟩, k6⟩ := k
  refine ⟨k1, k2, k3, ⟨fun j hj => STp_c h hM (by omega) hj (k4 j hj), fun j hj h3 => by rw [← hM j hj]; exact k5 j hj h3⟩, ?_⟩
  intro p h0 hp hm op fm r x d i e hd ho
  rw [← hM p hp] at hm
  rw [← dc_c h] at hd
  rcases k6 p h0 hp hm op fm r x d i e hd ho with q | ⟨q1, q2, q3⟩
  · exact Or.inl q
  · refine Or.inr ⟨q1, q2, ?_⟩
    obtain ⟨j, hj, ej⟩ := nI_of q1
    rw [ej, nI_clamp hj] at q3 ⊢
    rw [← hM j ((nI_ltI hj (by omega)).mp (by rw [← ej]; exact q2))]; exact q3
end
