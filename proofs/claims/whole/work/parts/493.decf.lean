abbrev PlO (op : Int32) : Prop := ¬ op = 23 ∧ ¬ op = 24 ∧ ¬ op = 25 ∧ ¬ op = 26 ∧ ¬ op = 27 ∧ ¬ op = 28
/-- the size of I, as the first byte tells it -/
def VO (z : Int32) (k : Nat) : Prop := (z = 0 ∧ k = 0) ∨ ((z = 1 ∨ z = 2) ∧ k = 1) ∨ (z = 4 ∧ k = 4)
section
variable {row : Nat → Int32} {n p : Nat}
theorem dcN {l o f r vs : Int32} {val : List Int32} (H : Hld row p (l :: val)) (hn : p + (1 + val.length) ≤ n) (h15 : ¬ l = 15) (hs : sd l = (0, o, f, r, vs)) (hv : VO vs val.length) : ∃ v, dc row n p = some (o, f, r, 0, 0, v, p + (1 + val.length)) ∧ num row n vs (p + 1) = some (v, p + (1 + val.length)) := by
  have e0 := (hd_c H).1
  obtain ⟨v, hv⟩ := num_ok (row := row) (n := n) (q := p + 1) hv (by omega)
  rw [Nat.add_assoc] at hv
  refine ⟨v, ?_, hv⟩
  unfold dc dB
  rw [if_pos (by omega), e0, if_neg h15, hs]
  simp only []
  rw [if_neg (by decide), if_pos trivial]
  unfold dI
  rw [hv]
theorem dcR {l os o f0 r0 vs o' f' r' x'' : Int32} {k e : Nat} {val : List Int32} (hk : k < 8) (he : e < 8) (H : Hld row p ((l :: [bt ((192 + 8 * nI k) + nI e)]) ++ val)) (hn : p + (2 + val.length) ≤ n) (h15 : ¬ l = 15) (hs : sd l = (os, o, f0, r0, vs)) (h9 : ¬ os = 9) (h0 : ¬ os = 0) (hg : gf l os o vs (nI k) (nI e) 1 0 = some (o', f', r', x'')) (hv : VO vs val.length) : ∃ v, dc row n p = some (o', f', r', x'', 0, v, p + (2 + val.length)) ∧ num row n vs (p + 2) = some (v, p + (2 + val.length)) := by
  obtain ⟨H1, _⟩ := hd_a H
  obtain ⟨e0, H2⟩ := hd_c H1
  have e1 := (hd_c H2).1
  obtain ⟨v, hv⟩ := num_ok (row := row) (n := n) (q := p + 2) hv (by omega)
  rw [Nat.add_assoc] at hv
  obtain ⟨t1, t2, t3⟩ := op_r (n := n) hk he (by omega) e1
  refine ⟨v, ?_, hv⟩
  unfold dc dB
  rw [if_pos (by omega), e0, if_neg h15, hs]
  simp only []
  rw [if_neg h9, if_neg h0, t1]
  simp only []
  unfold dO
  rw [t2, t3, hg]
  simp only []
  unfold dD
  rw [show num row n 0 (p + 1 + 1) = some (0, p + 2) from rfl]
  simp only []
  unfold dI
  rw [hv]
theorem dcM {l os o f0 r0 vs o' x d : Int32} {k : Nat} {val : List Int32} (hx : memX x) (h4 : ¬ (shr x 4) &&& 15 = 4) (hk : k < 8) (H : Hld row p ((l :: eMem (nI k) x d) ++ val)) (hn : p + (1 + (eMem (nI k) x d).length + val.length) ≤ n) (h15 : ¬ l = 15) (hs : sd l = (os, o, f0, r0, vs)) (h9 : ¬ os = 9) (h0 : ¬ os = 0) (hg : ∀ lo x', ∃ f' r' x'', gf l os o vs (nI k) lo 0 x' = some (o', f', r', x'')) (hv : VO vs val.length) : ∃ f' r' x'' d' v, dc row n p = some (o', f', r', x'', d', v, p + (1 + (eMem (nI k) x d).length + val.length)) := by
  obtain ⟨H1, _⟩ := hd_a H
  obtain ⟨e0, H2⟩ := hd_c H1
  obtain ⟨x', ds, q', d', t1, t2, t3⟩ := op_m (n := n) hx h4 hk (by omega) H2
  obtain ⟨v, hv⟩ := num_ok (row := row) (n := n) (q := p + 1 + (eMem (nI k) x d).length) hv (by omega)
  obtain ⟨f', r', x'', hg⟩ := hg (row (p + 1) &&& 7) x'
  refine ⟨f', r', x'', d', v, ?_⟩
  unfold dc dB
  rw [if_pos (by omega), e0, if_neg h15, hs]
  simp only []
  rw [if_neg h9, if_neg h0, t1]
  simp only []
  unfold dO
  rw [t2, hg]
  simp only []
  unfold dD
  rw [t3]
  simp only []
  unfold dI
  rw [hv]
  simp only []
  rw [show p + 1 + (eMem (nI k) x d).length + val.length = p + (1 + (eMem (nI k) x d).length + val.length) by omega]
/-- IMUL -/
theorem dc15R {k e : Nat} (hk : k < 8) (he : e < 8) (H : Hld row p (bt 15 :: bt 175 :: [bt ((192 + 8 * nI k) + nI e)])) (hn : p + 3 ≤ n) : ∃ f r x d v, dc row n p = some (11, f, r, x, d, v, p + 3) := by
  obtain ⟨e0, H1⟩ := hd_c H
  obtain ⟨e1, H2⟩ := hd_c H1
  have e2 := (hd_c H2).1
  obtain ⟨t1, t2, t3⟩ := op_r (n := n) hk he (by omega) e2
  refine ⟨2, nI k, nI e, 0, 0, ?_⟩
  unfold dc dB
  rw [if_pos (by omega), e0, if_pos (show bt 15 = 15 from rfl), if_pos (by omega), e1, show sd2 (bt 175) = (2, 11, 0, 0, 0) from by decide]
  simp only []
  rw [if_neg (by decide), if_neg (by decide), t1]
  simp only []
  unfold dO
  rw [t2, t3, show gf 15 2 11 0 (nI k) (nI e) 1 0 = some (11, 2, nI k, nI e) from by unfold gf; rw [if_neg (by decide), if_pos rfl, if_neg (by decide), if_neg (by decide)]]
  rfl
theorem dc15M {k : Nat} {x d : Int32} (hx : memX x) (h4 : ¬ (shr x 4) &&& 15 = 4) (hk : k < 8) (H : Hld row p (bt 15 :: bt 175 :: eMem (nI k) x d)) (hn : p + (2 + (eMem (nI k) x d).length) ≤ n) : ∃ f r x' d' v, dc row n p = some (11, f, r, x', d', v, p + (2 + (eMem (nI k) x d).length)) := by
  obtain ⟨e0, H1⟩ := hd_c H
  obtain ⟨e1, H2⟩ := hd_c H1
  obtain ⟨x', ds, q', d', t1, t2, t3⟩ := op_m (n := n) hx h4 hk (by omega) H2
  refine ⟨3, nI k, x', d', 0, ?_⟩
  unfold dc dB
  rw [if_pos (by omega), e0, if_pos (show bt 15 = 15 from rfl), if_pos (by omega), e1, show sd2 (bt 175) = (2, 11, 0, 0, 0) from by decide]
  simp only []
  rw [if_neg (by decide), if_neg (by decide), t1]
  simp only []
  unfold dO
  rw [t2, show ∀ lo, gf 15 2 11 0 (nI k) lo 0 x' = some (11, 3, nI k, x') from fun lo => by unfold gf; rw [if_neg (by decide), if_pos rfl, if_pos rfl]]
  simp only []
  unfold dD
  rw [t3]
  simp only []
  unfold dI num
  rw [if_pos rfl]
  simp only []
  rw [show p + 1 + 1 + (eMem (nI k) x d).length = p + (2 + (eMem (nI k) x d).length) by omega]
end
