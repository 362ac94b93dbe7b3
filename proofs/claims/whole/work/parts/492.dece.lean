/-! ===== pieces, taken apart again ===== -/
def Hld (row : Nat → Int32) (p : Nat) (L : List Int32) : Prop := ∀ j, j < L.length → row (p + j) = L.getD j 0
theorem hd_c {row : Nat → Int32} {p : Nat} {v : Int32} {L : List Int32} (h : Hld row p (v :: L)) : row p = v ∧ Hld row (p + 1) L := by
  refine ⟨by have := h 0 (by simp); simpa using this, fun j hj => ?_⟩
  have := h (j + 1) (by simp; omega)
  rw [show p + 1 + j = p + (j + 1) by omega, this]; simp
theorem hd_a {row : Nat → Int32} : ∀ {A B : List Int32} {p : Nat}, Hld row p (A ++ B) → Hld row p A ∧ Hld row (p + A.length) B := by
  intro A
  induction A with
  | nil => intro B p h; exact ⟨fun j hj => absurd hj (by simp), h⟩
  | cons v A ih =>
    intro B p h
    obtain ⟨h1, h2⟩ := hd_c (show Hld row p (v :: (A ++ B)) from h)
    obtain ⟨h3, h4⟩ := ih h2
    refine ⟨fun j hj => ?_, ?_⟩
    · cases j with
      | zero => simpa using h1
      | succ j =>
        have := h3 j (by simp at hj; omega)
        rw [show p + (j + 1) = p + 1 + j by omega, this]; simp
    · rw [show p + (v :: A).length = p + 1 + A.length by simp; omega]; exact h4
theorem num_ok {row : Nat → Int32} {n q k : Nat} {z : Int32} (h : (z = 0 ∧ k = 0) ∨ ((z = 1 ∨ z = 2) ∧ k = 1) ∨ (z = 4 ∧ k = 4)) (hq : q + k ≤ n) : ∃ v, num row n z q = some (v, q + k) := by
  unfold num
  rcases h with ⟨rfl, rfl⟩ | ⟨rfl | rfl, rfl⟩ | ⟨rfl, rfl⟩
  · exact ⟨0, rfl⟩
  · rw [if_neg (by decide), if_neg (by decide), if_pos (by omega)]; exact ⟨_, rfl⟩
  · rw [if_neg (by decide), if_neg (by decide), if_pos (by omega)]; exact ⟨_, rfl⟩
  · rw [if_neg (by decide), if_pos rfl, if_pos (by omega)]; exact ⟨_, rfl⟩
theorem mrm : ∀ m, m < 4 → ∀ k, k < 8 → ∀ l, l < 8 → shr (bt ((64 * nI m + 8 * nI k) + nI l)) 6 = nI m ∧ (shr (bt ((64 * nI m + 8 * nI k) + nI l)) 3) &&& 7 = nI k ∧ bt ((64 * nI m + 8 * nI k) + nI l) &&& 7 = nI l := by decide +kernel
section
variable {row : Nat → Int32} {n q : Nat}
/-- an operand that is a register -/
theorem op_r {k l : Nat} (hk : k < 8) (hl : l < 8) (hq : q < n) (h : row q = bt ((192 + 8 * nI k) + nI l)) : opnd row n q = some (1, 0, 0, q + 1) ∧ (shr (row q) 3) &&& 7 = nI k ∧ row q &&& 7 = nI l := by
  have := mrm 3 (by decide) k hk l hl
  rw [show (64 : Int32) * nI 3 = 192 from rfl, ← h] at this
  refine ⟨?_, this.2⟩
  unfold opnd
  rw [if_pos hq, if_pos (by rw [this.1]; rfl)]
/-- an operand in memory -/
theorem op_m {k : Nat} {x d : Int32} (hx : memX x) (h4 : ¬ (shr x 4) &&& 15 = 4) (hk : k < 8) (hq : q + (eMem (nI k) x d).length ≤ n) (h : Hld row q (eMem (nI k) x d)) : ∃ x' ds q' d', opnd row n q = some (0, x', ds, q') ∧ (shr (row q) 3) &&& 7 = nI k ∧ num row n ds q' = some (d', q + (eMem (nI k) x d).length) := by
  obtain ⟨a1, a2, a3, a4, a5, a6⟩ := hx
  obtain ⟨b, hb, eb⟩ := to_nI (m := 9) a1 9 rfl (by decide) a2
  obtain ⟨j, hj, ej⟩ := to_nI (m := 9) a3 9 rfl (by decide) a4
  obtain ⟨s, hs, es⟩ : ∃ s, s < 4 ∧ (shr x 8) &&& 3 = nI s := by
    obtain ⟨s, hs, e⟩ := to_nI (m := 4) a5 4 rfl (by decide) a6
    rw [e]
    have : ∀ s, s < 4 → nI s &&& 3 = nI s := by decide +kernel
    exact ⟨s, hs, this s hs⟩
  unfold eMem at h hq ⊢
  rw [eb, ej, es] at h hq ⊢
  rw [ej] at h4
  -- the mode
  obtain ⟨mo, hmo, emo, m0', m1', m2'⟩ : ∃ mo, mo < 3 ∧ eMo (nI b) d = nI mo ∧ (mo = 0 → nI b = 8 ∨ ¬ nI b = 5) ∧ (nI b = 8 → mo = 0) ∧ True := by
    unfold eMo
    by_cases c : nI b = 8 ∨ (d = 0 ∧ ¬ nI b = 5)
    · rw [if_pos c]
      exact ⟨0, by omega, rfl, fun _ => by rcases c with c | c; exact Or.inl c; exact Or.inr c.2, fun _ => rfl, trivial⟩
    · rw [if_neg c]
      by_cases c2 : smI d
      · rw [if_pos c2]; exact ⟨1, by omega, rfl, fun e => by omega, fun e => absurd (Or.inl e) c, trivial⟩
      · rw [if_neg c2]; exact ⟨2, by omega, rfl, fun e => by omega, fun e => absurd (Or.inl e) c, trivial⟩
  rw [emo] at h hq ⊢
  obtain ⟨lo, hlo, elo, l5⟩ : ∃ lo, lo < 8 ∧ (if nI b = 8 then (5 : Int32) else nI b) = nI lo ∧ (nI lo = 5 → nI b = 8 ∨ nI b = 5) ∧ (nI b = 8 → nI lo = 5) ∧ (nI lo = 4 → nI b = 4) := by
    by_cases c : nI b = 8
    · rw [if_pos c]; exact ⟨5, by omega, rfl, fun _ => Or.inl c, fun _ => rfl, fun e => absurd e (by decide)⟩
    · rw [if_neg c]
      have : b < 8 := by
        rcases Nat.lt_or_ge b 8 with y | y
        · exact y
        · exfalso; exact c (by rw [show b = 8 by omega]; rfl)
      exact ⟨b, this, rfl, fun e => Or.inr e, fun e => absurd e c, fun e => e⟩
  -- the bytes of D
  have hD : ∃ ln, ((mx_d (nI mo) (nI lo) = 0 ∧ ln = 0) ∨ ((mx_d (nI mo) (nI lo) = 1 ∨ mx_d (nI mo) (nI lo) = 2) ∧ ln = 1) ∨ (mx_d (nI mo) (nI lo) = 4 ∧ ln = 4)) ∧ (eMd (nI b) (nI mo) d).length = ln := by
    unfold mx_d eMd
    obtain e | e | e : mo = 0 ∨ mo = 1 ∨ mo = 2 := by omega
    · subst e
      rw [if_neg (by decide), if_pos (show nI 0 = (0 : Int32) from rfl)]
      by_cases c : nI b = 8
      · rw [if_pos (l5.2.1 c), if_pos (Or.inl c)]; exact ⟨4, Or.inr (Or.inr ⟨rfl, rfl⟩), rfl⟩
      · rw [if_neg (fun z => by rcases l5.1 z with y | y; exact c y; rcases m0' rfl with w | w; exact c w; exact w y), if_neg (fun z => by rcases z with z | z; exact c z; exact absurd z (by decide)), if_neg (by decide)]; exact ⟨0, Or.inl ⟨rfl, rfl⟩, rfl⟩
    · subst e
      have c : ¬ nI b = 8 := fun z => absurd (m1' z) (by decide)
      rw [if_pos (by decide), if_neg (fun z => by rcases z with z | z; exact c z; exact absurd z (by decide)), if_pos (by decide)]; exact ⟨1, Or.inr (Or.inl ⟨Or.inl rfl, rfl⟩), rfl⟩
    · subst e
      rw [if_neg (by decide), if_neg (by decide), if_pos (Or.inr (show nI 2 = (2 : Int32) from rfl))]; exact ⟨4, Or.inr (Or.inr ⟨rfl, rfl⟩), rfl⟩
  obtain ⟨ln, hln, eln⟩ := hD
  obtain ⟨h1, h2⟩ := hd_a h
  rw [List.length_append] at hq ⊢
  unfold eMm at h1 h2 hq ⊢
  rw [elo] at h1 h2 hq ⊢
  by_cases c : nI j = 8 ∧ ¬ nI b = 4
  · rw [if_pos c] at h1 h2 hq ⊢
    have e0 := (hd_c h1).1
    have t := mrm mo (by omega) k hk lo hlo
    rw [← e0] at t
    have hq' : q + (1 + (eMd (nI b) (nI mo) d).length) ≤ n := hq
    rw [eln] at hq'
    obtain ⟨d', hd⟩ := num_ok (row := row) (n := n) (q := q + 1) hln (by omega)
    refine ⟨mx_x (nI mo) (nI lo) 8 0, mx_d (nI mo) (nI lo), q + 1, d', ?_, t.2.1, ?_⟩
    · unfold opnd
      rw [if_pos (by omega), if_neg (by rw [t.1]; exact fun z => absurd ((nI_inj (b := 3) (by omega) (by decide)).mp z) (by omega)), if_neg (by rw [t.2.2]; exact fun z => c.2 (l5.2.2 z)), t.1, t.2.2]
    · rw [hd, eln]; show some (d', q + 1 + ln) = some (d', q + (1 + ln)); rw [Nat.add_assoc]
  · rw [if_neg c] at h1 h2 hq ⊢
    obtain ⟨e0, h1'⟩ := hd_c h1
    have e1 := (hd_c h1').1
    have t := mrm mo (by omega) k hk 4 (by decide)
    rw [show nI 4 = (4 : Int32) from rfl, ← e0] at t
    obtain ⟨jx, hjx, ejx, jn⟩ : ∃ jx, jx < 8 ∧ (if nI j = 8 then (4 : Int32) else nI j) = nI jx ∧ True := by
      by_cases y : nI j = 8
      · rw [if_pos y]; exact ⟨4, by omega, rfl, trivial⟩
      · rw [if_neg y]
        have : j < 8 := by
          rcases Nat.lt_or_ge j 8 with w | w
          · exact w
          · exfalso; exact y (by rw [show j = 8 by omega]; rfl)
        exact ⟨j, this, rfl, trivial⟩
    rw [ejx] at e1
    have t2 := mrm s hs jx hjx lo hlo
    rw [← e1] at t2
    have hq' : q + (2 + (eMd (nI b) (nI mo) d).length) ≤ n := hq
    rw [eln] at hq'
    obtain ⟨d', hd⟩ := num_ok (row := row) (n := n) (q := q + 2) hln (by omega)
    have hend : num row n (mx_d (nI mo) (nI lo)) (q + 2) = some (d', q + (2 + (eMd (nI b) (nI mo) d).length)) := by
      rw [hd, eln, Nat.add_assoc]
    by_cases y : nI jx = 4
    · refine ⟨mx_x (nI mo) (nI lo) 8 0, mx_d (nI mo) (nI lo), q + 2, d', ?_, t.2.1, hend⟩
      unfold opnd
      rw [if_pos (by omega), if_neg (by rw [t.1]; exact fun z => absurd ((nI_inj (b := 3) (by omega) (by decide)).mp z) (by omega)), if_pos (by rw [t.2.2]), if_pos (by omega), if_pos (by rw [t2.2.1]; exact y), t.1, t2.2.2]
    · refine ⟨mx_x (nI mo) (nI lo) (nI jx) (nI s), mx_d (nI mo) (nI lo), q + 2, d', ?_, t.2.1, hend⟩
      unfold opnd
      rw [if_pos (by omega), if_neg (by rw [t.1]; exact fun z => absurd ((nI_inj (b := 3) (by omega) (by decide)).mp z) (by omega)), if_pos (by rw [t.2.2]), if_pos (by omega), if_neg (by rw [t2.2.1]; exact y), t.1, t2.2.2, t2.2.1, t2.1]
end
