/-- FORMS of what is taken apart -/
def FmOK (op fm : Int32) : Prop := opF op fm ∨ op = 23 ∨ ((op = 24 ∨ op = 25 ∨ op = 26) ∧ fm = 8) ∨ ((op = 27 ∨ op = 28) ∧ fm = 1)
abbrev fmB (op fm : Int32) : Bool := decide (opF op fm) || decide (op = 23) || (decide (op = 24 ∨ op = 25 ∨ op = 26) && decide (fm = 8))
theorem fmB_ok {op fm : Int32} (h : fmB op fm = true) : FmOK op fm := by
  unfold fmB at h
  rcases Bool.or_eq_true _ _ |>.mp h with h | h
  · rcases Bool.or_eq_true _ _ |>.mp h with h | h
    · exact Or.inl (of_decide_eq_true h)
    · exact Or.inr (Or.inl (of_decide_eq_true h))
  · obtain ⟨a, b⟩ := Bool.and_eq_true _ _ |>.mp h
    exact Or.inr (Or.inr (Or.inl ⟨of_decide_eq_true a, of_decide_eq_true b⟩))
theorem sd_f0 {l : Int32} (h : BY l) : (sd l).1 = 0 → fmB (sd l).2.1 (sd l).2.2.1 = true := by_dec (P := fun l => (sd l).1 = 0 → fmB (sd l).2.1 (sd l).2.2.1 = true) (by decide +kernel) h.1 h.2
theorem sd2_f0 {l : Int32} (h : BY l) : (sd2 l).1 = 0 → fmB (sd2 l).2.1 (sd2 l).2.2.1 = true := by_dec (P := fun l => (sd2 l).1 = 0 → fmB (sd2 l).2.1 (sd2 l).2.2.1 = true) (by decide +kernel) h.1 h.2
theorem sd_f1 {l : Int32} (h : BY l) : (sd l).1 = 1 → fmB (sd l).2.1 4 = true ∧ fmB (sd l).2.1 2 = true := by_dec (P := fun l => (sd l).1 = 1 → fmB (sd l).2.1 4 = true ∧ fmB (sd l).2.1 2 = true) (by decide +kernel) h.1 h.2
theorem sd2_f1 {l : Int32} (h : BY l) : (sd2 l).1 = 1 → fmB (sd2 l).2.1 4 = true ∧ fmB (sd2 l).2.1 2 = true := by_dec (P := fun l => (sd2 l).1 = 1 → fmB (sd2 l).2.1 4 = true ∧ fmB (sd2 l).2.1 2 = true) (by decide +kernel) h.1 h.2
theorem sd_f2 {l : Int32} (h : BY l) : (sd l).1 = 2 → fmB (sd l).2.1 3 = true ∧ (¬ (sd l).2.1 = 10 → fmB (sd l).2.1 2 = true) := by_dec (P := fun l => (sd l).1 = 2 → fmB (sd l).2.1 3 = true ∧ (¬ (sd l).2.1 = 10 → fmB (sd l).2.1 2 = true)) (by decide +kernel) h.1 h.2
theorem sd2_f2 {l : Int32} (h : BY l) : (sd2 l).1 = 2 → fmB (sd2 l).2.1 3 = true ∧ (¬ (sd2 l).2.1 = 10 → fmB (sd2 l).2.1 2 = true) := by_dec (P := fun l => (sd2 l).1 = 2 → fmB (sd2 l).2.1 3 = true ∧ (¬ (sd2 l).2.1 = 10 → fmB (sd2 l).2.1 2 = true)) (by decide +kernel) h.1 h.2
theorem sd_f3 {l : Int32} (h : BY l) : (sd l).1 = 3 → l = 129 ∨ l = 131 ∨ l = 193 ∨ l = 199 ∨ l = 247 ∨ l = 255 := by_dec (P := fun l => (sd l).1 = 3 → l = 129 ∨ l = 131 ∨ l = 193 ∨ l = 199 ∨ l = 247 ∨ l = 255) (by decide +kernel) h.1 h.2
theorem sd2_f3 {l : Int32} (h : BY l) : ¬ (sd2 l).1 = 3 := by_dec (P := fun l => ¬ (sd2 l).1 = 3) (by decide +kernel) h.1 h.2
/-- the groups -/
theorem gp_ok (l : Int32) (hl : l = 129 ∨ l = 131 ∨ l = 193 ∨ l = 199 ∨ l = 247 ∨ l = 255) {md ir : Int32} (hm : inR md) (hg : ¬ gop l md ir = -1) : (ir = 0 → FmOK (gop l md ir) (if (sd l).2.2.2.2 = 0 then 7 else 6)) ∧ (¬ ir = 0 → FmOK (gop l md ir) (if (sd l).2.2.2.2 = 0 then 1 else 5)) := by
  obtain ⟨j, hj, rfl⟩ := to_nI (m := 8) hm.1 8 rfl (by decide) hm.2
  have k1 : ∀ j, j < 8 → fmB (nI j) 6 = true ∧ fmB (nI j) 5 = true := by decide +kernel
  have k2 : ∀ j, j < 8 → ¬ gop 193 (nI j) 0 = -1 → fmB (gop 193 (nI j) 0) 6 = true ∧ fmB (gop 193 (nI j) 0) 5 = true := by decide +kernel
  have k3 : ∀ j, j < 8 → ¬ gop 199 (nI j) 0 = -1 → fmB (gop 199 (nI j) 0) 6 = true ∧ fmB (gop 199 (nI j) 0) 5 = true := by decide +kernel
  have k4 : ∀ j, j < 8 → ¬ gop 247 (nI j) 0 = -1 → fmB (gop 247 (nI j) 0) 7 = true ∧ fmB (gop 247 (nI j) 0) 1 = true := by decide +kernel
  have k5 : ∀ j, j < 8 → ¬ gop 255 (nI j) 1 = -1 → gop 255 (nI j) 1 = 27 ∨ gop 255 (nI j) 1 = 28 := by decide +kernel
  rcases hl with rfl | rfl | rfl | rfl | rfl | rfl
  · exact ⟨fun _ => fmB_ok (k1 j hj).1, fun _ => fmB_ok (k1 j hj).2⟩
  · exact ⟨fun _ => fmB_ok (k1 j hj).1, fun _ => fmB_ok (k1 j hj).2⟩
  · exact ⟨fun _ => fmB_ok (k2 j hj hg).1, fun _ => fmB_ok (k2 j hj hg).2⟩
  · exact ⟨fun _ => fmB_ok (k3 j hj hg).1, fun _ => fmB_ok (k3 j hj hg).2⟩
  · exact ⟨fun _ => fmB_ok (k4 j hj hg).1, fun _ => fmB_ok (k4 j hj hg).2⟩
  · refine ⟨fun e => ?_, fun e => ?_⟩
    · exfalso; apply hg; unfold gop; rw [if_neg (by decide), if_neg (by decide), if_neg (by decide), if_pos rfl, if_pos e]
    · have e5 : gop 255 (nI j) ir = gop 255 (nI j) 1 := by
        unfold gop; simp [e]
      rw [e5] at hg ⊢
      exact Or.inr (Or.inr (Or.inr ⟨k5 j hj hg, rfl⟩))
theorem dT_fm {row : Nat → Int32} {n p : Nat} {l : Int32} {s : Int32 × Int32 × Int32 × Int32 × Int32} {u : Ins} (hB : ∀ k, k < n → BY (row k)) (h0 : ¬ s.1 = 0) (h9 : ¬ s.1 = 9) (h1 : s.1 = 1 → FmOK s.2.1 4 ∧ FmOK s.2.1 2) (h2 : s.1 = 2 → FmOK s.2.1 3 ∧ (¬ s.2.1 = 10 → FmOK s.2.1 2))
    (h3 : ¬ s.1 = 1 → ¬ s.1 = 2 → ∀ md ir, inR md → ¬ gop l md ir = -1 → (ir = 0 → FmOK (gop l md ir) (if s.2.2.2.2 = 0 then 7 else 6)) ∧ (¬ ir = 0 → FmOK (gop l md ir) (if s.2.2.2.2 = 0 then 1 else 5))) (h : dT row n l s.1 s.2.1 s.2.2.2.2 p = some u) : FmOK u.1 u.2.1 := by
  unfold dT at h
  cases ht : tk row n p with
  | none => rw [ht] at h; cases h
  | some w =>
    obtain ⟨ir, x, d, p'⟩ := w
    rw [ht] at h
    obtain ⟨e1, e2, e3, e4⟩ := tk_end ht
    have hmd := md7 (hB p (by omega))
    simp only [] at h
    unfold gf at h
    by_cases k1 : s.1 = 1
    · rw [if_pos k1] at h
      by_cases e : ir = 0
      · rw [if_pos e] at h; obtain ⟨q1, q2, _⟩ := dI_some h; rw [q1, q2]; exact (h1 k1).1
      · rw [if_neg e] at h; obtain ⟨q1, q2, _⟩ := dI_some h; rw [q1, q2]; exact (h1 k1).2
    · rw [if_neg k1] at h
      by_cases k2 : s.1 = 2
      · rw [if_pos k2] at h
        by_cases e : ir = 0
        · rw [if_pos e] at h; obtain ⟨q1, q2, _⟩ := dI_some h; rw [q1, q2]; exact (h2 k2).1
        · rw [if_neg e] at h
          by_cases c : s.2.1 = 10
          · rw [if_pos c] at h; cases h
          · rw [if_neg c] at h; obtain ⟨q1, q2, _⟩ := dI_some h; rw [q1, q2]; exact (h2 k2).2 c
      · rw [if_neg k2] at h
        by_cases g : gop l ((shr (row p) 3) &&& 7) ir = -1
        · rw [if_pos g] at h; cases h
        · rw [if_neg g] at h
          have hh := h3 k1 k2 _ ir hmd g
          by_cases e : ir = 0
          · rw [if_pos e] at h; obtain ⟨q1, q2, _⟩ := dI_some h; rw [q1, q2]; exact hh.1 e
          · rw [if_neg e] at h; obtain ⟨q1, q2, _⟩ := dI_some h; rw [q1, q2]; exact hh.2 e
theorem dc_fm {row : Nat → Int32} {n p : Nat} {u : Ins} (hB : ∀ k, k < n → BY (row k)) (h : dc row n p = some u) : FmOK u.1 u.2.1 := by
  unfold dc at h
  by_cases hp : p < n
  · rw [if_pos hp] at h
    by_cases c : row p = 15
    · rw [if_pos c] at h
      by_cases hp1 : p + 1 < n
      · rw [if_pos hp1] at h
        have hb := hB (p + 1) hp1
        generalize row (p + 1) = l at h hb
        by_cases k9 : (sd2 l).1 = 9
        · unfold dB at h; rw [if_pos k9] at h; cases h
        · by_cases k0 : (sd2 l).1 = 0
          · unfold dB at h; rw [if_neg k9, if_pos k0] at h; obtain ⟨q1, q2, _⟩ := dI_some h; rw [q1, q2]; exact fmB_ok (sd2_f0 hb k0)
          · rw [dB_T k9 k0] at h
            exact dT_fm hB k0 k9 (fun k => ⟨fmB_ok (sd2_f1 hb k).1, fmB_ok (sd2_f1 hb k).2⟩) (fun k => ⟨fmB_ok (sd2_f2 hb k).1, fun q => fmB_ok ((sd2_f2 hb k).2 q)⟩) (fun a b => by
              rcases sd2_k hb with k | k | k | k | k
              · exact absurd k k9
              · exact absurd k k0
              · exact absurd k a
              · exact absurd k b
              · exact absurd k (sd2_f3 hb)) h
      · rw [if_neg hp1] at h; cases h
    · rw [if_neg c] at h
      have hb := hB p hp
      generalize row p = l at h hb
      by_cases k9 : (sd l).1 = 9
      · unfold dB at h; rw [if_pos k9] at h; cases h
      · by_cases k0 : (sd l).1 = 0
        · unfold dB at h; rw [if_neg k9, if_pos k0] at h; obtain ⟨q1, q2, _⟩ := dI_some h; rw [q1, q2]; exact fmB_ok (sd_f0 hb k0)
        · rw [dB_T k9 k0] at h
          exact dT_fm hB k0 k9 (fun k => ⟨fmB_ok (sd_f1 hb k).1, fmB_ok (sd_f1 hb k).2⟩) (fun k => ⟨fmB_ok (sd_f2 hb k).1, fun q => fmB_ok ((sd_f2 hb k).2 q)⟩) (fun a b md ir hm hg => by
            have h3 : (sd l).1 = 3 := by
              rcases sd_k hb with k | k | k | k | k
              · exact absurd k k9
              · exact absurd k k0
              · exact absurd k a
              · exact absurd k b
              · exact k
            exact gp_ok l (sd_f3 hb h3) hm hg) h
  · rw [if_neg hp] at h; cases h
/-! masked addresses -/
abbrev Al (v : Int32) : Prop := v &&& (-16) = v
theorem al_and (v : Int32) : Al (v &&& (-16)) := Int32.toBitVec_inj.mp (by
  show (v.toBitVec &&& (Int32.toBitVec (-16))) &&& (Int32.toBitVec (-16)) = v.toBitVec &&& (Int32.toBitVec (-16))
  rw [BitVec.and_assoc, BitVec.and_self])
theorem al_mod {j : Nat} (hj : j < 2 ^ 31) (h : Al (nI j)) : j % 16 = 0 := by
  have e : (nI j).toBitVec &&& (Int32.toBitVec (-16)) = (nI j).toBitVec := congrArg Int32.toBitVec h
  have ej : (nI j).toBitVec.toNat = j := by
    have := nI_toInt hj
    have h2 : (nI j).toBitVec.toInt = (j : Int) := this
    rw [BitVec.toInt_eq_toNat_cond] at h2
    split at h2 <;> omega
  have bit : ∀ i, i < 4 → (nI j).toBitVec.getLsbD i = false := by
    intro i hi
    have e2 := congrArg (fun b : BitVec 32 => b.getLsbD i) e
    simp only [BitVec.getLsbD_and] at e2
    have : ∀ i, i < 4 → (Int32.toBitVec (-16)).getLsbD i = false := by decide
    rw [this i hi, Bool.and_false] at e2
    exact e2.symm
  have t : ∀ i, i < 4 → j.testBit i = false := by
    intro i hi
    have := bit i hi
    rw [BitVec.getLsbD, ej] at this
    exact this
  have h16 : j % 2 ^ 4 = 0 := by
    apply Nat.eq_of_testBit_eq
    intro i
    rw [Nat.testBit_mod_two_pow, Nat.zero_testBit]
    by_cases hi : i < 4
    · rw [t i hi]; simp
    · simp [hi]
  exact h16
