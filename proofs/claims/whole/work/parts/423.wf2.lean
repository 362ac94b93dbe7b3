theorem ne_lt {a b c : Int32} (h : a < b) (k : b ≤ c) : ¬ a = c := fun e => by
  subst e; have h1 := Int32.lt_iff_toInt_lt.mp h; have h2 := Int32.le_iff_toInt_le.mp k; omega
theorem dT_wf {row : Nat → Int32} {n p : Nat} {l : Int32} {s : Int32 × Int32 × Int32 × Int32 × Int32} {u : Ins} (hB : ∀ k, k < n → BY (row k)) (hs : sdOK s) (h0 : ¬ s.1 = 0) (h9 : ¬ s.1 = 9) (hl : l = 255 → s.2.2.2.2 = 0) (h : dT row n l s.1 s.2.1 s.2.2.2.2 p = some u) : WF u.1 u.2.1 u.2.2.1 u.2.2.2.1 := by
  unfold dT at h
  cases ht : tk row n p with
  | none => rw [ht] at h; cases h
  | some w =>
    obtain ⟨ir, x, d, p'⟩ := w
    rw [ht] at h
    obtain ⟨h1, h2, h3, h4⟩ := tk_end ht
    have hb := hB p (by omega)
    have hmd := md7 hb
    have hlo := lo7 hb
    have hx : ir = 0 → memX x := fun e => by subst e; exact tk_mem hB ht
    simp only [] at h
    rcases hs with k | ⟨k, _⟩ | ⟨k, k1, k2⟩ | ⟨k, k1, k2⟩ | k
    · exact absurd k h9
    · exact absurd k h0
    · have n10 := ne_lt k2 (show (10 : Int32) ≤ 10 by decide)
      have n20 := ne_lt k2 (show (10 : Int32) ≤ 20 by decide)
      have n27 := ne_lt k2 (show (10 : Int32) ≤ 27 by decide)
      have n28 := ne_lt k2 (show (10 : Int32) ≤ 28 by decide)
      have k29 := lt_of k2 (show (10 : Int32) ≤ 29 by decide)
      unfold gf at h
      rw [k, if_pos rfl] at h
      by_cases e : ir = 0
      · rw [if_pos e] at h
        obtain ⟨e1, e2, e3, e4, _, _⟩ := dI_some h
        rw [e1, e2, e3, e4]
        exact ⟨⟨k1, k29⟩, by decide, fun _ => hmd, fun e => absurd e (by decide), fun _ => hx e, fun e => absurd e (by simp [n27, n28]), fun e => absurd e n10, fun e => absurd e n20⟩
      · rw [if_neg e] at h
        obtain ⟨e1, e2, e3, e4, _, _⟩ := dI_some h
        rw [e1, e2, e3, e4]
        exact ⟨⟨k1, k29⟩, by decide, fun _ => hlo, fun _ => hmd, fun e => absurd e (by decide), fun e => absurd e (by simp [n27, n28]), fun e => absurd e n10, fun e => absurd e n20⟩
    · have n20 := ne_lt k2 (show (12 : Int32) ≤ 20 by decide)
      have n27 := ne_lt k2 (show (12 : Int32) ≤ 27 by decide)
      have n28 := ne_lt k2 (show (12 : Int32) ≤ 28 by decide)
      have k29 := lt_of k2 (show (12 : Int32) ≤ 29 by decide)
      unfold gf at h
      rw [k, if_neg (by decide), if_pos rfl] at h
      by_cases e : ir = 0
      · rw [if_pos e] at h
        obtain ⟨e1, e2, e3, e4, _, _⟩ := dI_some h
        rw [e1, e2, e3, e4]
        exact ⟨⟨k1, k29⟩, by decide, fun _ => hmd, fun e => absurd e (by decide), fun _ => hx e, fun e => absurd e (by simp [n27, n28]), fun _ => rfl, fun e => absurd e n20⟩
      · rw [if_neg e] at h
        by_cases c10 : s.2.1 = 10
        · rw [if_pos c10] at h; cases h
        · rw [if_neg c10] at h
          obtain ⟨e1, e2, e3, e4, _, _⟩ := dI_some h
          rw [e1, e2, e3, e4]
          exact ⟨⟨k1, k29⟩, by decide, fun _ => hmd, fun _ => hlo, fun e => absurd e (by decide), fun e => absurd e (by simp [n27, n28]), fun e => absurd e c10, fun e => absurd e n20⟩
    · unfold gf at h
      rw [k, if_neg (by decide), if_neg (by decide)] at h
      by_cases g : gop l ((shr (row p) 3) &&& 7) ir = -1
      · rw [if_pos g] at h; cases h
      · rw [if_neg g] at h
        obtain ⟨g1, g2, g3, g4⟩ := gop_ok hmd g
        by_cases e : ir = 0
        · rw [if_pos e] at h
          obtain ⟨e1, e2, e3, e4, _, _⟩ := dI_some h
          rw [e1, e2, e3, e4]
          refine ⟨g1, ?_, ?_, ?_, fun _ => hx e, fun e2 => absurd e (g2 e2).2, fun e2 => absurd e2 g3, fun e2 => absurd e2 g4⟩
          · split <;> decide
          · intro k; exfalso; revert k; split <;> decide
          · intro k; exfalso; revert k; split <;> decide
        · rw [if_neg e] at h
          obtain ⟨e1, e2, e3, e4, _, _⟩ := dI_some h
          rw [e1, e2, e3, e4]
          refine ⟨g1, ?_, fun _ => hlo, ?_, ?_, ?_, fun e2 => absurd e2 g3, fun e2 => absurd e2 g4⟩
          · split <;> decide
          · intro k; exfalso; revert k; split <;> decide
          · intro k; exfalso; revert k; split <;> decide
          · intro k; rw [if_pos (hl (g2 k).1)]
theorem dB_wf {row : Nat → Int32} {n p : Nat} {l : Int32} {s : Int32 × Int32 × Int32 × Int32 × Int32} {u : Ins} (hB : ∀ k, k < n → BY (row k)) (hs : sdOK s) (hl : l = 255 → s.2.2.2.2 = 0) (h : dB row n l s p = some u) : WF u.1 u.2.1 u.2.2.1 u.2.2.2.1 := by
  by_cases h9 : s.1 = 9
  · unfold dB at h; rw [if_pos h9] at h; cases h
  · by_cases h0 : s.1 = 0
    · unfold dB at h; rw [if_neg h9, if_pos h0] at h
      obtain ⟨e1, e2, e3, e4, _, _⟩ := dI_some h
      rw [e1, e2, e3, e4]
      rcases hs with k | ⟨_, k⟩ | ⟨k, _⟩ | ⟨k, _⟩ | k
      · exact absurd k h9
      · exact k
      · rw [h0] at k; exact absurd k (by decide)
      · rw [h0] at k; exact absurd k (by decide)
      · rw [h0] at k; exact absurd k (by decide)
    · rw [dB_T h9 h0] at h
      exact dT_wf hB hs h0 h9 hl h
theorem dc_wf {row : Nat → Int32} {n p : Nat} {u : Ins} (hB : ∀ k, k < n → BY (row k)) (h : dc row n p = some u) : WF u.1 u.2.1 u.2.2.1 u.2.2.2.1 := by
  unfold dc at h
  by_cases hp : p < n
  · rw [if_pos hp] at h
    by_cases c : row p = 15
    · rw [if_pos c] at h
      by_cases hp1 : p + 1 < n
      · rw [if_pos hp1] at h; exact dB_wf hB (sd2_ok (hB _ hp1)) (fun e => absurd e (by decide)) h
      · rw [if_neg hp1] at h; cases h
    · rw [if_neg c] at h; exact dB_wf hB (sd_ok (hB _ hp)) (fun e => by rw [e]; rfl) h
  · rw [if_neg hp] at h; cases h
/-- a PAIR: the AND at p0 masks R just if its three BYTES are these -/
theorem pair_eq {row : Nat → Int32} {n p p0 : Nat} {op fm r0 x d i r : Int32} (hB : ∀ k, k < n → BY (row k)) (h : dc row n p0 = some (op, fm, r0, x, d, i, p)) (hr : inR r) :
    msk row p0 op fm r0 i = r ↔ (p - p0 = 3 ∧ row p0 = 131 ∧ row (p0 + 1) = 224 + r ∧ row (p0 + 2) = 240) := by
  have hE : p0 < p ∧ p ≤ n := dc_end h
  obtain ⟨rj, hrj, rfl⟩ := to_nI (m := 8) hr.1 8 rfl (by decide) hr.2
  have nm1 : ¬ (-1 : Int32) = nI rj := fun e => by
    have : ∀ j, j < 8 → ¬ (-1 : Int32) = nI j := by decide +kernel
    exact this rj hrj e
  unfold msk
  by_cases c1 : row p0 = 131
  · have e0 : dc row n p0 = dT row n 131 3 0 1 (p0 + 1) := by
      unfold dc; rw [if_pos (by omega), if_neg (by rw [c1]; decide), c1, dB_T (by decide) (by decide)]; rfl
    rw [e0] at h
    unfold dT at h
    cases ht : tk row n (p0 + 1) with
    | none => rw [ht] at h; cases h
    | some w =>
      obtain ⟨ir, x1, d1, p1⟩ := w
      rw [ht] at h
      obtain ⟨h1, h2, h3, h4⟩ := tk_end ht
      simp only [] at h
      have hb1 := hB (p0 + 1) (by omega)
      have hgo : gop 131 ((shr (row (p0 + 1)) 3) &&& 7) ir = (shr (row (p0 + 1)) 3) &&& 7 := by unfold gop; simp
      have hgn := md_ne hb1
      unfold gf at h
      rw [if_neg (by decide), if_neg (by decide), hgo, if_neg hgn] at h
      have reg : ∀ v, BY v → (shr v 6 = 3 ∧ (shr v 3) &&& 7 = 4 ∧ v &&& 7 = nI rj ↔ v = 224 + nI rj) := fun v hv => by
        have : ∀ rj, rj < 8 → ∀ j, j < 256 → (shr (nI j) 6 = 3 ∧ (shr (nI j) 3) &&& 7 = 4 ∧ nI j &&& 7 = nI rj ↔ nI j = 224 + nI rj) := by decide +kernel
        exact by_dec (P := fun v => (shr v 6 = 3 ∧ (shr v 3) &&& 7 = 4 ∧ v &&& 7 = nI rj ↔ v = 224 + nI rj)) (this rj hrj) hv.1 hv.2
      have i16 : ∀ v, BY v → (i2b v = -16 ↔ v = 240) := fun v hv => by_dec (P := fun v => i2b v = -16 ↔ v = 240) (by decide +kernel) hv.1 hv.2
      rcases h3 with rfl | rfl
      · rw [if_pos rfl, if_neg (by decide)] at h
        obtain ⟨e1, e2, e3, e4, _, _⟩ := dI_some h
        have e2 : fm = 6 := e2
        rw [if_neg (by rw [e2]; intro k; exact absurd k.2.2.1 (by decide))]
        refine ⟨fun k => absurd k nm1, fun k => ?_⟩
        exfalso
        have := ((reg _ hb1).mpr k.2.2.1).1
        unfold tk opnd at ht
        rw [if_pos (by omega), if_pos this] at ht
        simp only [num_0] at ht
        cases ht
      · rw [if_neg (by decide), if_neg (by decide)] at h
        obtain ⟨e1, e2, e3, e4, e5, e6⟩ := dI_some h
        have e1 : op = (shr (row (p0 + 1)) 3) &&& 7 := e1
        have e2 : fm = 5 := e2
        have e3 : r0 = row (p0 + 1) &&& 7 := e3
        have e6 : num row n 1 p1 = some (i, p) := e6
        have ht' : shr (row (p0 + 1)) 6 = 3 ∧ p1 = p0 + 2 := by
          unfold tk opnd at ht
          rw [if_pos (by omega)] at ht
          by_cases c3 : shr (row (p0 + 1)) 6 = 3
          · rw [if_pos c3] at ht
            simp only [num_0] at ht
            cases ht
            exact ⟨c3, rfl⟩
          · rw [if_neg c3] at ht
            exfalso
            by_cases c4 : row (p0 + 1) &&& 7 = 4
            · rw [if_pos c4] at ht
              by_cases c5 : p0 + 1 + 1 < n
              · rw [if_pos c5] at ht
                by_cases c6 : (shr (row (p0 + 1 + 1)) 3) &&& 7 = 4
                · rw [if_pos c6] at ht
                  simp only [] at ht
                  split at ht
                  · cases ht
                  · cases ht
                · rw [if_neg c6] at ht
                  simp only [] at ht
                  split at ht
                  · cases ht
                  · cases ht
              · rw [if_neg c5] at ht; cases ht
            · rw [if_neg c4] at ht
              simp only [] at ht
              split at ht
              · cases ht
              · cases ht
        obtain ⟨t1, rfl⟩ := ht'
        rw [num_1] at e6
        by_cases c2 : p0 + 2 < n
        · rw [if_pos c2] at e6
          have e6 := Option.some.inj e6
          have e7 : i2b (row (p0 + 2)) = i := congrArg Prod.fst e6
          have e8 : p0 + 2 + 1 = p := congrArg Prod.snd e6
          have j16 := i16 _ (hB _ c2)
          have rg := reg _ hb1
          rw [e1, e2, e3, ← e7]
          by_cases q1 : (shr (row (p0 + 1)) 3) &&& 7 = 4
          · by_cases q2 : i2b (row (p0 + 2)) = -16
            · rw [if_pos ⟨c1, q1, rfl, q2⟩]
              exact ⟨fun k => ⟨by omega, c1, rg.mp ⟨t1, q1, k⟩, j16.mp q2⟩, fun k => (rg.mpr k.2.2.1).2.2⟩
            · rw [if_neg (fun k => q2 k.2.2.2)]
              exact ⟨fun k => absurd k nm1, fun k => absurd (j16.mpr k.2.2.2) q2⟩
          · rw [if_neg (fun k => q1 k.2.1)]
            exact ⟨fun k => absurd k nm1, fun k => absurd (rg.mpr k.2.2.1).2.1 q1⟩
        · rw [if_neg c2] at e6; cases e6
  · rw [if_neg (fun k => c1 k.1)]
    exact ⟨fun k => absurd k nm1, fun k => absurd k.2.1 c1⟩
