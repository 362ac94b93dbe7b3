theorem nI_div (a c : Nat) (ha : a < 2 ^ 31) (hc : c < 2 ^ 31) : nI a / nI c = nI (a / c) := by
  have hd : a / c ≤ a := Nat.div_le_self a c
  apply Int32.toInt_inj.mp
  rw [Int32.toInt_div, nI_toInt ha, nI_toInt hc, nI_toInt (by omega), ← Int.ofNat_tdiv]
  have h0 : (0 : Int) ≤ ((a / c : Nat) : Int) := Int.natCast_nonneg _
  rw [Int.bmod_eq_of_le (by omega) (by omega)]
theorem nI_mul (a c : Nat) : nI a * nI c = nI (a * c) := by
  unfold nI; simp
theorem nI_d16 (a : Nat) (ha : a < 2 ^ 31) : nI a / 16 = nI (a / 16) := nI_div a 16 ha (by decide)
theorem nI_m16 (a : Nat) : nI a * 16 = nI (a * 16) := nI_mul a 16
theorem rem_16 (a : Nat) (ha : a < 2 ^ 31) : rem (nI a) 16 = nI (a % 16) := by
  unfold rem
  rw [nI_d16 a ha, nI_m16, nI_sub (by omega) ha]; congr 1; omega
section
variable {v0 s rd fd q mk n : Nat} {row : Nat → Int32}
theorem pc_bundle (H : PH v0 s rd fd q mk) (hn : n ≤ 1024) {b : Nat} (hb : b + 16 ≤ n) {M : Nat → Int32} {σ : St} (h : PI s q mk n row M σ) : wp (Policy_bundleFault v0 (nI b) σ) (PB v0 s q mk n row (pbl row n b 16 b (-1) M) σ) := by
  unfold Policy_bundleFault
  exact pc_loop H hn hb 16 FU b (-1) M 0 σ (by omega) (by omega) (by omega) (by decide) h
theorem pc_markAt (H : PH v0 s rd fd q mk) {M : Nat → Int32} {σ : St} (h : PI s q mk n row M σ) (hn : n ≤ 1024) {p : Nat} (hp : p < n) : Strip_markAt s (nI p) σ = some (M p, σ) := by
  unfold Strip_markAt
  rw [if_neg (nI_pos (by omega)), h.1, if_pos (nI_lt hp (by omega)), H.2.2.1, ld_nI (by omega) (by decide), h.2.2 p hp]
theorem pc_markT (H : PH v0 s rd fd q mk) {M : Nat → Int32} {σ : St} (h : PI s q mk n row M σ) (hn : n ≤ 1024) {t : Int32} : ∃ w, Strip_markAt s t σ = some (w, σ) ∧ (w = 1 ↔ (¬ t < 0 ∧ t < nI n ∧ M t.toNatClampNeg = 1)) := by
  by_cases h1 : t < 0
  · unfold Strip_markAt; rw [if_pos h1]; exact ⟨_, rfl, fun h => absurd h (by decide), fun h => absurd h1 h.1⟩
  · by_cases h2 : t < nI n
    · obtain ⟨j, hj, rfl⟩ := nI_of h1
      have := (nI_ltI hj (by omega)).mp h2
      rw [pc_markAt H h hn this, nI_clamp hj]
      exact ⟨_, rfl, fun h => ⟨h1, h2, h⟩, fun h => h.2.2⟩
    · unfold Strip_markAt; rw [if_neg h1, h.1, if_neg h2]; exact ⟨_, rfl, fun h => absurd h (by decide), fun h => absurd h.2.1 h2⟩
theorem pc_astray (H : PH v0 s rd fd q mk) {M : Nat → Int32} {σ : St} (h : PI s q mk n row M σ) (hn : n ≤ 1024) {p : Nat} : Policy_isAstray v0 (nI p) σ = some (if (σ fd 0 = 24 ∨ σ fd 0 = 25 ∨ σ fd 0 = 26) ∧ ¬ tgt n M (((256 + nI p) + σ fd 6) + σ fd 5) then 1 else 0, σ) := by
  have go : Policy_isAstray_B31 v0 (nI p) σ = some (if ¬ tgt n M (((256 + nI p) + σ fd 6) + σ fd 5) then 1 else 0, σ) := by
    unfold Policy_isAstray_B31
    rw [nm_of, H.2.1, H.2.2.2.1.1, hs_eq, cl_of, H.1]
    by_cases c1 : isS (((256 + nI p) + σ fd 6) + σ fd 5)
    · rw [if_pos c1, if_pos (by decide), if_neg (not_not_intro (Or.inl c1))]
    · obtain ⟨w, e, hw⟩ := pc_markT H h hn (t := (((256 + nI p) + σ fd 6) + σ fd 5) - 256)
      rw [if_neg c1, if_neg (by decide), e, cl_of]
      by_cases c2 : w = 1
      · rw [if_pos c2, if_neg (not_not_intro (Or.inr (hw.mp c2)))]
      · rw [if_neg c2, if_pos]
        rintro (k | k)
        · exact c1 k
        · exact c2 (hw.mpr k)
  unfold Policy_isAstray
  rw [nm_of, go, H.2.1, H.2.2.2.1.1]
  by_cases c4 : σ fd 0 = 24
  · simp only [c4, if_true, true_or, true_and]
  · by_cases c5 : σ fd 0 = 25
    · simp only [c5, if_true, true_or, or_true, true_and]; rw [if_neg (by decide)]
    · by_cases c6 : σ fd 0 = 26
      · simp only [c6, if_true, or_true, true_and]; rw [if_neg (by decide), if_neg (by decide)]
      · simp [c4, c5, c6]
/-- what the look at the targets leaves -/
def PT (v0 s q mk n : Nat) (row M : Nat → Int32) (o : Int32 × Nat) (σ : St) (a : Int32) (τ : St) : Prop :=
  a = o.1 ∧ PI s q mk n row M τ ∧ τ v0 0 = if o.1 = 0 then σ v0 0 else nI o.2
theorem pc_target (H : PH v0 s rd fd q mk) (hn : n ≤ 1024) {M : Nat → Int32} : ∀ (k N p : Nat) (σ : St), n ≤ p + k → p ≤ n → k < N → PI s q mk n row M σ →
    wp (Policy_targetFault_B2 N v0 (nI p) σ) (PT v0 s q mk n row M (ptl row n M k p) σ) := by
  intro k
  induction k with
  | zero =>
    intro N p σ h1 h2 h3 hI
    obtain ⟨N, rfl⟩ : ∃ N', N = N' + 1 := ⟨N - 1, by omega⟩
    rw [Policy_targetFault_B2, ptl, H.1, hI.1, if_pos ((nI_le' (by omega) (by omega)).mpr (by omega))]
    exact wp_some.mpr ⟨rfl, hI, by simp⟩
  | succ k ih =>
    intro N p σ h1 h2 h3 hI
    obtain ⟨N, rfl⟩ : ∃ N', N = N' + 1 := ⟨N - 1, by omega⟩
    rw [Policy_targetFault_B2, ptl, H.1, hI.1]
    by_cases hp : n ≤ p
    · rw [if_pos ((nI_le' (by omega) (by omega)).mpr hp), if_pos hp]
      exact wp_some.mpr ⟨rfl, hI, by simp⟩
    · rw [if_neg (fun h => hp ((nI_le' (by omega) (by omega)).mp h)), if_neg hp, pc_markAt H hI hn (by omega), cl_of]
      by_cases hM : M p = 0
      · rw [if_pos hM, if_pos hM, nm_of, nI_1]
        exact ih N (p + 1) σ (by omega) (by omega) (by omega) hI
      · rw [if_neg hM, if_neg hM, wp_cl, H.2.1]
        have hR := cn_read (p := p) H.2.2.2.1 hI.1 (by omega) (by omega)
        rw [hI.2.1] at hR
        refine wp_mono hR fun a τ hr => ?_
        unfold RD at hr
        have nx : ∀ τ, PI s q mk n row M τ → τ v0 = σ v0 → wp (Policy_targetFault_B2 N v0 (nI (p + 1)) τ) (PT v0 s q mk n row M (ptl row n M k (p + 1)) σ) := fun τ t1 t2 =>
          wp_mono (ih N (p + 1) τ (by omega) (by omega) (by omega) t1) fun a τ' hh => ⟨hh.1, hh.2.1, by rw [hh.2.2, t2]⟩
        cases hd : dc row n p with
        | none =>
          rw [hd] at hr
          obtain ⟨rfl, hbd⟩ := hr
          obtain ⟨g1, g2⟩ := pi_bd H hI hbd
          rw [if_pos rfl, nm_of, nI_1]
          exact nx _ g1 g2
        | some u =>
          obtain ⟨op, fm, r, x, d, i, e⟩ := u
          rw [hd] at hr
          obtain ⟨rfl, os, vs, ds, ir, md, lo, rfl⟩ := hr
          have g1 := pi_mkR H hI (nx := nI e) (g := 1) (os := os) (vs := vs) (ds := ds) (ir := ir) (md := md) (lo := lo) (op := op) (fm := fm) (r := r) (x := x) (d := d) (i := i) (ln := nI (e - p))
          have hf := H.2.2.2.1.2.2.2.1
          have v00 : (mkR σ rd fd (nI e) 1 os vs ds ir md lo op fm r x d i (nI (e - p))) v0 = σ v0 := mkR_row H.2.2.2.2.1 H.2.2.2.2.2.1
          rw [if_neg (by decide), pc_astray H g1 hn, cl_of, mkR_op hf, mkR_ln hf, mkR_i hf]
          simp only []
          by_cases c : (op = 24 ∨ op = 25 ∨ op = 26) ∧ ¬ tgt n M (((256 + nI p) + nI (e - p)) + i)
          · rw [if_pos c, if_pos c, if_neg (by decide), wp_nm]
            exact wp_some.mpr ⟨rfl, pi_v0 H g1, by rw [s2_at]; simp⟩
          · rw [if_neg c, if_neg c, if_pos rfl, nm_of, nI_1]
            exact nx _ g1 v00
/-- what the whole look leaves -/
def PQ (v0 s q mk n : Nat) (row : Nat → Int32) (o : Int32 × Int32 × (Nat → Int32)) (a : Int32) (τ : St) : Prop := a = o.1 ∧ PI s q mk n row o.2.2 τ ∧ τ v0 0 = o.2.1
theorem pc_all (H : PH v0 s rd fd q mk) (hn : n ≤ 1024) (h16 : n % 16 = 0) : ∀ (k N b : Nat) (M : Nat → Int32) (σ : St), n ≤ b + 16 * k → b % 16 = 0 → b ≤ n → k < N → PI s q mk n row M σ → σ v0 0 = -1 →
    wp (Policy_findFault_B49 N v0 (nI n) (nI b) σ) (PQ v0 s q mk n row (plt row n (pal row n k b M))) := by
  intro k
  have fin : ∀ (M : Nat → Int32) (σ : St) (b : Nat), PI s q mk n row M σ → σ v0 0 = -1 → wp (cl (Policy_targetFault v0 σ) fun x2 σ1 => some (x2, σ1)) (PQ v0 s q mk n row (plt row n (0, b, M))) := by
    intro M σ b hI h1
    unfold Policy_targetFault
    rw [wp_cl]
    refine wp_mono (pc_target H hn n FU 0 σ (by omega) (by omega) (by have : FU = 20000 := rfl; omega) hI) fun a τ hh => ?_
    obtain ⟨q1, q2, q3⟩ := hh
    rw [h1] at q3
    unfold plt
    rw [if_pos rfl]
    by_cases c : (ptl row n M n 0).1 = 0
    · rw [if_pos c] at q3
      rw [if_pos c]
      exact wp_some.mpr ⟨q1.trans c, q2, q3⟩
    · rw [if_neg c] at q3
      rw [if_neg c]
      exact wp_some.mpr ⟨q1, q2, q3⟩
  induction k with
  | zero =>
    intro N b M σ h1 h2 h3 h4 hI hv
    obtain ⟨N, rfl⟩ : ∃ N', N = N' + 1 := ⟨N - 1, by omega⟩
    rw [Policy_findFault_B49, pal, if_pos ((nI_le' (by omega) (by omega)).mpr (by omega))]
    exact fin M σ b hI hv
  | succ k ih =>
    intro N b M σ h1 h2 h3 h4 hI hv
    obtain ⟨N, rfl⟩ : ∃ N', N = N' + 1 := ⟨N - 1, by omega⟩
    rw [Policy_findFault_B49, pal]
    by_cases hb : n ≤ b
    · rw [if_pos ((nI_le' (by omega) (by omega)).mpr hb), if_pos hb]
      exact fin M σ b hI hv
    · rw [if_neg (fun h => hb ((nI_le' (by omega) (by omega)).mp h)), if_neg hb, wp_cl]
      refine wp_mono (pc_bundle H hn (by omega) hI) fun a τ hh => ?_
      obtain ⟨q1, q2, q3⟩ := hh
      by_cases c : (pbl row n b 16 b (-1) M).1 = 0
      · rw [if_pos (q1.trans c), if_pos c, nm_of, nI_16]
        rw [if_pos c, hv] at q3
        exact ih N (b + 16) _ τ (by omega) (by omega) (by omega) (by omega) q2 q3
      · rw [if_neg (fun h => c (q1.symm.trans h)), if_neg c]
        rw [if_neg c] at q3
        unfold plt
        rw [if_neg c]
        exact wp_some.mpr ⟨q1, q2, q3⟩
theorem pc_drop (H : PH v0 s rd fd q mk) : ∀ (k N p : Nat) (σ : St), 1100 ≤ p + k → p ≤ 1100 → k < N → wv (Strip_dropMarks_B2 N s (nI p) σ) (fun τ => ∀ c j, τ c j = if c = mk ∧ p ≤ j ∧ j < 1100 then 0 else σ c j) := by
  intro k
  induction k with
  | zero =>
    intro N p σ h1 h2 h3
    obtain ⟨N, rfl⟩ : ∃ N', N = N' + 1 := ⟨N - 1, by omega⟩
    rw [Strip_dropMarks_B2, if_pos (lf_le 1100 1100 p rfl (by omega) (by omega))]
    exact wv_some.mpr fun c j => by rw [if_neg (by omega)]
  | succ k ih =>
    intro N p σ h1 h2 h3
    obtain ⟨N, rfl⟩ : ∃ N', N = N' + 1 := ⟨N - 1, by omega⟩
    rw [Strip_dropMarks_B2]
    by_cases hp : 1100 ≤ p
    · rw [if_pos (lf_le 1100 1100 p rfl hp (by omega))]
      exact wv_some.mpr fun c j => by rw [if_neg (by omega)]
    · rw [if_neg (lf_nle 1100 1100 p rfl (by omega) (by decide)), H.2.2.1, sa_nI (by omega) (by decide), nm_of, nI_1]
      refine wv_mono (ih N (p + 1) _ (by omega) (by omega) (by omega)) fun τ hh c j => ?_
      rw [hh c j, s2_at]
      by_cases c1 : c = mk
      · by_cases c2 : p + 1 ≤ j ∧ j < 1100
        · rw [if_pos ⟨c1, c2⟩, if_pos ⟨c1, by omega, c2.2⟩]
        · rw [if_neg (fun h => c2 h.2), if_pos c1]
          by_cases c3 : j = p
          · rw [if_pos c3, if_pos ⟨c1, by omega, by omega⟩]
          · rw [if_neg c3, if_neg (by omega)]
      · rw [if_neg (fun h => c1 h.1), if_neg c1, if_neg (fun h => c1 h.1)]
theorem pc_find (H : PH v0 s rd fd q mk) {σ : St} (hN : n ≤ 1100) (h1 : σ s 2 = nI n) (h2 : σ q = row) :
    wp (Policy_findFault v0 σ) (fun a τ => a = (pol row n).1 ∧ τ v0 0 = (pol row n).2.1 ∧ (a = 1 ∨ PI s q mk n row (pol row n).2.2 τ)) := by
  have s0 : ∀ w, s2 σ v0 0 w s 2 = nI n := fun w => by rw [s2_ne H.2.2.2.2.2.2.2.2.2.2.2.1]; exact h1
  unfold Policy_findFault pol
  rw [nm_of, nm_of, H.1, h1]
  by_cases c1 : n < 16
  · rw [if_pos (lf_lt 16 16 n rfl c1 (by decide)), if_pos (Or.inl c1), wp_nm]
    exact wp_some.mpr ⟨rfl, by rw [s2_at]; simp, Or.inl rfl⟩
  · rw [if_neg (lf_nlt 16 16 n rfl (by omega) (by omega))]
    by_cases c2 : 1024 < n
    · rw [if_pos (lf_gt 1024 1024 n rfl c2 (by omega)), if_pos (Or.inr (Or.inl c2)), wp_nm]
      exact wp_some.mpr ⟨rfl, by rw [s2_at]; simp, Or.inl rfl⟩
    · rw [if_neg (lf_ngt 1024 1024 n rfl (by omega) (by decide)), rem_16 n (by omega)]
      by_cases c3 : n % 16 = 0
      · rw [if_neg (show ¬ (n < 16 ∨ 1024 < n ∨ ¬ n % 16 = 0) by omega), if_pos (by rw [c3]; rfl), wp_cv]
        unfold Strip_dropMarks
        refine wv_mono (pc_drop H 1100 FU 0 _ (by omega) (by omega) (by decide)) fun τ hh => ?_
        have hI : PI s q mk n row m0 τ := by
          refine ⟨?_, ?_, ?_⟩
          · rw [hh, if_neg (fun h => H.2.2.2.2.2.2.2.2.2.1 h.1.symm)]; exact s0 _
          · funext j; rw [hh, if_neg (fun h => H.2.2.2.2.2.2.2.2.2.2.1 h.1.symm), s2_ne H.2.2.2.2.2.2.2.2.2.2.2.2.1, h2]
          · intro j hj; rw [hh, if_pos ⟨rfl, by omega, by omega⟩]; rfl
        have hv : τ v0 0 = -1 := by rw [hh, if_neg (fun h => H.2.2.2.2.2.2.2.2.1 h.1.symm), s2_at]; simp
        refine wp_mono (pc_all H (by omega) c3 64 FU 0 m0 τ (by omega) (by omega) (by omega) (by decide) hI hv) fun a τ' hh => ?_
        exact ⟨hh.1, hh.2.2, Or.inr hh.2.1⟩
      · rw [if_pos (Or.inr (Or.inr c3)), if_neg (fun h => c3 (by have := (nI_inj (b := 0) (by omega) (by decide)).mp h; exact this)), wp_nm]
        exact wp_some.mpr ⟨rfl, by rw [s2_at]; simp, Or.inl rfl⟩
end
