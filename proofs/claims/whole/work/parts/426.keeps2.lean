section
variable {v0 q t n : Nat} {row M : Nat → Int32} {σ0 σ τ : St}
/-- what keeps() leaves -/
def KR (v0 q t n : Nat) (row : Nat → Int32) (o : Int32 × Int32 × (Nat → Int32)) (σ0 : St) (a : Int32) (τ : St) : Prop :=
  KF v0 t σ0 τ ∧ KI q t n row o.2.2 τ ∧ a = (if o.1 = 0 then 1 else 0) ∧ τ v0 3 = o.1 ∧ τ v0 4 = o.2.1
theorem lt_256 {x : Int32} : (x < 256) ↔ (x - 256 < 0 ∧ ¬ x < -2147483392) ∨ x < -2147483392 := by
  constructor
  · intro h
    by_cases c : x < -2147483392
    · exact Or.inr c
    · refine Or.inl ⟨?_, c⟩
      have h1 := Int32.lt_iff_toInt_lt.mp h
      have h2 := mt Int32.lt_iff_toInt_lt.mpr c
      refine Int32.lt_iff_toInt_lt.mpr ?_
      rw [Int32.toInt_sub]
      have e1 : (256 : Int32).toInt = 256 := rfl
      have e2 : (-2147483392 : Int32).toInt = -2147483392 := rfl
      have e3 : (0 : Int32).toInt = 0 := rfl
      rw [Int.bmod_eq_of_le (by omega) (by omega)]
      omega
  · rintro (⟨h, c⟩ | c)
    · have h2 := mt Int32.lt_iff_toInt_lt.mpr c
      have h1 := Int32.lt_iff_toInt_lt.mp h
      rw [Int32.toInt_sub] at h1
      have l1 := Int32.toInt_lt x
      have e1 : (256 : Int32).toInt = 256 := rfl
      have e2 : (-2147483392 : Int32).toInt = -2147483392 := rfl
      have e3 : (0 : Int32).toInt = 0 := rfl
      rw [Int.bmod_eq_of_le (by omega) (by omega)] at h1
      exact Int32.lt_iff_toInt_lt.mpr (by omega)
    · exact lt_of c (by decide)
/-- a target beyond: x - 256 wraps round only far from all CODE -/
theorem tg_eq {x : Int32} (hn : n ≤ 1024) : (¬ x < 256 ∧ ¬ (256 + nI n) ≤ x ∧ M (x - 256).toNatClampNeg = 1) ↔ (¬ x - 256 < 0 ∧ x - 256 < nI n ∧ M (x - 256).toNatClampNeg = 1) := by
  have e1 : (256 : Int32).toInt = 256 := rfl
  have e3 : (0 : Int32).toInt = 0 := rfl
  have e4 : (256 + nI n) = nI (256 + n) := nI_add 256 n
  have e5 := nI_toInt (n := 256 + n) (by omega)
  have e6 := nI_toInt (n := n) (by omega)
  have l1 := Int32.toInt_lt x
  have l2 := Int32.le_toInt x
  have s : (x - 256).toInt = (x.toInt - 256).bmod (2 ^ 32) := Int32.toInt_sub x 256
  rw [e4]
  constructor
  · rintro ⟨a, b, c⟩
    have a := mt Int32.lt_iff_toInt_lt.mpr a
    have b := mt Int32.le_iff_toInt_le.mpr b
    rw [Int.bmod_eq_of_le (by omega) (by omega)] at s
    refine ⟨fun k => ?_, Int32.lt_iff_toInt_lt.mpr (by omega), c⟩
    have k := Int32.lt_iff_toInt_lt.mp k
    omega
  · rintro ⟨a, b, c⟩
    have a := mt Int32.lt_iff_toInt_lt.mpr a
    have b := Int32.lt_iff_toInt_lt.mp b
    by_cases w : x.toInt < -2147483392
    · exfalso
      have : (x.toInt - 256).bmod (2 ^ 32) = x.toInt - 256 + 4294967296 := by
        rw [show x.toInt - 256 = (x.toInt - 256 + 4294967296) - 4294967296 by omega]
        rw [show (x.toInt - 256 + 4294967296) - 4294967296 = (x.toInt - 256 + 4294967296) + 4294967296 * (-1) by omega]
        have := Int.add_mul_bmod_self_left (x.toInt - 256 + 4294967296) (2 ^ 32) (-1)
        rw [show ((2 ^ 32 : Nat) : Int) = 4294967296 from rfl] at this
        rw [this, Int.bmod_eq_of_le (by omega) (by omega)]
        omega
      omega
    · rw [Int.bmod_eq_of_le (by omega) (by omega)] at s
      refine ⟨fun k => ?_, fun k => ?_, c⟩
      · have k := Int32.lt_iff_toInt_lt.mp k; omega
      · have k := Int32.le_iff_toInt_le.mp k; omega
def pt1 (M : Nat → Int32) (w : Int32 × Nat) : Int32 × Int32 × (Nat → Int32) := if w.1 = 0 then (0, -1, M) else (w.1, nI w.2, M)
theorem ptl_e {k p : Nat} (hp : n ≤ p) : ptl row n M (k + 1) p = (0, p) := by rw [ptl, if_pos hp]
theorem ptl_0 {k p : Nat} (hp : ¬ n ≤ p) (hM : M p = 0) : ptl row n M (k + 1) p = ptl row n M k (p + 1) := by rw [ptl, if_neg hp, if_pos hM]
theorem ptl_n {k p e : Nat} {op fm r x d i : Int32} (hp : ¬ n ≤ p) (hM : ¬ M p = 0) (hd : dc row n p = some (op, fm, r, x, d, i, e)) (h : ¬ ((op = 24 ∨ op = 25 ∨ op = 26) ∧ ¬ tgt n M (((256 + nI p) + nI (e - p)) + i))) : ptl row n M (k + 1) p = ptl row n M k (p + 1) := by
  rw [ptl, if_neg hp, if_neg hM, hd]; exact if_neg h
theorem ptl_b {k p e : Nat} {op fm r x d i : Int32} (hp : ¬ n ≤ p) (hM : ¬ M p = 0) (hd : dc row n p = some (op, fm, r, x, d, i, e)) (h : (op = 24 ∨ op = 25 ∨ op = 26) ∧ ¬ tgt n M (((256 + nI p) + nI (e - p)) + i)) : ptl row n M (k + 1) p = (6, p) := by
  rw [ptl, if_neg hp, if_neg hM, hd]; exact if_pos h
theorem kp_target (H : KH v0 q t n) (hB : ∀ k, k < n → BY (row k)) (hn : n ≤ 1024) (hS : Saf row n M) {b : Nat} : ∀ (k N p : Nat) (σ : St), n ≤ p + k → p ≤ n → k < N → KI q t n row M σ → KF v0 t σ0 σ →
    wp (Mo_keeps_B310 N v0 q (nI n) t (nI p) σ) (KR v0 q t n row (pt1 M (ptl row n M k p)) σ0) := by
  have fin : ∀ (σ : St), KI q t n row M σ → KF v0 t σ0 σ → wp (cl (Mo_faults v0 0 (-1) σ) fun x2 σ1 => some (1, σ1)) (KR v0 q t n row (0, -1, M) σ0) := by
    intro σ hI hK
    unfold Mo_faults
    rw [nm_of, nm_of, cl_of]
    exact wp_some.mpr ⟨kf_34 hK, ki_34 H hI, rfl, at_3.1, at_3.2⟩
  intro k
  induction k with
  | zero =>
    intro N p σ h1 h2 h3 hI hK
    obtain ⟨N, rfl⟩ : ∃ N', N = N' + 1 := ⟨N - 1, by omega⟩
    rw [Mo_keeps_B310, ptl, if_pos ((nI_le' (by omega) (by omega)).mpr (by omega))]
    exact fin σ hI hK
  | succ k ih =>
    intro N p σ h1 h2 h3 hI hK
    obtain ⟨N, rfl⟩ : ∃ N', N = N' + 1 := ⟨N - 1, by omega⟩
    rw [Mo_keeps_B310]
    by_cases hp : n ≤ p
    · rw [if_pos ((nI_le' (by omega) (by omega)).mpr hp), ptl_e hp]
      exact fin σ hI hK
    · rw [if_neg (fun h => hp ((nI_le' (by omega) (by omega)).mp h)), lr_nI H.2.2.2.1 (by have := H.2.2.2.2.1; omega) H.2.2.2.2.2, hI.2 p (by omega)]
      by_cases hM : M p = 0
      · rw [if_neg (not_not_intro hM), ptl_0 hp hM, nm_of, nI_1]
        exact ih N (p + 1) σ (by omega) (by omega) (by omega) hI hK
      · rw [if_pos hM, wp_cl]
        have hD := mn_decode (σ := σ) (p := p) H.1 (by rw [hI.1]; exact hB) (by omega)
        rw [hI.1] at hD
        refine wp_mono hD fun a τ hr => ?_
        unfold MD at hr
        cases hd : dc row n p with
        | none => exact absurd hd (saf_dc hS (by omega) hM)
        | some u =>
          obtain ⟨op, fm, r, x, d, i, e⟩ := u
          rw [hd] at hr
          obtain ⟨rfl, hE1, hE2, kf, m', rfl⟩ := hr
          have hl : Lm σ v0 (mkM σ v0 (nI q) (nI n) (nI e) op fm r x d i kf m') := lm_mk
          have g1 := ki_lm H hI hl
          have g2 := kf_lm hK hl
          have hw : WF op fm r x := dc_wf hB hd
          have nx := ih N (p + 1) _ (by omega) (by omega) (by omega) g1 g2
          have h24 : (op < 24) ∨ op = 24 ∨ op = 25 ∨ op = 26 ∨ (¬ op < 24 ∧ ¬ op ≤ 26) := by
            obtain ⟨j, hj, rfl⟩ := to_nI (m := 29) hw.1.1 29 rfl (by decide) hw.1.2
            have : ∀ j, j < 29 → (nI j < 24) ∨ nI j = 24 ∨ nI j = 25 ∨ nI j = 26 ∨ (¬ nI j < 24 ∧ ¬ nI j ≤ 26) := by decide +kernel
            exact this j hj
          rw [mkM_op, mkM_i]
          have pn := ptl_n (k := k) hp hM hd
          have pb := ptl_b (k := k) hp hM hd
          by_cases c : op = 24 ∨ op = 25 ∨ op = 26
          · have d1 : ¬ op < 24 := by rcases c with h | h | h <;> (rw [h]; decide)
            have d2 : op ≤ 26 := by rcases c with h | h | h <;> (rw [h]; decide)
            rw [if_neg d1, if_pos d2, nm_of, ms_eq, cl_of]
            generalize hx : ((256 + nI p) + nI (e - p)) + i = xx at pn pb ⊢
            have good : wp (Mo_keeps_B416 (Mo_keeps_B310 N) v0 q (nI n) t (nI p) 1 (mkM σ v0 (nI q) (nI n) (nI e) op fm r x d i kf m')) (KR v0 q t n row (pt1 M (ptl row n M k (p + 1))) σ0) := by
              unfold Mo_keeps_B416
              rw [if_pos (by decide), nm_of, nI_1]
              exact nx
            have bad : wp (Mo_keeps_B416 (Mo_keeps_B310 N) v0 q (nI n) t (nI p) 0 (mkM σ v0 (nI q) (nI n) (nI e) op fm r x d i kf m')) (KR v0 q t n row (pt1 M (6, p)) σ0) := by
              unfold Mo_keeps_B416 Mo_faults
              rw [if_neg (by decide), nm_of, nm_of, cl_of, zb_0]
              exact wp_some.mpr ⟨kf_34 g2, ki_34 H g1, rfl, at_3.1, at_3.2⟩
            by_cases cs : isS xx
            · rw [if_pos cs, if_pos (by decide), pn (fun h => h.2 (Or.inl cs))]
              exact good
            · rw [if_neg cs, if_neg (by decide)]
              have te := tg_eq (M := M) (x := xx) hn
              by_cases ct : ¬ xx - 256 < 0 ∧ xx - 256 < nI n ∧ M (xx - 256).toNatClampNeg = 1
              · have ⟨u1, u2, u3⟩ := te.mpr ct
                rw [if_neg u1, if_neg u2]
                obtain ⟨j, hj, ej⟩ := nI_of ct.1
                have jn : j < n := (nI_ltI hj (by omega)).mp (by rw [← ej]; exact ct.2.1)
                rw [ej, lr_nI H.2.2.2.1 (by have := H.2.2.2.2.1; omega) H.2.2.2.2.2, g1.2 j jn]
                rw [ej, nI_clamp hj] at u3
                rw [if_neg (not_not_intro u3), pn (fun h => h.2 (Or.inr ct))]
                exact good
              · rw [pb ⟨c, fun h => by rcases h with h | h; exact cs h; exact ct h⟩]
                by_cases u1 : xx < 256
                · rw [if_pos u1]; exact bad
                · rw [if_neg u1]
                  by_cases u2 : (256 + nI n) ≤ xx
                  · rw [if_pos u2]; exact bad
                  · rw [if_neg u2]
                    have u0 := (tg_eq (M := fun _ => 1) (x := xx) hn).mp ⟨u1, u2, rfl⟩
                    obtain ⟨j, hj, ej⟩ := nI_of u0.1
                    have jn : j < n := (nI_ltI hj (by omega)).mp (by rw [← ej]; exact u0.2.1)
                    rw [ej, lr_nI H.2.2.2.1 (by have := H.2.2.2.2.1; omega) H.2.2.2.2.2, g1.2 j jn]
                    have u3 : ¬ M j = 1 := fun k => ct ⟨u0.1, u0.2.1, by rw [ej, nI_clamp hj]; exact k⟩
                    rw [if_pos u3]; exact bad
          · rw [pn (fun h => c h.1)]
            rcases h24 with h | h | h | h | h
            · rw [if_pos h, nm_of, nI_1]; exact nx
            · exact absurd (Or.inl h) c
            · exact absurd (Or.inr (Or.inl h)) c
            · exact absurd (Or.inr (Or.inr h)) c
            · rw [if_neg h.1, if_neg h.2, nm_of, nI_1]; exact nx
end
