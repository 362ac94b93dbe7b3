/-! ===== the reference's policy ===== -/
def KH (v0 q t n : Nat) : Prop := MqH v0 q n ∧ t ≠ v0 ∧ t ≠ q ∧ kd t = 900 ∧ n ≤ al t ∧ al t < 2 ^ 31
def KF (v0 t : Nat) (σ0 σ : St) : Prop := (∀ c, c ≠ v0 → c ≠ t → σ c = σ0 c) ∧ ∀ k, k ≠ 3 → k ≠ 4 → (k < 43 ∨ 53 < k) → σ v0 k = σ0 v0 k
def KI (q t n : Nat) (row M : Nat → Int32) (σ : St) : Prop := σ q = row ∧ ∀ j, j < n → σ t j = M j
theorem lr_nI {β : Type} {σ : St} {c k : Nat} {f : Int32 → Option β} (hk : kd c = 900) (h : k < al c) (hc : al c < 2 ^ 31) : lr σ c (nI k) f = f (σ c k) := by rw [lr_in hk (vp_in_nI h hc), nI_clamp (by omega)]
theorem sr_nI {β : Type} {σ : St} {c k : Nat} {v : Int32} {f : St → Option β} (hk : kd c = 900) (h : k < al c) (hc : al c < 2 ^ 31) : sr σ c (nI k) v f = f (s2 σ c k v) := by rw [sr_in hk (vp_in_nI h hc), nI_clamp (by omega)]
section
variable {v0 q t n : Nat} {row M : Nat → Int32} {σ0 σ τ : St}
theorem kf_rf : KF v0 t σ σ := ⟨fun _ _ _ => rfl, fun _ _ _ _ => rfl⟩
theorem kf_lm (h : KF v0 t σ0 σ) (k : Lm σ v0 τ) : KF v0 t σ0 τ := by
  obtain ⟨fr, li, aT, op, fm, r, x, d, i, kf, m, rfl⟩ := k
  exact ⟨fun c h1 h2 => by rw [mkM_row h1]; exact h.1 c h1 h2, fun k h3 h4 h5 => by rw [mkM_oth h5]; exact h.2 k h3 h4 h5⟩
theorem kf_t (ht : t ≠ v0) (h : KF v0 t σ0 σ) {j : Nat} {w : Int32} : KF v0 t σ0 (s2 σ t j w) :=
  ⟨fun c h1 h2 => by rw [s2_ne h2]; exact h.1 c h1 h2, fun k h3 h4 h5 => by rw [s2_ne ht.symm]; exact h.2 k h3 h4 h5⟩
theorem kf_34 (h : KF v0 t σ0 σ) {a b : Int32} : KF v0 t σ0 (s2 (s2 σ v0 3 a) v0 4 b) :=
  ⟨fun c h1 h2 => by rw [s2_ne h1, s2_ne h1]; exact h.1 c h1 h2, fun k h3 h4 h5 => by rw [s2_at, if_pos rfl, if_neg h4, s2_at, if_pos rfl, if_neg h3]; exact h.2 k h3 h4 h5⟩
theorem ki_lm (H : KH v0 q t n) (h : KI q t n row M σ) (k : Lm σ v0 τ) : KI q t n row M τ := by
  obtain ⟨fr, li, aT, op, fm, r, x, d, i, kf, m, rfl⟩ := k
  exact ⟨by rw [mkM_row H.1.1]; exact h.1, fun j hj => by rw [mkM_row H.2.1]; exact h.2 j hj⟩
theorem ki_34 (H : KH v0 q t n) (h : KI q t n row M σ) {a b : Int32} : KI q t n row M (s2 (s2 σ v0 3 a) v0 4 b) :=
  ⟨by rw [s2_ne H.1.1, s2_ne H.1.1]; exact h.1, fun j hj => by rw [s2_ne H.2.1, s2_ne H.2.1]; exact h.2 j hj⟩
theorem ki_t (H : KH v0 q t n) (h : KI q t n row M σ) {p : Nat} {w : Int32} : KI q t n row (upd M p w) (s2 σ t p w) :=
  ⟨by rw [s2_ne H.2.2.1.symm]; exact h.1, fun j hj => by
    rw [s2_at, if_pos rfl, upd_at]; split
    · rfl
    · exact h.2 j hj⟩
theorem at_3 {a b : Int32} : (s2 (s2 σ v0 3 a) v0 4 b) v0 3 = a ∧ (s2 (s2 σ v0 3 a) v0 4 b) v0 4 = b := by
  constructor
  · rw [s2_at, if_pos rfl, if_neg (by decide), s2_at, if_pos rfl, if_pos rfl]
  · rw [s2_at, if_pos rfl, if_pos rfl]
/-- the INSTRUCTION before, and what it masks -/
def BF (row : Nat → Int32) (n p : Nat) (v6 m : Int32) : Prop := (v6 = -1 ∧ m = -1) ∨ ∃ p0 op fm r x d i, v6 = nI p0 ∧ dc row n p0 = some (op, fm, r, x, d, i, p) ∧ m = msk row p0 op fm r i
theorem kp_149 (H : KH v0 q t n) (hB : ∀ k, k < n → BY (row k)) (hI : KI q t n row M σ) {K50 : Nat → Nat → Int32 → Nat → Int32 → St → Option (Int32 × St)} {K63 : Nat → Nat → Int32 → Nat → Int32 → Int32 → Int32 → St → Option (Int32 × St)} {p : Nat} (hp : p ≤ n) {b v6 m ln g : Int32} (hg : g = 0 ∨ g = 1) (hF : BF row n p v6 m) (hr : g = 1 → inR (σ v0 48)) :
    Mo_keeps_B149 K50 K63 v0 q (nI n) t b (nI p) v6 ln g σ = Mo_keeps_B214 K50 K63 v0 q (nI n) t b (nI p) ln g (if g = 1 ∧ m = σ v0 48 then 1 else 0) σ := by
  have hn := H.1.2.2.2.2.1
  have hq := H.1.2.2.1
  unfold Mo_keeps_B149
  rcases hg with rfl | rfl
  · rw [if_pos rfl, if_neg (fun h => absurd h.1 (by decide))]
  · rw [if_neg (by decide)]
    rcases hF with ⟨rfl, rfl⟩ | ⟨p0, op, fm, r, x, d, i, rfl, hd, rfl⟩
    · rw [if_pos (by decide), if_neg]
      intro k
      have := (hr rfl).1
      rw [← k.2] at this
      exact this (by decide)
    · have hE : p0 < p ∧ p ≤ n := dc_end hd
      have hpe := pair_eq hB hd (hr rfl)
      rw [if_neg (nI_pos (by omega)), nI_sub (by omega) (by omega)]
      by_cases c1 : p - p0 = 3
      · rw [if_neg (not_not_intro (by rw [c1]; rfl)), lr_nI H.1.2.1 (by omega) H.1.2.2.2.2.2, hI.1]
        by_cases c2 : row p0 = 131
        · rw [if_neg (not_not_intro c2), nI_1, lr_nI H.1.2.1 (by omega) H.1.2.2.2.2.2, hI.1]
          by_cases c3 : row (p0 + 1) = 224 + σ v0 48
          · rw [if_neg (not_not_intro c3), show nI p0 + 2 = nI (p0 + 2) from nI_add p0 2, lr_nI H.1.2.1 (by omega) H.1.2.2.2.2.2, hI.1]
            by_cases c4 : row (p0 + 2) = 240
            · rw [if_neg (not_not_intro c4), if_pos ⟨rfl, hpe.mpr ⟨c1, c2, c3, c4⟩⟩]
            · rw [if_pos c4, if_neg (fun k => c4 (hpe.mp k.2).2.2.2)]
          · rw [if_pos c3, if_neg (fun k => c3 (hpe.mp k.2).2.2.1)]
        · rw [if_pos c2, if_neg (fun k => c2 (hpe.mp k.2).2.1)]
      · rw [if_pos (show ¬ nI (p - p0) = 3 from fun k => c1 ((nI_inj (b := 3) (by omega) (by decide)).mp k)), if_neg (fun k => c1 (hpe.mp k.2).1)]
theorem kp_loop (H : KH v0 q t n) (hB : ∀ k, k < n → BY (row k)) (hn : n ≤ 1024) {b : Nat} (hb : b + 16 ≤ n) {K50 : Nat → Nat → Int32 → Nat → Int32 → St → Option (Int32 × St)} {Q : Int32 → St → Prop} : ∀ (k N p : Nat) (v6 m : Int32) (M : Nat → Int32) (σ : St), b + 16 ≤ p + k → p ≤ b + 16 → k < N → BF row n p v6 m → KI q t n row M σ → KF v0 t σ0 σ →
    ((pbl row n b k p m M).1 = 0 → ∀ τ, KI q t n row (pbl row n b k p m M).2.2 τ → KF v0 t σ0 τ → wp (K50 v0 q (nI n) t (nI (b + 16)) τ) Q) →
    (¬ (pbl row n b k p m M).1 = 0 → ∀ τ, KI q t n row (pbl row n b k p m M).2.2 τ → KF v0 t σ0 τ → τ v0 3 = (pbl row n b k p m M).1 → τ v0 4 = nI (pbl row n b k p m M).2.1 → Q 0 τ) →
    wp (Mo_keeps_B63 K50 N v0 q (nI n) t (nI b) (nI p) v6 σ) Q := by
  intro k
  induction k with
  | zero =>
    intro N p v6 m M σ h1 h2 h3 hF hI hK q1 q2
    obtain ⟨N, rfl⟩ : ∃ N', N = N' + 1 := ⟨N - 1, by omega⟩
    rw [Mo_keeps_B63, nI_16, if_pos ((nI_le' (by omega) (by omega)).mpr (by omega)), wp_nm]
    rw [pbl] at q1
    exact q1 rfl σ hI hK
  | succ k ih =>
    intro N p v6 m M σ h1 h2 h3 hF hI hK q1 q2
    obtain ⟨N, rfl⟩ : ∃ N', N = N' + 1 := ⟨N - 1, by omega⟩
    rw [Mo_keeps_B63, nI_16]
    by_cases hp : b + 16 ≤ p
    · rw [if_pos ((nI_le' (by omega) (by omega)).mpr hp), wp_nm]
      rw [pbl, if_pos hp] at q1
      exact q1 rfl σ hI hK
    · rw [if_neg (fun h => hp ((nI_le' (by omega) (by omega)).mp h)), wp_cl]
      have hD := mn_decode (σ := σ) (p := p) H.1 (by rw [hI.1]; exact hB) (by omega)
      rw [hI.1] at hD
      refine wp_mono hD fun a τ hr => ?_
      unfold MD at hr
      have fl : ∀ (f : Int32) (τ : St), KI q t n row M τ → KF v0 t σ0 τ → pbl row n b (k + 1) p m M = (f, p, M) → ¬ f = 0 → wp (cl (Mo_faults v0 f (nI p) τ) fun x5 σ4 => zb x5 <| some (x5, σ4)) Q := by
        intro f τ g1 g2 e hf
        unfold Mo_faults
        rw [nm_of, nm_of, cl_of, zb_0]
        rw [e] at q2
        exact wp_some.mpr (q2 hf _ (ki_34 H g1) (kf_34 g2) at_3.1 at_3.2)
      cases hd : dc row n p with
      | none =>
        rw [hd] at hr
        obtain ⟨rfl, hl⟩ := hr
        rw [if_pos rfl]
        exact fl 2 τ (ki_lm H hI hl) (kf_lm hK hl) (by rw [pbl, if_neg hp, hd]) (by decide)
      | some u =>
        obtain ⟨op, fm, r, x, d, i, e⟩ := u
        have hw : WF op fm r x := dc_wf hB hd
        rw [hd] at hr
        obtain ⟨rfl, hE1, hE2, kf, m', rfl⟩ := hr
        have hl : Lm σ v0 (mkM σ v0 (nI q) (nI n) (nI e) op fm r x d i kf m') := lm_mk
        have g1 := ki_lm H hI hl
        have g2 := kf_lm hK hl
        have ps := pbl_s (k := k) (m := m) (M := M) hp hd
        rw [if_neg (nI_ne0 (by omega) (by omega)), mkM_op, nI_add, show p + (e - p) = e by omega]
        by_cases c1 : op = 23
        · rw [if_neg (not_not_intro c1)]
          have e2 : ff b e m op r = 2 := by unfold ff; rw [if_pos c1]
          exact fl 2 _ g1 g2 (by rw [ps, e2]; rfl) (by decide)
        · rw [if_pos c1]
          by_cases c2 : b + 16 < e
          · rw [if_neg (fun h => absurd ((nI_le' (by omega) (by omega)).mp h) (by omega))]
            have e2 : ff b e m op r = 3 := by unfold ff; rw [if_neg c1, if_pos c2]
            exact fl 3 _ g1 g2 (by rw [ps, e2]; rfl) (by decide)
          · rw [if_pos ((nI_le' (by omega) (by omega)).mpr (by omega))]
            -- behind the PAIR
            have lay : ∀ w, ff b e m op r = 0 → w = (if op = 27 ∨ op = 28 then (2 : Int32) else 1) → wp (sr (mkM σ v0 (nI q) (nI n) (nI e) op fm r x d i kf m') t (nI p) w fun σ1 => nm (nI p + nI (e - p)) fun x2 => (Mo_keeps_B63 K50 N) v0 q (nI n) t (nI b) x2 (nI p) σ1) Q := by
              intro w hf hw2
              rw [ps, if_pos hf, ← hw2] at q1 q2
              rw [sr_nI H.2.2.2.1 (by have := H.2.2.2.2.1; omega) H.2.2.2.2.2, nm_of, nI_add, show p + (e - p) = e by omega]
              exact ih N e _ _ _ _ (by omega) (by omega) (by omega) (Or.inr ⟨p, op, fm, r, x, d, i, rfl, hd, rfl⟩) (ki_t H g1) (kf_t H.2.1 g2) q1 q2
            have b234 : ∀ v9 : Int32, (op = 27 ∨ op = 28 → m = r ∧ v9 = 1) → (¬ (op = 27 ∨ op = 28) → v9 = 0) → wp (Mo_keeps_B234 K50 (Mo_keeps_B63 K50 N) v0 q (nI n) t (nI b) (nI p) (nI (e - p)) v9 (mkM σ v0 (nI q) (nI n) (nI e) op fm r x d i kf m')) Q := by
              intro v9 a1 a2
              have nf4 : ¬ ((op = 27 ∨ op = 28) ∧ ¬ m = r) := fun h => h.2 (a1 h.1).1
              have lay2 : ff b e m op r = 0 → wp (if v9 = 0 then sr (mkM σ v0 (nI q) (nI n) (nI e) op fm r x d i kf m') t (nI p) 1 fun σ1 => nm (nI p + nI (e - p)) fun x2 => (Mo_keeps_B63 K50 N) v0 q (nI n) t (nI b) x2 (nI p) σ1 else sr (mkM σ v0 (nI q) (nI n) (nI e) op fm r x d i kf m') t (nI p) 2 fun σ1 => nm (nI p + nI (e - p)) fun x2 => (Mo_keeps_B63 K50 N) v0 q (nI n) t (nI b) x2 (nI p) σ1) Q := by
                intro hf
                by_cases c : op = 27 ∨ op = 28
                · rw [(a1 c).2, if_neg (by decide)]; exact lay 2 hf (by rw [if_pos c])
                · rw [a2 c, if_pos rfl]; exact lay 1 hf (by rw [if_neg c])
              have b252 : (op = 26 ∨ op = 28) → wp (Mo_keeps_B252 K50 (Mo_keeps_B63 K50 N) v0 q (nI n) t (nI b) (nI p) (nI (e - p)) v9 (mkM σ v0 (nI q) (nI n) (nI e) op fm r x d i kf m')) Q := by
                intro c
                unfold Mo_keeps_B252
                rw [nI_add, show p + (e - p) = e by omega, nI_16]
                by_cases c5 : e = b + 16
                · rw [if_pos (by rw [c5])]
                  have := lay2 (by unfold ff; rw [if_neg c1, if_neg c2, if_neg nf4, if_neg (fun h => h.2 c5)])
                  rw [nI_add, show p + (e - p) = e by omega] at this
                  exact this
                · rw [if_neg (fun h => c5 ((nI_inj (by omega) (by omega)).mp h))]
                  have e2 : ff b e m op r = 5 := by unfold ff; rw [if_neg c1, if_neg c2, if_neg nf4, if_pos ⟨c, c5⟩]
                  exact fl 5 _ g1 g2 (by rw [ps, e2]; rfl) (by decide)
              unfold Mo_keeps_B234
              rw [mkM_op]
              by_cases c6 : op = 26
              · rw [if_pos c6]; exact b252 (Or.inl c6)
              · rw [if_neg c6]
                by_cases c8 : op = 28
                · rw [if_neg (not_not_intro c8)]; exact b252 (Or.inr c8)
                · rw [if_pos c8]
                  exact lay2 (by unfold ff; rw [if_neg c1, if_neg c2, if_neg nf4, if_neg (fun h => by rcases h.1 with h | h <;> contradiction)])
            have go : ∀ g : Int32, (g = 0 ∨ g = 1) → (g = 1 ↔ (op = 27 ∨ op = 28)) → wp (Mo_keeps_B149 K50 (Mo_keeps_B63 K50 N) v0 q (nI n) t (nI b) (nI p) v6 (nI (e - p)) g (mkM σ v0 (nI q) (nI n) (nI e) op fm r x d i kf m')) Q := by
              intro g hg hg2
              rw [kp_149 H hB g1 (by omega) hg hF (fun h => by
                rw [mkM_r]
                have := hw.2.2.2.2.2.1 (hg2.mp h)
                exact hw.2.2.1 (by rw [this]; decide)), mkM_r]
              unfold Mo_keeps_B214
              by_cases c : op = 27 ∨ op = 28
              · have hg1 : g = 1 := hg2.mpr c
                rw [if_neg (by rw [hg1]; decide)]
                by_cases cm : m = r
                · rw [show (if g = 1 ∧ m = r then (1 : Int32) else 0) = 1 from if_pos ⟨hg1, cm⟩, if_pos (by decide)]
                  exact b234 1 (fun _ => ⟨cm, rfl⟩) (fun h => absurd c h)
                · rw [show (if g = 1 ∧ m = r then (1 : Int32) else 0) = 0 from if_neg (fun h => cm h.2), if_neg (by decide)]
                  have e2 : ff b e m op r = 4 := by unfold ff; rw [if_neg c1, if_neg c2, if_pos ⟨c, cm⟩]
                  exact fl 4 _ g1 g2 (by rw [ps, e2]; rfl) (by decide)
              · have hg0 : g = 0 := hg.resolve_right (fun h => c (hg2.mp h))
                rw [if_pos hg0, show (if g = 1 ∧ m = r then (1 : Int32) else 0) = 0 from if_neg (fun h => by rw [hg0] at h; exact absurd h.1 (by decide))]
                exact b234 0 (fun h => absurd h c) (fun _ => rfl)
            by_cases c7 : op = 27
            · rw [if_pos c7]; exact go 1 (Or.inr rfl) ⟨fun _ => Or.inl c7, fun _ => rfl⟩
            · rw [if_neg c7]
              by_cases c8 : op = 28
              · rw [if_neg (not_not_intro c8)]; exact go 1 (Or.inr rfl) ⟨fun _ => Or.inr c8, fun _ => rfl⟩
              · rw [if_pos c8]; exact go 0 (Or.inl rfl) ⟨fun h => absurd h (by decide), fun h => by rcases h with h | h <;> contradiction⟩
end
