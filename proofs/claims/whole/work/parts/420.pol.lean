/-! ===== THE POLICY as a function of the bytes ===== -/
def msk (row : Nat → Int32) (p : Nat) (op fm r i : Int32) : Int32 := if row p = 131 ∧ op = 4 ∧ fm = 5 ∧ i = -16 then r else -1
def pbl (row : Nat → Int32) (n b : Nat) : Nat → Nat → Int32 → (Nat → Int32) → Int32 × Nat × (Nat → Int32)
  | 0, p, _, M => (0, p, M)
  | k + 1, p, m, M => if b + 16 ≤ p then (0, p, M) else match dc row n p with
    | none => (2, p, M)
    | some (op, fm, r, _, _, i, e) =>
      if op = 23 then (2, p, M) else if b + 16 < e then (3, p, M)
      else if (op = 27 ∨ op = 28) ∧ ¬ m = r then (4, p, M)
      else if (op = 26 ∨ op = 28) ∧ ¬ e = b + 16 then (5, p, M)
      else pbl row n b k e (msk row p op fm r i) (upd M p (if op = 27 ∨ op = 28 then 2 else 1))
def pal (row : Nat → Int32) (n : Nat) : Nat → Nat → (Nat → Int32) → Int32 × Nat × (Nat → Int32)
  | 0, b, M => (0, b, M)
  | k + 1, b, M => if n ≤ b then (0, b, M) else if (pbl row n b 16 b (-1) M).1 = 0 then pal row n k (b + 16) (pbl row n b 16 b (-1) M).2.2 else pbl row n b 16 b (-1) M
abbrev isS (t : Int32) : Prop := t = 0 ∨ t = 16 ∨ t = 32 ∨ t = 48
abbrev tgt (n : Nat) (M : Nat → Int32) (t : Int32) : Prop := isS t ∨ (¬ t - 256 < 0 ∧ t - 256 < nI n ∧ M (t - 256).toNatClampNeg = 1)
def ptl (row : Nat → Int32) (n : Nat) (M : Nat → Int32) : Nat → Nat → Int32 × Nat
  | 0, p => (0, p)
  | k + 1, p => if n ≤ p then (0, p) else if M p = 0 then ptl row n M k (p + 1) else match dc row n p with
    | none => ptl row n M k (p + 1)
    | some (op, _, _, _, _, i, e) => if (op = 24 ∨ op = 25 ∨ op = 26) ∧ ¬ tgt n M (((256 + nI p) + nI (e - p)) + i) then (6, p) else ptl row n M k (p + 1)
def m0 : Nat → Int32 := fun _ => 0
def plt (row : Nat → Int32) (n : Nat) (o : Int32 × Nat × (Nat → Int32)) : Int32 × Int32 × (Nat → Int32) :=
  if o.1 = 0 then (if (ptl row n o.2.2 n 0).1 = 0 then (0, -1, o.2.2) else ((ptl row n o.2.2 n 0).1, nI (ptl row n o.2.2 n 0).2, o.2.2)) else (o.1, nI o.2.1, o.2.2)
/-- FAULT, place, the marks -/
def pol (row : Nat → Int32) (n : Nat) : Int32 × Int32 × (Nat → Int32) :=
  if n < 16 ∨ 1024 < n ∨ ¬ n % 16 = 0 then (1, nI n, m0) else plt row n (pal row n 64 0 m0)
theorem isS_t (t : Int32) : (if t < 0 then (0 : Int32) else if 48 < t then 0 else if ¬ rem t 16 = 0 then 0 else 1) = if isS t then 1 else 0 := by
  by_cases h1 : t < 0
  · rw [if_pos h1, if_neg]; rintro (h | h | h | h) <;> (subst h; exact absurd h1 (by decide))
  · rw [if_neg h1]
    by_cases h2 : 48 < t
    · rw [if_pos h2, if_neg]; rintro (h | h | h | h) <;> (subst h; exact absurd h2 (by decide))
    · rw [if_neg h2]
      exact by_dec (P := fun t => ¬ 48 < t → (if ¬ rem t 16 = 0 then (0 : Int32) else 1) = if isS t then 1 else 0) (by decide +kernel) h1 (by
        refine Int32.lt_iff_toInt_lt.mpr ?_
        have := mt Int32.lt_iff_toInt_lt.mpr h2
        have e1 : (48 : Int32).toInt = 48 := rfl
        have e2 : (256 : Int32).toInt = 256 := rfl
        omega) h2
theorem hs_eq {t : Int32} {σ : St} : House_isService t σ = some (if isS t then 1 else 0, σ) := by
  rw [← isS_t]; unfold House_isService; repeat' split
  all_goals first | rfl | contradiction
theorem ms_eq {t : Int32} {σ : St} : Mo_isService t σ = some (if isS t then 1 else 0, σ) := by
  unfold Mo_isService
  by_cases h1 : t = 0
  · rw [if_pos h1, if_pos (Or.inl h1)]
  · rw [if_neg h1]
    by_cases h2 : t = 16
    · rw [if_pos h2, if_pos (Or.inr (Or.inl h2))]
    · rw [if_neg h2]
      by_cases h3 : t = 32
      · rw [if_pos h3, if_pos (Or.inr (Or.inr (Or.inl h3)))]
      · rw [if_neg h3]
        by_cases h4 : t = 48
        · subst h4; rfl
        · have e : ¬ isS t := by rintro (h | h | h | h) <;> contradiction
          simp [h4, e]
theorem nI_le' {a b : Nat} (ha : a < 2 ^ 31) (hb : b < 2 ^ 31) : (nI a ≤ nI b) ↔ a ≤ b := by
  rw [le_nlt]; exact ⟨fun h => by rcases Nat.lt_or_ge b a with q | q; exact absurd (nI_lt q (by omega)) h; exact q, fun h => nI_nlt h (by omega)⟩
theorem nI_inj {a b : Nat} (ha : a < 2 ^ 31) (hb : b < 2 ^ 31) : (nI a = nI b) ↔ a = b := ⟨fun h => by have := congrArg Int32.toNatClampNeg h; rwa [nI_clamp (by omega), nI_clamp (by omega)] at this, fun h => by rw [h]⟩
theorem lf_nle (c : Int32) (m p : Nat) (hc : nI m = c) (h : p < m) (hm : m < 2 ^ 31) : ¬ c ≤ nI p := by subst hc; exact fun k => absurd ((nI_le' hm (by omega)).mp k) (by omega)
theorem lf_le (c : Int32) (m p : Nat) (hc : nI m = c) (h : m ≤ p) (hp : p < 2 ^ 31) : c ≤ nI p := by subst hc; exact (nI_le' (by omega) hp).mpr h
theorem lf_lt (c : Int32) (m p : Nat) (hc : nI m = c) (h : p < m) (hm : m < 2 ^ 31) : nI p < c := by subst hc; exact nI_lt h hm
theorem lf_nlt (c : Int32) (m p : Nat) (hc : nI m = c) (h : m ≤ p) (hp : p < 2 ^ 31) : ¬ nI p < c := by subst hc; exact nI_nlt h (by omega)
theorem lf_gt (c : Int32) (m p : Nat) (hc : nI m = c) (h : m < p) (hp : p < 2 ^ 31) : c < nI p := by subst hc; exact nI_lt h hp
theorem lf_ngt (c : Int32) (m p : Nat) (hc : nI m = c) (h : p ≤ m) (hm : m < 2 ^ 31) : ¬ c < nI p := by subst hc; exact nI_nlt h (by omega)
/-! the class's Policy -/
def PH (v0 s rd fd q mk : Nat) : Prop := ch v0 1 = s ∧ ch v0 2 = rd ∧ ch s 1 = mk ∧ RH rd fd s q ∧ v0 ≠ rd ∧ v0 ≠ fd ∧ mk ≠ rd ∧ mk ≠ fd ∧ mk ≠ v0 ∧ mk ≠ s ∧ mk ≠ q ∧ s ≠ v0 ∧ q ≠ v0 ∧ fd ≠ mk ∧ rd ≠ mk
section
variable {v0 s rd fd q mk n : Nat} {row : Nat → Int32}
/-- the strip's BYTES and marks -/
def PI (s q mk n : Nat) (row M : Nat → Int32) (σ : St) : Prop := σ s 2 = nI n ∧ σ q = row ∧ ∀ j, j < n → σ mk j = M j
theorem pc_mark (H : PH v0 s rd fd q mk) {M : Nat → Int32} {σ : St} (h : PI s q mk n row M σ) {p : Nat} (hp : p < n) (hn : n ≤ 1024) {w : Int32} :
    Strip_mark s (nI p) w σ = some (s2 σ mk p w) ∧ PI s q mk n row (upd M p w) (s2 σ mk p w) := by
  obtain ⟨h1, h2, h3, _, _, _, _, _, _, h10, h11, _, _, _, _⟩ := H
  obtain ⟨i1, i2, i3⟩ := h
  refine ⟨?_, ?_, ?_, ?_⟩
  · unfold Strip_mark
    rw [if_neg (nI_pos (by omega)), if_neg (lf_nle 1100 1100 p rfl (by omega) (by decide)), h3, sa_nI (by omega) (by decide)]
  · rw [s2_ne h10.symm]; exact i1
  · rw [s2_ne h11.symm]; exact i2
  · intro j hj
    rw [s2_at, if_pos rfl, upd_at]
    split
    · rfl
    · exact i3 j hj
theorem pc_byte (H : PH v0 s rd fd q mk) {M : Nat → Int32} {σ : St} (h : PI s q mk n row M σ) {p : Nat} (hp : p < n) (hn : n ≤ 1024) : Strip_byteAt s (nI p) σ = some (row p, σ) := by
  unfold Strip_byteAt
  rw [if_neg (nI_pos (by omega)), h.1, if_pos (nI_lt hp (by omega)), H.2.2.2.1.2.2.1, ld_nI (by omega) (by decide), h.2.1]
theorem pc_masked (H : PH v0 s rd fd q mk) {M : Nat → Int32} {σ : St} (h : PI s q mk n row M σ) {p : Nat} (hp : p < n) (hn : n ≤ 1024) : Policy_maskedRegister v0 (nI p) σ = some (msk row p (σ fd 0) (σ fd 1) (σ fd 2) (σ fd 5), σ) := by
  unfold Policy_maskedRegister msk
  rw [H.1, pc_byte H h hp hn, cl_of, H.2.1, H.2.2.2.1.1]
  by_cases e1 : row p = 131
  · by_cases e2 : σ fd 0 = 4
    · by_cases e3 : σ fd 1 = 5
      · by_cases e4 : σ fd 5 = -16
        · simp [e1, e2, e3, e4]
        · simp [e1, e2, e3, e4]
      · simp [e1, e2, e3]
    · simp [e1, e2]
  · simp [e1]
/-- the FAULT of what was found at p -/
def ff (b e : Nat) (m op r : Int32) : Int32 :=
  if op = 23 then 2 else if b + 16 < e then 3 else if (op = 27 ∨ op = 28) ∧ ¬ m = r then 4 else if (op = 26 ∨ op = 28) ∧ ¬ e = b + 16 then 5 else 0
theorem pbl_s {b k p e : Nat} {m op fm r x d i : Int32} {M : Nat → Int32} (hp : ¬ b + 16 ≤ p) (h : dc row n p = some (op, fm, r, x, d, i, e)) : pbl row n b (k + 1) p m M = if ff b e m op r = 0 then pbl row n b k e (msk row p op fm r i) (upd M p (if op = 27 ∨ op = 28 then 2 else 1)) else (ff b e m op r, p, M) := by
  rw [pbl, if_neg hp, h]
  unfold ff
  simp only []
  by_cases c1 : op = 23
  · simp [c1]
  · by_cases c2 : b + 16 < e
    · simp [c1, c2]
    · by_cases c3 : (op = 27 ∨ op = 28) ∧ ¬ m = r
      · simp only [if_neg c1, if_neg c2, if_pos c3]; simp
      · by_cases c4 : (op = 26 ∨ op = 28) ∧ ¬ e = b + 16
        · simp only [if_neg c1, if_neg c2, if_neg c3, if_pos c4]; simp
        · simp only [if_neg c1, if_neg c2, if_neg c3, if_neg c4]; simp
theorem pc_found (H : PH v0 s rd fd q mk) {σ : St} {b p e : Nat} {m : Int32} (hb : b + 16 ≤ 6000) (he : p < e) (hE : e ≤ 6000) (hl : σ fd 6 = nI (e - p)) : Policy_faultOfFound v0 (nI p) (nI (b + 16)) m σ = some (ff b e m (σ fd 0) (σ fd 2), σ) := by
  unfold Policy_faultOfFound Policy_faultOfFound_B57 ff
  have hx : nI p + nI (e - p) = nI e := by rw [nI_add]; congr 1; omega
  simp only [nm_of, H.2.1, H.2.2.2.1.1, hl, hx]
  simp only [nI_le' (show e < 2 ^ 31 by omega) (show b + 16 < 2 ^ 31 by omega), nI_inj (show e < 2 ^ 31 by omega) (show b + 16 < 2 ^ 31 by omega)]
  by_cases c1 : σ fd 0 = 23
  · simp [c1]
  · by_cases c2 : b + 16 < e
    · simp [c1, c2, Nat.not_le.mpr c2]
    · have c2' := Nat.not_lt.mp c2
      by_cases c7 : σ fd 0 = 27
      · by_cases c3 : m = σ fd 2 <;> simp [c7, c3, c2, c2']
      · by_cases c8 : σ fd 0 = 28
        · by_cases c3 : m = σ fd 2 <;> by_cases c5 : e = b + 16 <;> simp [c8, c3, c2, c2', c5]
        · by_cases c6 : σ fd 0 = 26
          · by_cases c5 : e = b + 16 <;> simp [c6, c2, c2', c5]
          · simp [c1, c6, c7, c8, c2, c2']
theorem nI_16 (b : Nat) : nI b + 16 = nI (b + 16) := by rw [show (16 : Int32) = nI 16 from rfl, nI_add]
theorem pi_mkR (H : PH v0 s rd fd q mk) {M : Nat → Int32} {σ : St} (h : PI s q mk n row M σ) {nx g os vs ds ir md lo op fm r x d i ln : Int32} : PI s q mk n row M (mkR σ rd fd nx g os vs ds ir md lo op fm r x d i ln) := by
  obtain ⟨h1, h2, h3, ⟨a1, a2, a3, a4, a5, a6, a7, a8⟩, h5, h6, h7, h8, h9, h10, h11, h12, h13, h14, h15⟩ := H
  obtain ⟨i1, i2, i3⟩ := h
  exact ⟨by rw [mkR_row a5 a6]; exact i1, by rw [mkR_row a7 a8]; exact i2, fun j hj => by rw [mkR_row h7 h8]; exact i3 j hj⟩
theorem pi_v0 (H : PH v0 s rd fd q mk) {M : Nat → Int32} {σ : St} (h : PI s q mk n row M σ) {k : Nat} {w : Int32} : PI s q mk n row M (s2 σ v0 k w) := by
  obtain ⟨h1, h2, h3, ⟨a1, a2, a3, a4, a5, a6, a7, a8⟩, h5, h6, h7, h8, h9, h10, h11, h12, h13, h14, h15⟩ := H
  obtain ⟨i1, i2, i3⟩ := h
  exact ⟨by rw [s2_ne h12]; exact i1, by rw [s2_ne h13]; exact i2, fun j hj => by rw [s2_ne h9]; exact i3 j hj⟩
theorem pi_bd (H : PH v0 s rd fd q mk) {M : Nat → Int32} {σ τ : St} (h : PI s q mk n row M σ) (hb : Bd σ rd fd τ) : PI s q mk n row M τ ∧ τ v0 = σ v0 := by
  obtain ⟨nx, os, vs, ds, ir, md, lo, op, fm, r, x, d, i, ln, rfl⟩ := hb
  exact ⟨pi_mkR H h, mkR_row H.2.2.2.2.1 H.2.2.2.2.2.1⟩
/-- what a loop over one BUNDLE leaves -/
def PB (v0 s q mk n : Nat) (row : Nat → Int32) (o : Int32 × Nat × (Nat → Int32)) (σ : St) (a : Int32) (τ : St) : Prop :=
  a = o.1 ∧ PI s q mk n row o.2.2 τ ∧ τ v0 0 = if o.1 = 0 then σ v0 0 else nI o.2.1
theorem pc_loop (H : PH v0 s rd fd q mk) (hn : n ≤ 1024) {b : Nat} (hb : b + 16 ≤ n) : ∀ (k N p : Nat) (m : Int32) (M : Nat → Int32) (t : Nat) (σ : St), b + 16 ≤ p + k → b + t ≤ p → p ≤ b + 16 → k < N → PI s q mk n row M σ →
    wp (Policy_bundleFault_B7 N v0 (nI b) (nI p) m (nI t) σ) (PB v0 s q mk n row (pbl row n b k p m M) σ) := by
  intro k
  induction k with
  | zero =>
    intro N p m M t σ h1 h2 h3 h4 hI
    obtain ⟨N, rfl⟩ : ∃ N', N = N' + 1 := ⟨N - 1, by omega⟩
    rw [Policy_bundleFault_B7, pbl]
    refine wp_ite.mpr ⟨fun _ => wp_some.mpr ⟨rfl, hI, by simp⟩, fun _ => ?_⟩
    rw [nI_16, if_pos ((nI_le' (by omega) (by omega)).mpr (by omega))]
    exact wp_some.mpr ⟨rfl, hI, by simp⟩
  | succ k ih =>
    intro N p m M t σ h1 h2 h3 h4 hI
    obtain ⟨N, rfl⟩ : ∃ N', N = N' + 1 := ⟨N - 1, by omega⟩
    rw [Policy_bundleFault_B7, nI_16]
    by_cases hp : b + 16 ≤ p
    · rw [pbl, if_pos hp]
      refine wp_ite.mpr ⟨fun _ => wp_some.mpr ⟨rfl, hI, by simp⟩, fun _ => ?_⟩
      rw [if_pos ((nI_le' (by omega) (by omega)).mpr hp)]
      exact wp_some.mpr ⟨rfl, hI, by simp⟩
    · rw [if_neg (lf_nle 16 16 t rfl (by omega) (by decide)), if_neg (fun h => hp ((nI_le' (by omega) (by omega)).mp h)), wp_cl, H.2.1]
      have hR := cn_read (p := p) H.2.2.2.1 hI.1 (by omega) (by omega)
      rw [hI.2.1] at hR
      refine wp_mono hR fun a τ hr => ?_
      unfold RD at hr
      cases hd : dc row n p with
      | none =>
        rw [hd] at hr
        obtain ⟨rfl, hbd⟩ := hr
        obtain ⟨g1, g2⟩ := pi_bd H hI hbd
        rw [if_pos rfl, pbl, if_neg hp, hd]
        unfold Policy_bundleFault_B47
        rw [if_neg (by decide), wp_nm]
        exact wp_some.mpr ⟨rfl, pi_v0 H g1, by rw [s2_at]; simp⟩
      | some u =>
        obtain ⟨op, fm, r, x, d, i, e⟩ := u
        have hE : p < e ∧ e ≤ n := dc_end hd
        rw [hd] at hr
        obtain ⟨rfl, os, vs, ds, ir, md, lo, rfl⟩ := hr
        have g1 := pi_mkR H hI (nx := nI e) (g := 1) (os := os) (vs := vs) (ds := ds) (ir := ir) (md := md) (lo := lo) (op := op) (fm := fm) (r := r) (x := x) (d := d) (i := i) (ln := nI (e - p))
        have hf := H.2.2.2.1.2.2.2.1
        rw [pbl_s hp hd, if_neg (by decide), pc_found H (e := e) (by omega) (by omega) (by omega) (mkR_ln hf), cl_of, mkR_op hf, mkR_r hf]
        have v00 : (mkR σ rd fd (nI e) 1 os vs ds ir md lo op fm r x d i (nI (e - p))) v0 = σ v0 := mkR_row H.2.2.2.2.1 H.2.2.2.2.2.1
        unfold Policy_bundleFault_B47
        by_cases hF : ff b e m op r = 0
        · rw [if_pos hF, if_pos hF, H.2.1, H.2.2.2.1.1, mkR_op hf]
          have hle : e ≤ b + 16 := by
            unfold ff at hF
            by_cases c1 : op = 23
            · rw [if_pos c1] at hF; exact absurd hF (by decide)
            · rw [if_neg c1] at hF
              by_cases c2 : b + 16 < e
              · rw [if_pos c2] at hF; exact absurd hF (by decide)
              · omega
          have go : ∀ w, wp (Policy_bundleFault_B114 (Policy_bundleFault_B7 N) v0 (nI b) (nI p) (nI t) s (nI p) w (mkR σ rd fd (nI e) 1 os vs ds ir md lo op fm r x d i (nI (e - p)))) (PB v0 s q mk n row (pbl row n b k e (msk row p op fm r i) (upd M p w)) σ) := by
            intro w
            unfold Policy_bundleFault_B114
            obtain ⟨k1, k2⟩ := pc_mark H g1 (p := p) (by omega) hn (w := w)
            rw [k1, cv_of, pc_masked H k2 (by omega) hn, cl_of, H.2.1, H.2.2.2.1.1]
            rw [s2_ne H.2.2.2.2.2.2.2.2.2.2.2.2.2.1, mkR_op hf, mkR_fm hf, mkR_r hf, mkR_i hf, mkR_ln hf, nm_of, nm_of, nI_add, nI_1, show p + (e - p) = e by omega]
            refine wp_mono (ih N e _ _ (t + 1) _ (by omega) (by omega) hle (by omega) k2) fun a τ hh => ?_
            obtain ⟨q1, q2, q3⟩ := hh
            refine ⟨q1, q2, ?_⟩
            rw [q3, s2_ne H.2.2.2.2.2.2.2.2.1.symm, v00]
          unfold Policy_bundleFault_B97
          rw [H.1]
          by_cases c7 : op = 27
          · rw [if_pos c7, if_neg (by decide), if_pos (Or.inl c7)]; exact go 2
          · rw [if_neg c7]
            by_cases c8 : op = 28
            · rw [if_neg (not_not_intro c8), if_neg (by decide), if_pos (Or.inr c8)]; exact go 2
            · rw [if_pos c8, if_pos rfl, if_neg (by simp [c7, c8])]; exact go 1
        · rw [if_neg hF, if_neg hF, wp_nm]
          exact wp_some.mpr ⟨rfl, pi_v0 H g1, by rw [s2_at]; simp [hF]⟩
end
