section
variable {m : Nat} {s a b op fm r x d i : Nat → Int32} {el : Nat → Nat} {lg : Nat → Bool}
def MB (τ τ' : St) : Prop := (∀ c, c ≠ 67 → c ≠ 78 → c ≠ 79 → c ≠ 83 → τ' c = τ c) ∧ ∀ j, j ≠ 22 → j ≠ 25 → τ' 67 j = τ 67 j
theorem mb_sz {τ τ' : St} (h : SZ τ τ') : MB τ τ' := ⟨fun c h1 _ _ h4 => h.1 c h1 h4, fun j _ h2 => h.2 j h2⟩
theorem mb_tr {τ τ1 τ2 : St} (h : MB τ τ1) (k : MB τ1 τ2) : MB τ τ2 := ⟨fun c h1 h2 h3 h4 => (k.1 c h1 h2 h3 h4).trans (h.1 c h1 h2 h3 h4), fun j h1 h2 => (k.2 j h1 h2).trans (h.2 j h1 h2)⟩
theorem mb_22 {τ : St} {v : Int32} : MB τ (s2 τ 67 22 v) := ⟨fun c h1 _ _ _ => s2_ne h1, fun j h1 _ => by rw [s2_row, upd_ne h1]⟩
theorem mb_78 {τ : St} {j : Nat} {v : Int32} : MB τ (s2 τ 78 j v) := ⟨fun c _ h2 _ _ => s2_ne h2, fun j h1 _ => by rw [s2_ne (by decide)]⟩
theorem mb_79 {τ : St} {j : Nat} {v : Int32} : MB τ (s2 τ 79 j v) := ⟨fun c _ _ h3 _ => s2_ne h3, fun j h1 _ => by rw [s2_ne (by decide)]⟩
/-- no LABEL stands twice -/
def Unq (m : Nat) (s a : Nat → Int32) : Prop := ∀ j k, j < m → k < m → s j = 0 → s k = 0 → a j = a k → j = k
def MLy (m : Nat) (s a b : Nat → Int32) (ln : Nat → Nat) (k : Nat) (τ τ' : St) : Prop := MB τ τ' ∧ τ' 67 22 = nI (nx s b ln m) ∧ (∀ j, τ' 78 j = if k ≤ j ∧ j < m then nI (plc s b ln j) else τ 78 j) ∧ (∀ l, (l < 40 → ∀ j, k ≤ j → j < m → s j = 0 → ¬ a j = nI l) → τ' 79 l = τ 79 l) ∧ (∀ j, k ≤ j → j < m → s j = 0 → τ' 79 (a j).toNatClampNeg = nI (plc s b ln j))
theorem m_lay7 (E : ELn m s op fm r x d i el) (U : Unq m s a) : ∀ (e N k : Nat) (τ : St), m ≤ k + e → k ≤ m → e < N → MT0 m s a b op fm r x d i τ → LG m lg τ → τ 67 22 = nI (nx s b (lnF s el lg) k) → wv (Mo_layAll_B7 N 67 (nI k) τ) (MLy m s a b (lnF s el lg) k τ) := by
  have hln : ∀ k, k < m → lnF s el lg k ≤ 16 ∧ (s k = 0 → lnF s el lg k = 0) := fun k hk => lnF_le (fun h => el_le E hk h)
  intro e
  induction e with
  | zero =>
    intro N k τ h1 h2 h3 D G h
    obtain ⟨N, rfl⟩ : ∃ n, N = n + 1 := ⟨N - 1, by omega⟩
    have hm := D.1
    have ek : k = m := by omega
    subst ek
    rw [Mo_layAll_B7, D.2.1, if_pos ((nI_le' (by omega) (by omega)).mpr (Nat.le_refl _))]
    exact wv_some.mpr ⟨⟨fun _ _ _ _ _ => rfl, fun _ _ _ => rfl⟩, h, fun j => by rw [if_neg (by omega)], fun _ _ => rfl, fun j h1 h2 => by omega⟩
  | succ e ih =>
    intro N k τ h1 h2 h3 D G h
    obtain ⟨N, rfl⟩ : ∃ n, N = n + 1 := ⟨N - 1, by omega⟩
    have hm := D.1
    rw [Mo_layAll_B7, D.2.1]
    by_cases c : k < m
    · have hle := nx_le (b := b) hln k (by omega)
      obtain ⟨l16, l0⟩ := hln k c
      rw [if_neg (fun x => absurd ((nI_le' (by omega) (by omega)).mp x) (by omega)), cc_67_11, mt_s D c, cc_67_18, cc_67_15]
      -- what is left, behind this ITEM
      have rest : ∀ (τ1 : St), MB τ τ1 → τ1 67 22 = nI (nx s b (lnF s el lg) (k + 1)) → (∀ j, τ1 78 j = if j = k then nI (plc s b (lnF s el lg) k) else τ 78 j) → (∀ l, (s k = 0 → l < 40 → ¬ a k = nI l) → τ1 79 l = τ 79 l) → (s k = 0 → τ1 79 (a k).toNatClampNeg = nI (plc s b (lnF s el lg) k)) → wv (Mo_layAll_B7 N 67 (nI (k + 1)) τ1) (MLy m s a b (lnF s el lg) k τ) := by
        intro τ1 B1 n1 p1 q1 q2
        refine wv_mono (ih N (k + 1) τ1 (by omega) (by omega) (by omega) (mt_c D (fun c x1 x2 => B1.1 c (by omega) (by omega) (by omega) (by omega)) (B1.2 8 (by decide) (by decide))) (fun j hj => by rw [B1.1 81 (by decide) (by decide) (by decide) (by decide)]; exact G j hj) n1) fun τ' hh => ?_
        obtain ⟨g1, g2, g3, g4, g5⟩ := hh
        refine ⟨mb_tr B1 g1, g2, fun j => ?_, fun l hl => ?_, fun j x1 x2 x3 => ?_⟩
        · rw [g3 j]
          by_cases e1 : k + 1 ≤ j ∧ j < m
          · rw [if_pos e1, if_pos (by omega)]
          · rw [if_neg e1, p1 j]
            by_cases e2 : j = k
            · rw [if_pos e2, if_pos (by omega), e2]
            · rw [if_neg e2, if_neg (by omega)]
        · rw [g4 l (fun y j x1 x2 x3 => hl y j (by omega) x2 x3), q1 l (fun x y => hl y k (Nat.le_refl _) c x)]
        · by_cases e2 : j = k
          · subst e2
            obtain ⟨l, hl, el⟩ := fok_l (mt_fok D c (by rw [x3]; decide)) (Or.inl x3)
            have := q2 x3
            rw [el, nI_clamp (by omega)] at this ⊢
            rw [g4 l (fun _ j' y1 y2 y3 y4 => by have := U j' j y2 c y3 x3 (by rw [y4, el]); omega), this]
          · exact g5 j (by omega) x2 x3
      have nxe : nx s b (lnF s el lg) (k + 1) = lyN (s k) (b k) (lnF s el lg k) (nx s b (lnF s el lg) k) := rfl
      have ple : plc s b (lnF s el lg) k = lyP (s k) (b k) (lnF s el lg k) (nx s b (lnF s el lg) k) := rfl
      generalize hq : nx s b (lnF s el lg) k = q at h nxe ple hle
      by_cases z0 : s k = 0
      · rw [if_neg (not_not_intro z0), mt_b D c (Or.inl z0)]
        have ln0 := l0 z0
        obtain ⟨l, hl, ea⟩ := fok_l (mt_fok D c (by rw [z0]; decide)) (Or.inl z0)
        have f0 : fit q 0 = q := by unfold fit; rw [if_neg (by omega)]
        have b65 : ∀ (τ1 : St) (q1 : Nat), MB τ τ1 → τ1 78 = τ 78 → τ1 79 = τ 79 → τ1 67 22 = nI q1 → q1 = lyP (s k) (b k) (lnF s el lg k) q → wv (Mo_layAll_B65 (Mo_layAll_B7 N) 67 (nI k) τ1) (MLy m s a b (lnF s el lg) k τ) := by
          intro τ1 q1 B1 e78 e79 e22 eq
          have D1 : MT0 m s a b op fm r x d i τ1 := mt_c D (fun c x1 x2 => B1.1 c (by omega) (by omega) (by omega) (by omega)) (B1.2 8 (by decide) (by decide))
          unfold Mo_layAll_B65
          rw [cc_67_18, cc_67_14, cc_67_19, e22, sa_nI (by omega) (by decide), mt_a (τ := s2 τ1 78 k (nI q1)) (mt_c D1 (fun c x1 x2 => s2_ne (by omega)) (by rw [s2_ne (by decide)])) c (by rw [z0]; decide) (by rw [z0]; decide), s2_ne (show (67 : Nat) ≠ 78 by decide), e22, ea, sa_nI (by omega) (by decide), nm_of, nI_1]
          refine rest _ (mb_tr B1 (mb_tr mb_78 mb_79)) ?_ (fun j => ?_) (fun l' hl' => ?_) (fun _ => ?_)
          · rw [s2_ne (by decide), s2_ne (by decide), e22, nxe, eq]
            unfold lyN
            rw [if_neg (by rw [z0]; decide), if_neg (by rw [z0]; decide), ln0]; rfl
          · rw [s2_ne (by decide), s2_row, upd_at, e78]
            by_cases e2 : j = k
            · rw [if_pos e2, if_pos e2, ple, eq]
            · rw [if_neg e2, if_neg e2]
          · rw [s2_row, upd_at, s2_ne (by decide), e79]
            by_cases e2 : l' = l
            · exact absurd (by rw [e2]; exact ea) (hl' z0 (by omega))
            · rw [if_neg e2]
          · rw [ea, nI_clamp (by omega), s2_row, upd_s, ple, eq]
        by_cases b1 : b k = 1
        · rw [if_neg (not_not_intro b1), h, rem_16 q (by omega)]
          by_cases r0 : q % 16 = 0
          · rw [if_pos (by rw [r0]; rfl)]
            refine b65 τ q ⟨fun _ _ _ _ _ => rfl, fun _ _ _ => rfl⟩ rfl rfl h ?_
            unfold lyP
            rw [if_neg (by rw [z0]; decide), if_pos ⟨z0, b1⟩]; omega
          · rw [if_neg (show ¬ nI (q % 16) = 0 from fun y => r0 ((nI_inj (b := 0) (by omega) (by decide)).mp y)), nm_of, show (16 : Int32) - nI (q % 16) = nI (16 - q % 16) from nI_sub (a := 16) (by omega) (by decide), nI_add]
            refine b65 _ (q + (16 - q % 16)) mb_22 (s2_ne (by decide)) (s2_ne (by decide)) (by rw [s2_row, upd_s]) ?_
            unfold lyP
            rw [if_neg (by rw [z0]; decide), if_pos ⟨z0, b1⟩]; omega
        · rw [if_pos b1]
          refine b65 τ q ⟨fun _ _ _ _ _ => rfl, fun _ _ _ => rfl⟩ rfl rfl h ?_
          unfold lyP
          rw [if_neg (by rw [z0]; decide), if_neg (fun z => b1 z.2), ln0, f0]
      · rw [if_pos z0]
        by_cases z7 : s k = 7
        · rw [if_neg (not_not_intro z7), show (1 : Int32) = nI 1 from rfl, m_lay0 h (by omega) (by omega), cl_of, sa_nI (by omega) (by decide), show (5 : Int32) = nI 5 from rfl, m_lay0 (q := fit q 1 + 1) (by rw [s2_ne (by decide), s2_row, upd_s]) (by have := fit_le q 1 (by omega); omega) (by omega), cl_of, nm_of, show nI k + nI 1 = nI (k + 1) from nI_add k 1]
          have e7 : lnF s el lg k = 1 := by
            unfold lnF; rw [if_neg z0, if_neg (by rw [z7]; decide), if_neg (by rw [z7]; decide), if_pos z7]
          refine rest _ (mb_tr mb_22 (mb_tr mb_78 mb_22)) ?_ (fun j => ?_) (fun l' hl' => ?_) (fun y => absurd y z0)
          · rw [s2_row, upd_s, nxe, e7]
            unfold lyN
            rw [if_neg (by rw [z7]; decide), if_pos z7]
          · rw [s2_ne (by decide), s2_row, upd_at, s2_ne (by decide)]
            by_cases e2 : j = k
            · rw [if_pos e2, if_pos e2, ple, e7]
              unfold lyP
              rw [if_neg (by rw [z7]; decide), if_neg (by rw [z7]; rintro ⟨y, _⟩; exact absurd y (by decide))]
            · rw [if_neg e2, if_neg e2]
          · rw [s2_ne (by decide), s2_ne (by decide), s2_ne (by decide)]
        · rw [if_pos z7]
          obtain ⟨τ1, e1, Z1⟩ := m_size D E G c z0 z7
          rw [e1, cl_of]
          simp only [nm_of, nI_1]
          have h1 : τ1 67 22 = nI q := by rw [Z1.2 22 (by decide)]; exact h
          have last : ∀ (P N' : Nat), P = lyP (s k) (b k) (lnF s el lg k) q → N' = lyN (s k) (b k) (lnF s el lg k) q → wv (Mo_layAll_B7 N 67 (nI (k + 1)) (s2 (s2 τ1 67 22 (nI N')) 78 k (nI P))) (MLy m s a b (lnF s el lg) k τ) := by
            intro P N' eP eN
            refine rest _ (mb_tr (mb_sz Z1) (mb_tr mb_22 mb_78)) ?_ (fun j => ?_) (fun l' hl' => ?_) (fun y => absurd y z0)
            · rw [s2_ne (by decide), s2_row, upd_s, nxe, eN]
            · rw [s2_row, upd_at, s2_ne (by decide), Z1.1 78 (by decide) (by decide), ple, eP]
            · rw [s2_ne (by decide), s2_ne (by decide), Z1.1 79 (by decide) (by decide)]
          by_cases zp : s k = 3 ∨ s k = 4 ∨ s k = 6
          · have w := last (fit q (lnF s el lg k) / 16 * 16 + 16 - lnF s el lg k) (fit q (lnF s el lg k) / 16 * 16 + 16) (by unfold lyP; rw [if_pos zp]) (by unfold lyN; rw [if_pos zp])
            rw [m_lay1 h1 (by omega) l16, cl_of, sa_nI (by omega) (by decide)]
            rcases zp with z | z | z
            · rw [if_pos z]; exact w
            · rw [if_neg (by rw [z]; decide), if_pos z]; exact w
            · rw [if_neg (by rw [z]; decide), if_neg (by rw [z]; decide), if_neg (not_not_intro z)]; exact w
          · have w := last (fit q (lnF s el lg k)) (fit q (lnF s el lg k) + lnF s el lg k) (by unfold lyP; rw [if_neg zp, if_neg (fun z => z0 z.1)]) (by unfold lyN lyP; rw [if_neg zp, if_neg z7, if_neg zp, if_neg (fun z => z0 z.1)])
            rw [if_neg (fun z => zp (Or.inl z)), if_neg (fun z => zp (Or.inr (Or.inl z))), if_pos (fun z => zp (Or.inr (Or.inr z))), m_lay0 h1 (by omega) l16, cl_of, sa_nI (by omega) (by decide)]
            exact w
    · have ek : k = m := by omega
      subst ek
      rw [if_pos ((nI_le' (by omega) (by omega)).mpr (Nat.le_refl _))]
      exact wv_some.mpr ⟨⟨fun _ _ _ _ _ => rfl, fun _ _ _ => rfl⟩, h, fun j => by rw [if_neg (by omega)], fun _ _ => rfl, fun j h1 h2 => by omega⟩
theorem m_layA {τ : St} (D : MT0 m s a b op fm r x d i τ) (E : ELn m s op fm r x d i el) (U : Unq m s a) (G : LG m lg τ) : wv (Mo_layAll 67 τ) (MLy m s a b (lnF s el lg) 0 τ) := by
  unfold Mo_layAll
  rw [nm_of]
  have hm := D.1
  refine wv_mono (m_lay7 E U m FU 0 _ (by omega) (by omega) (FU_big (by omega)) (mt_c D (fun c x1 x2 => s2_ne (by omega)) (by rw [s2_row, upd_ne (by decide)])) (fun j hj => by rw [s2_ne (by decide)]; exact G j hj) (by rw [s2_row, upd_s]; rfl)) fun τ' hh => ?_
  obtain ⟨g1, g2, g3, g4, g5⟩ := hh
  refine ⟨mb_tr mb_22 g1, g2, fun j => ?_, fun l hl => ?_, g5⟩
  · rw [g3 j, s2_ne (by decide)]
  · rw [g4 l hl, s2_ne (by decide)]
end
