section
variable {m : Nat} {s a b op fm r x d i : Nat → Int32} {lb : Nat → Int32} {el pl ln jl : Nat → Nat} {lg : Nat → Bool}
def CWr (m : Nat) (s a b op fm r x d i : Nat → Int32) (lb : Nat → Int32) (pl ln : Nat → Nat) (σ : St) : Prop := m ≤ 120 ∧ σ 15 4 = nI m ∧ σ 16 = s ∧ σ 17 = a ∧ σ 18 = b ∧ σ 20 = op ∧ σ 21 = fm ∧ σ 22 = r ∧ σ 23 = x ∧ σ 24 = d ∧ σ 25 = i ∧ σ 26 = lb ∧ (∀ j, j < m → σ 19 j = nI (pl j)) ∧ ∀ j, j < m → σ 32 j = nI (ln j)
theorem cw_c {σ σ' : St} (W : CWr m s a b op fm r x d i lb pl ln σ) (h : ∀ c, 15 ≤ c → c ≤ 26 → σ' c = σ c) (h32 : σ' 32 = σ 32) : CWr m s a b op fm r x d i lb pl ln σ' := by
  unfold CWr at W ⊢
  rw [h 15 (by decide) (by decide), h 16 (by decide) (by decide), h 17 (by decide) (by decide), h 18 (by decide) (by decide), h 19 (by decide) (by decide), h 20 (by decide) (by decide), h 21 (by decide) (by decide), h 22 (by decide) (by decide), h 23 (by decide) (by decide), h 24 (by decide) (by decide), h 25 (by decide) (by decide), h 26 (by decide) (by decide), h32]
  exact W
/-- ITEMS are of one of ten sorts -/
def SrtO (m : Nat) (s : Nat → Int32) : Prop := ∀ k, k < m → s k = 0 ∨ s k = 1 ∨ s k = 2 ∨ s k = 3 ∨ s k = 4 ∨ s k = 5 ∨ s k = 6 ∨ s k = 7 ∨ s k = 8 ∨ s k = 9
theorem c_make {σ : St} (W : CWr m s a b op fm r x d i lb pl ln σ) (J : JL m s a lb jl) (hS : SrtO m s) (hln : ∀ k, k < m → ln k = lnF s el lg k) {k : Nat} (hk : k < m) : ∃ σ', Builder_makePiece 28 (nI k) σ = some σ' ∧ isPc (pcF s a b op fm r x d i pl ln jl lg k) σ' ∧ ∀ c, c ≠ 29 → c ≠ 30 → c ≠ 31 → σ' c = σ c := by
  obtain ⟨hm, hc, e16, e17, e18, e20, e21, e22, e23, e24, e25, e26, h19, h32⟩ := id W
  have J' : JL m (σ 16) (σ 17) (σ 26) jl := by rw [e16, e17, e26]; exact J
  have fin : ∀ L, ∃ σ', some (cP σ L) = some σ' ∧ isPc L σ' ∧ ∀ c, c ≠ 29 → c ≠ 30 → c ≠ 31 → σ' c = σ c := fun L => ⟨_, rfl, pc_cP, fun c x1 x2 _ => cP_row x1 x2⟩
  have ld16 : ∀ f : Int32 → Option St, ld σ 16 120 (nI k) f = f (s k) := fun f => by rw [ld_nI (by omega) (by decide), e16]
  have ld17 : ∀ f : Int32 → Option St, ld σ 17 120 (nI k) f = f (a k) := fun f => by rw [ld_nI (by omega) (by decide), e17]
  have ld18 : ∀ f : Int32 → Option St, ld σ 18 120 (nI k) f = f (b k) := fun f => by rw [ld_nI (by omega) (by decide), e18]
  have ld19 : ∀ f : Int32 → Option St, ld σ 19 120 (nI k) f = f (nI (pl k)) := fun f => by rw [ld_nI (by omega) (by decide), h19 k hk]
  have ld32 : ∀ f : Int32 → Option St, ld σ 32 120 (nI k) f = f (nI (ln k)) := fun f => by rw [ld_nI (by omega) (by decide), h32 k hk]
  have dist : (s k = 1 ∨ s k = 2 ∨ s k = 3 ∨ s k = 8) → Builder_distance 28 (nI k) σ = some (dstF pl ln jl k, σ) := fun h => c_dist hm hc J' h19 hk (by rw [e16]; exact h) (h32 k hk)
  unfold Builder_makePiece
  rw [cc_28_1, cc_28_3, cc_28_4, cc_28_5, cc_15_0, cc_15_1, cc_15_2, cc_15_3, ld17, ld16]
  have jump : jmp s k → ∃ σ', Builder_makePiece_B79 28 (nI k) σ = some σ' ∧ isPc (pcF s a b op fm r x d i pl ln jl lg k) σ' ∧ ∀ c, c ≠ 29 → c ≠ 30 → c ≠ 31 → σ' c = σ c := by
    intro hj
    unfold Builder_makePiece_B79 Builder_makeJump Builder_makeJump_B15
    rw [dist (by rcases hj with y | y; exact Or.inl y; exact Or.inr (Or.inl y)), cl_of, cc_28_1, cc_28_3, cc_28_5, cc_15_0, cc_15_2, ld32, ld16, ld16, ld18, ld18, c_lb, c_sh, c_w4, c_sh, cv_of, cv_of, cv_of, cv_of, hln k hk]
    have l2 := lnF_2 (el := el) (lg := lg) hj
    cases hg : lg k
    · have e2 := l2.1 hg
      rw [if_neg (not_not_intro (show nI (lnF s el lg k) = 2 by rw [e2]; rfl)), if_neg (show ¬ (1 : Int32) = 0 by decide), if_neg (show ¬ (1 : Int32) = 0 by decide)]
      rcases hj with y | y
      · have : pcF s a b op fm r x d i pl ln jl lg k = [bt 235, bt (dstF pl ln jl k)] := by unfold pcF; simp [y, hg]
        rw [if_neg (not_not_intro y), cv_of, this]; exact fin _
      · have : pcF s a b op fm r x d i pl ln jl lg k = [bt (112 + b k), bt (dstF pl ln jl k)] := by unfold pcF; simp [y, hg]
        rw [if_pos (show ¬ s k = 1 by rw [y]; decide), cv_of, this]; exact fin _
    · have e2 := l2.2 hg
      rw [if_pos (show ¬ nI (lnF s el lg k) = 2 by rw [e2]; split <;> decide), if_pos rfl, if_pos rfl]
      rcases hj with y | y
      · have : pcF s a b op fm r x d i pl ln jl lg k = bt 233 :: four (dstF pl ln jl k) := by unfold pcF; simp [y, hg]
        rw [if_neg (not_not_intro y), cv_of, this]; exact fin _
      · have : pcF s a b op fm r x d i pl ln jl lg k = bt 15 :: bt (128 + b k) :: four (dstF pl ln jl k) := by unfold pcF; simp [y, hg]
        rw [if_pos (show ¬ s k = 1 by rw [y]; decide), cv_of, this]; exact fin _
  rcases hS k hk with z | z | z | z | z | z | z | z | z | z
  · have : pcF s a b op fm r x d i pl ln jl lg k = [] := by unfold pcF; simp [z]
    rw [if_pos z, nm_of, cP_nil, this]; exact fin _
  · rw [if_neg (show ¬ s k = 0 by rw [z]; decide), if_pos z]; exact jump (Or.inl z)
  · rw [if_neg (show ¬ s k = 0 by rw [z]; decide), if_neg (show ¬ s k = 1 by rw [z]; decide), if_pos z]; exact jump (Or.inr z)
  · have : pcF s a b op fm r x d i pl ln jl lg k = bt 232 :: four (dstF pl ln jl k) := by unfold pcF; simp [z]
    rw [if_neg (show ¬ s k = 0 by rw [z]; decide), if_neg (show ¬ s k = 1 by rw [z]; decide), if_neg (show ¬ s k = 2 by rw [z]; decide), if_pos z, dist (Or.inr (Or.inr (Or.inl z))), cl_of, c_w4, cv_of, this]; exact fin _
  · have : pcF s a b op fm r x d i pl ln jl lg k = bt 232 :: four (16 * a k - ((256 + nI (pl k)) + nI (ln k))) := by unfold pcF; simp [z]
    rw [if_neg (show ¬ s k = 0 by rw [z]; decide), if_neg (show ¬ s k = 1 by rw [z]; decide), if_neg (show ¬ s k = 2 by rw [z]; decide), if_neg (show ¬ s k = 3 by rw [z]; decide), if_pos z, ld19, ld32, c_w4, cv_of, this]; exact fin _
  · have : pcF s a b op fm r x d i pl ln jl lg k = pair (a k) 224 := by unfold pcF; simp [z]
    rw [if_neg (show ¬ s k = 0 by rw [z]; decide), if_neg (show ¬ s k = 1 by rw [z]; decide), if_neg (show ¬ s k = 2 by rw [z]; decide), if_neg (show ¬ s k = 3 by rw [z]; decide), if_neg (show ¬ s k = 4 by rw [z]; decide), if_pos z, c_pair _ _ (Or.inl rfl), cv_of, if_pos rfl, this]; exact fin _
  · have : pcF s a b op fm r x d i pl ln jl lg k = pair (a k) 208 := by unfold pcF; simp [z]
    rw [if_neg (show ¬ s k = 0 by rw [z]; decide), if_neg (show ¬ s k = 1 by rw [z]; decide), if_neg (show ¬ s k = 2 by rw [z]; decide), if_neg (show ¬ s k = 3 by rw [z]; decide), if_neg (show ¬ s k = 4 by rw [z]; decide), if_neg (show ¬ s k = 5 by rw [z]; decide), if_pos z, c_pair _ _ (Or.inr rfl), cv_of, if_neg (by decide), this]; exact fin _
  · have : pcF s a b op fm r x d i pl ln jl lg k = [bt (88 + 1)] := by unfold pcF; simp [z]
    rw [if_neg (show ¬ s k = 0 by rw [z]; decide), if_neg (show ¬ s k = 1 by rw [z]; decide), if_neg (show ¬ s k = 2 by rw [z]; decide), if_neg (show ¬ s k = 3 by rw [z]; decide), if_neg (show ¬ s k = 4 by rw [z]; decide), if_neg (show ¬ s k = 5 by rw [z]; decide), if_neg (show ¬ s k = 6 by rw [z]; decide), if_pos z]
    unfold Piece_becomeRegisterOp
    rw [nm_of, cP_nil, c_put0, cv_of, cv_of, this]; exact fin _
  · have : pcF s a b op fm r x d i pl ln jl lg k = bt (184 + b k) :: four (256 + nI (pl (jl k))) := by unfold pcF; simp [z]
    rw [if_neg (show ¬ s k = 0 by rw [z]; decide), if_neg (show ¬ s k = 1 by rw [z]; decide), if_neg (show ¬ s k = 2 by rw [z]; decide), if_neg (show ¬ s k = 3 by rw [z]; decide), if_neg (show ¬ s k = 4 by rw [z]; decide), if_neg (show ¬ s k = 5 by rw [z]; decide), if_neg (show ¬ s k = 6 by rw [z]; decide), if_neg (show ¬ s k = 7 by rw [z]; decide), if_pos z, ld18, c_lplc hm hc J' h19 hk (by rw [e16]; exact Or.inr (Or.inr (Or.inr z))), cl_of, c_w4, cv_of, this]; exact fin _
  · have : pcF s a b op fm r x d i pl ln jl lg k = enc (op k) (fm k) (r k) (x k) (d k) (i k) := by unfold pcF; simp [z]
    rw [if_neg (show ¬ s k = 0 by rw [z]; decide), if_neg (show ¬ s k = 1 by rw [z]; decide), if_neg (show ¬ s k = 2 by rw [z]; decide), if_neg (show ¬ s k = 3 by rw [z]; decide), if_neg (show ¬ s k = 4 by rw [z]; decide), if_neg (show ¬ s k = 5 by rw [z]; decide), if_neg (show ¬ s k = 6 by rw [z]; decide), if_neg (show ¬ s k = 7 by rw [z]; decide), if_neg (show ¬ s k = 8 by rw [z]; decide), c_loadD hm hc hk, cv_of, c_become ldI_i, cv_of, this, e20, e21, e22, e23, e24, e25]
    exact ⟨_, rfl, pc_cP, fun c x1 x2 x3 => by rw [cP_row x1 x2, ldI_row x3]⟩
/-- all pieces find room -/
def Rm (m : Nat) (s a b op fm r x d i : Nat → Int32) (pl ln jl : Nat → Nat) (lg : Nat → Bool) : Prop := ∀ k, k < m → (pcF s a b op fm r x d i pl ln jl lg k).length ≤ 16 ∧ pl k + (pcF s a b op fm r x d i pl ln jl lg k).length ≤ 1024 ∧ (s k = 7 → ln k = 1 ∧ fit (pl k + 1) 5 + 5 ≤ 1024)
theorem c_wr27 (J : JL m s a lb jl) (hS : SrtO m s) (hln : ∀ k, k < m → ln k = lnF s el lg k) (hR : Rm m s a b op fm r x d i pl ln jl lg) (f : Nat → Int32) : ∀ (e N k : Nat) (σ : St), m ≤ k + e → k ≤ m → e < N → CWr m s a b op fm r x d i lb pl ln σ → σ 8 = wrA s a b op fm r x d i pl ln jl lg f k → wv (Builder_writeCode_B27 N 28 (nI k) σ) (fun σ' => (∀ c, c ≠ 8 → c ≠ 28 → c ≠ 29 → c ≠ 30 → c ≠ 31 → σ' c = σ c) ∧ (∀ j, j ≠ 6 → σ' 28 j = σ 28 j) ∧ σ' 8 = wrA s a b op fm r x d i pl ln jl lg f m) := by
  intro e
  induction e with
  | zero =>
    intro N k σ h1 h2 h3 W h8
    obtain ⟨N, rfl⟩ : ∃ n, N = n + 1 := ⟨N - 1, by omega⟩
    have hm := W.1
    have ek : k = m := by omega
    subst ek
    rw [Builder_writeCode_B27, cc_28_1, W.2.1, if_pos ((nI_le' (by omega) (by omega)).mpr (by omega))]
    exact wv_some.mpr ⟨fun _ _ _ _ _ _ => rfl, fun _ _ => rfl, h8⟩
  | succ e ih =>
    intro N k σ h1 h2 h3 W h8
    obtain ⟨N, rfl⟩ : ∃ n, N = n + 1 := ⟨N - 1, by omega⟩
    have hm := W.1
    rw [Builder_writeCode_B27, cc_28_1, W.2.1]
    by_cases c : k < m
    · obtain ⟨r1, r2, r3⟩ := hR k c
      obtain ⟨σ1, m1, m2, m3⟩ := c_make (jl := jl) W J hS hln c
      have W1 : CWr m s a b op fm r x d i lb pl ln σ1 := cw_c W (fun c x1 x2 => m3 c (by omega) (by omega) (by omega)) (m3 32 (by decide) (by decide) (by decide))
      have q19 : σ1 19 k = nI (pl k) := W1.2.2.2.2.2.2.2.2.2.2.2.2.1 k c
      rw [if_neg (fun x => absurd ((nI_le' (by omega) (by omega)).mp x) (by omega)), if_neg (lf_nle 120 120 k rfl (by omega) (by decide)), m1, cv_of, cc_15_3, ld_nI (by omega) (by decide), q19, cc_28_2, cc_28_3, c_pp r1 (by omega) m2, cv_of, cc_15_0, ld_nI (by omega) (by decide), up_ne (by decide), W1.2.2.1, m3 8 (by decide) (by decide) (by decide), h8]
      have W2 : ∀ g, CWr m s a b op fm r x d i lb pl ln (va_up σ1 8 g) := fun g => cw_c W1 (fun c x1 x2 => up_ne (by omega)) (up_ne (by decide))
      by_cases z7 : s k = 7
      · rw [if_neg (not_not_intro z7), ld_nI (by omega) (by decide), up_ne (by decide), q19, cc_28_5, ld_nI (by omega) (by decide), up_ne (by decide), W1.2.2.2.2.2.2.2.2.2.2.2.2.2 k c, (r3 z7).1, nI_add, nm_of, c_pair _ _ (Or.inl rfl), cv_of, if_pos rfl, show (5 : Int32) = nI 5 from rfl, c_layP (q := pl k + 1) (by rw [cP_row (by decide) (by decide), s2_row, upd_s]) (by omega) (by omega), cl_of, c_pp (L := pair 1 224) (by decide) (by have := (r3 z7).2; show fit (pl k + 1) 5 + 5 ≤ 1100; omega) ⟨by rw [s2_ne (by decide)]; exact cP_n, fun j hj => by rw [s2_ne (by decide)]; exact pc_cP.2 j hj⟩, cv_of, nm_of, nI_1]
        refine wv_mono (ih N (k + 1) _ (by omega) (by omega) (by omega) ?_ ?_) fun σ' hh => ⟨fun c x1 x2 x3 x4 x5 => ?_, fun j hj => ?_, hh.2.2⟩
        · refine cw_c (W2 (wrt (wrA s a b op fm r x d i pl ln jl lg f k) (pl k) (pcF s a b op fm r x d i pl ln jl lg k))) (fun c x1 x2 => ?_) ?_
          · rw [up_ne (by omega), s2_ne (by omega), cP_row (by omega) (by omega), s2_ne (by omega)]
          · rw [up_ne (by decide), s2_ne (by decide), cP_row (by decide) (by decide), s2_ne (by decide)]
        · rw [up_row, s2_ne (by decide), cP_row (by decide) (by decide), s2_ne (by decide), up_row]
          show _ = wr1 s a b op fm r x d i pl ln jl lg (wrA s a b op fm r x d i pl ln jl lg f k) k
          unfold wr1
          rw [if_pos z7]
        · rw [hh.1 c x1 x2 x3 x4 x5, up_ne x1, s2_ne x2, cP_row x3 x4, s2_ne x2, up_ne x1, m3 c x3 x4 x5]
        · rw [hh.2.1 j hj, up_ne (by decide), s2_row, upd_ne hj, cP_row (by decide) (by decide), s2_row, upd_ne hj, up_ne (by decide), m3 28 (by decide) (by decide) (by decide)]
      · rw [if_pos z7, nm_of, nI_1]
        refine wv_mono (ih N (k + 1) _ (by omega) (by omega) (by omega) (W2 _) ?_) fun σ' hh => ⟨fun c x1 x2 x3 x4 x5 => ?_, fun j hj => ?_, hh.2.2⟩
        · rw [up_row]
          show _ = wr1 s a b op fm r x d i pl ln jl lg (wrA s a b op fm r x d i pl ln jl lg f k) k
          unfold wr1
          rw [if_neg z7]
        · rw [hh.1 c x1 x2 x3 x4 x5, up_ne x1, m3 c x3 x4 x5]
        · rw [hh.2.1 j hj, up_ne (by decide), m3 28 (by decide) (by decide) (by decide)]
    · have ek : k = m := by omega
      subst ek
      rw [if_pos ((nI_le' (by omega) (by omega)).mpr (by omega))]
      exact wv_some.mpr ⟨fun _ _ _ _ _ _ => rfl, fun _ _ => rfl, h8⟩
end
