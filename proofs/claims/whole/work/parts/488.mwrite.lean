section
variable {m : Nat} {s a b op fm r x d i : Nat → Int32} {lb : Nat → Int32} {el pl ln jl : Nat → Nat} {lg : Nat → Bool}
def WM (τ τ' : St) : Prop := (∀ c, c ≠ 67 → c ≠ 82 → c ≠ 83 → τ' c = τ c) ∧ ∀ j, j ≠ 25 → τ' 67 j = τ 67 j
theorem wm_1 {τ : St} {L : List Int32} {g : Nat → Int32} : WM τ (va_up (mP τ L) 82 g) := ⟨fun c x1 x2 x3 => by rw [up_ne x2, mP_row x1 x3], fun j hj => by rw [up_ne (by decide), mP_f hj]⟩
theorem m_write {τ : St} (D : MT0 m s a b op fm r x d i τ) (J : JL m s a lb jl) (hS : SrtO m s) (G : LG m lg τ) (hln : ∀ k, k < m → ln k = lnF s el lg k) (h78 : ∀ j, j < m → τ 78 j = nI (pl j)) (h79 : ∀ j, j < m → s j = 0 → τ 79 (a j).toNatClampNeg = nI (pl j)) (hR : Rm m s a b op fm r x d i pl ln jl lg) {k : Nat} (hk : k < m) : ∃ τ', Mo_write 67 (nI k) τ = some τ' ∧ τ' 82 = wr1 s a b op fm r x d i pl ln jl lg (τ 82) k ∧ WM τ τ' := by
  have hm := D.1
  obtain ⟨r1, r2, r3⟩ := hR k hk
  have DP : ∀ L, MT0 m s a b op fm r x d i (mP τ L) := fun L => mt_c D (fun c x1 x2 => mP_row (by omega) (by omega)) (mP_f (by decide))
  have l78 : ∀ f : Int32 → Option St, ld τ 78 240 (nI k) f = f (nI (pl k)) := fun f => by rw [ld_nI (by omega) (by decide), h78 k hk]
  have p78 : ∀ L (f : Int32 → Option St), ld (mP τ L) 78 240 (nI k) f = f (nI (pl k)) := fun L f => by rw [ld_nI (by omega) (by decide), mP_row (by decide) (by decide), h78 k hk]
  have p81 : ∀ L (f : Int32 → Option St), ld (mP τ L) 81 120 (nI k) f = f (if lg k then 1 else 0) := fun L f => by rw [ld_nI (by omega) (by decide), mP_row (by decide) (by decide), G k hk]
  have p0 : ∀ v, Mo_put 67 v (mP τ []) = some (mP τ [bt v]) := fun v => m_put (L := []) (by decide) v
  have p1 : ∀ a v, Mo_put 67 v (mP τ [a]) = some (mP τ [a, bt v]) := fun a v => m_put (L := [a]) (by simp) v
  have f1 : ∀ a v, Mo_putFour 67 v (mP τ [a]) = some (mP τ (a :: four v)) := fun a v => m_four (L := [a]) (by simp) v
  have f2 : ∀ a c v, Mo_putFour 67 v (mP τ [a, c]) = some (mP τ (a :: c :: four v)) := fun a c v => m_four (L := [a, c]) (by simp) v
  -- one piece, and no more
  have fin : ∀ L, ¬ s k = 7 → pcF s a b op fm r x d i pl ln jl lg k = L → ∃ τ', (cv (Mo_copyBytes 67 (nI (pl k)) (mP τ L)) fun σ3 => some σ3) = some τ' ∧ τ' 82 = wr1 s a b op fm r x d i pl ln jl lg (τ 82) k ∧ WM τ τ' := by
    intro L n7 hL
    rw [hL] at r1 r2
    rw [m_cb r1 (by omega), cv_of]
    refine ⟨_, rfl, ?_, wm_1⟩
    rw [up_row]; unfold wr1; rw [if_neg n7, hL]
  have lab : (s k = 1 ∨ s k = 2 ∨ s k = 3 ∨ s k = 8) → ∀ L (f : Int32 → Option St), (ld (mP τ L) 74 240 (nI k) fun x1 => ld (mP τ L) 79 80 x1 f) = f (nI (pl (jl k))) := by
    intro h L f
    obtain ⟨l, hl, e1, e2, e3, e4, e5⟩ := J k hk h
    have hp := h79 _ e3 e4
    rw [e5, nI_clamp (by omega)] at hp
    rw [mt_a (DP L) hk (by rcases h with e | e | e | e <;> rw [e] <;> decide) (by rcases h with e | e | e | e <;> rw [e] <;> decide), e1, ld_nI (by omega) (by decide), mP_row (by decide) (by decide), hp]
  have eln : (s k = 1 ∨ s k = 2) → nI (ln k) = if s k = 1 then (if lg k then 5 else 2) else (if lg k then 6 else 2) := by
    intro h
    rw [hln k hk]
    unfold lnF
    rcases h with e | e
    · simp only [e, if_true, show ¬ (1 : Int32) = 0 by decide, if_false]; cases lg k <;> rfl
    · simp only [e, if_true, show ¬ (2 : Int32) = 0 by decide, show ¬ (2 : Int32) = 1 by decide, if_false]; cases lg k <;> rfl
  have far : jmp s k → ∀ L, L.length ≤ 12 → Mo_putFar 67 (nI k) (mP τ L) = some (mP τ (L ++ (if lg k then four (dstF pl ln jl k) else [bt (dstF pl ln jl k)]))) := by
    intro hj L hL
    have hd : ∀ t1 : Int32, t1 = nI (ln k) → Mo_putFar_B60 67 (nI k) (nI (pl (jl k)) - nI (pl k)) t1 (mP τ L) = some (mP τ (L ++ (if lg k then four (dstF pl ln jl k) else [bt (dstF pl ln jl k)]))) := by
      intro t1 ht
      unfold Mo_putFar_B60
      rw [nm_of, cc_67_21, p81, ht, Int32.sub_sub, m_put (by omega), cv_of, m_four hL, cv_of]
      cases lg k <;> rfl
    have hh := eln hj
    unfold Mo_putFar
    rw [cc_67_14, cc_67_18, cc_67_19, cc_67_11, cc_67_21, lab (by rcases hj with y | y; exact Or.inl y; exact Or.inr (Or.inl y)), p78, mt_s (DP L) hk, p81, p81]
    by_cases y : s k = 1
    · rw [if_pos y] at hh
      rw [if_neg (not_not_intro y)]
      cases hg : lg k
      · rw [hg] at hh hd
        exact hd 2 hh.symm
      · rw [hg] at hh hd
        exact hd 5 hh.symm
    · rw [if_neg y] at hh
      rw [if_pos y]
      cases hg : lg k
      · rw [hg] at hh hd
        exact hd 2 hh.symm
      · rw [hg] at hh hd
        exact hd 6 hh.symm
  unfold Mo_write
  rw [cc_67_18, cc_67_11, cc_67_21, cc_67_14, cc_67_15, cc_67_19, l78, mt_s D hk, nm_of, mP_nil, p81, p81]
  rcases hS k hk with z | z | z | z | z | z | z | z | z | z
  · rw [if_pos z]; exact fin [] (by rw [z]; decide) (by unfold pcF; simp [z])
  · rw [if_neg (show ¬ s k = 0 by rw [z]; decide), if_pos z]
    unfold Mo_write_B106
    rw [p0, p0, cv_of, cv_of, far (Or.inl z) [bt 235] (by simp), far (Or.inl z) [bt 233] (by simp), cv_of, cv_of]
    cases hg : lg k
    · exact fin [bt 235, bt (dstF pl ln jl k)] (by rw [z]; decide) (by unfold pcF; simp [z, hg])
    · exact fin (bt 233 :: four (dstF pl ln jl k)) (by rw [z]; decide) (by unfold pcF; simp [z, hg])
  · rw [if_neg (show ¬ s k = 0 by rw [z]; decide), if_neg (show ¬ s k = 1 by rw [z]; decide), if_pos z]
    have b150 : ∀ L (t1 : Int32), L.length ≤ 2 → Mo_write_B150 67 (nI k) (nI (pl k)) 67 t1 (mP τ L) = (cv (Mo_copyBytes 67 (nI (pl k)) (mP τ ((L ++ [bt (t1 + b k)]) ++ (if lg k then four (dstF pl ln jl k) else [bt (dstF pl ln jl k)])))) fun σ4 => some σ4) := by
      intro L t1 hL
      unfold Mo_write_B150
      rw [cc_67_15, mt_b (DP L) hk (Or.inr (Or.inl z)), m_put (by omega), cv_of, far (Or.inr z) _ (by simp; omega), cv_of]
    unfold Mo_write_B132
    rw [p0, cv_of, cc_67_21, p81, p81, b150 _ _ (by simp), b150 _ _ (by simp), b150 _ _ (by simp), b150 _ _ (by simp)]
    cases hg : lg k
    · exact fin [bt (112 + b k), bt (dstF pl ln jl k)] (by rw [z]; decide) (by unfold pcF; simp [z, hg])
    · exact fin (bt 15 :: bt (128 + b k) :: four (dstF pl ln jl k)) (by rw [z]; decide) (by unfold pcF; simp [z, hg])
  · rw [if_neg (show ¬ s k = 0 by rw [z]; decide), if_neg (show ¬ s k = 1 by rw [z]; decide), if_neg (show ¬ s k = 2 by rw [z]; decide), if_pos z]
    unfold Mo_write_B168
    have e5 : ln k = 5 := by rw [hln k hk]; unfold lnF; simp [z]
    rw [p0, cv_of, if_neg (not_not_intro z), cc_67_14, cc_67_19, lab (Or.inr (Or.inr (Or.inl z))), f1, cv_of]
    refine fin _ (by rw [z]; decide) ?_
    unfold pcF dstF; rw [e5, Int32.sub_sub]; simp [z]; rfl
  · rw [if_neg (show ¬ s k = 0 by rw [z]; decide), if_neg (show ¬ s k = 1 by rw [z]; decide), if_neg (show ¬ s k = 2 by rw [z]; decide), if_neg (show ¬ s k = 3 by rw [z]; decide), if_pos z]
    unfold Mo_write_B168
    have e5 : ln k = 5 := by rw [hln k hk]; unfold lnF; simp [z]
    rw [p0, cv_of, if_pos (show ¬ s k = 3 by rw [z]; decide), cc_67_14, mt_a (DP _) hk (by rw [z]; decide) (by rw [z]; decide), f1, cv_of]
    refine fin _ (by rw [z]; decide) ?_
    unfold pcF; rw [e5, Int32.sub_sub, Int32.sub_sub]; simp [z, Int32.add_assoc]; rfl
  · rw [if_neg (show ¬ s k = 0 by rw [z]; decide), if_neg (show ¬ s k = 1 by rw [z]; decide), if_neg (show ¬ s k = 2 by rw [z]; decide), if_neg (show ¬ s k = 3 by rw [z]; decide), if_neg (show ¬ s k = 4 by rw [z]; decide), if_pos z, if_neg (not_not_intro z), mt_a (DP _) hk (by rw [z]; decide) (by rw [z]; decide), m_pair _ _ (Or.inl rfl), cv_of]
    exact fin _ (by rw [z]; decide) (by unfold pcF; simp [z])
  · rw [if_neg (show ¬ s k = 0 by rw [z]; decide), if_neg (show ¬ s k = 1 by rw [z]; decide), if_neg (show ¬ s k = 2 by rw [z]; decide), if_neg (show ¬ s k = 3 by rw [z]; decide), if_neg (show ¬ s k = 4 by rw [z]; decide), if_neg (show ¬ s k = 5 by rw [z]; decide), if_pos z, if_pos (show ¬ s k = 5 by rw [z]; decide), mt_a (DP _) hk (by rw [z]; decide) (by rw [z]; decide), m_pair _ _ (Or.inr rfl), cv_of]
    exact fin _ (by rw [z]; decide) (by unfold pcF; simp [z])
  · rw [if_neg (show ¬ s k = 0 by rw [z]; decide), if_neg (show ¬ s k = 1 by rw [z]; decide), if_neg (show ¬ s k = 2 by rw [z]; decide), if_neg (show ¬ s k = 3 by rw [z]; decide), if_neg (show ¬ s k = 4 by rw [z]; decide), if_neg (show ¬ s k = 5 by rw [z]; decide), if_neg (show ¬ s k = 6 by rw [z]; decide), if_pos z, p0, cv_of]
    have hL : pcF s a b op fm r x d i pl ln jl lg k = [bt 89] := by unfold pcF; simp [z]
    rw [hL] at r1 r2
    obtain ⟨_, r4⟩ := r3 z
    have r2' : pl k + 1 ≤ 1024 := r2
    rw [m_cb r1 (by omega), cv_of]
    have key : ∀ q, q = fit (pl k + 1) 5 → ∃ τ', Mo_write_B297 67 (nI q) (va_up (mP τ [bt 89]) 82 (wrt (τ 82) (pl k) [bt 89])) = some τ' ∧ τ' 82 = wr1 s a b op fm r x d i pl ln jl lg (τ 82) k ∧ WM τ τ' := by
      intro q hq
      unfold Mo_write_B297
      rw [nm_of, mP_nil, m_pair _ _ (Or.inl rfl), cv_of, if_pos rfl, m_cb (L := pair 1 224) (by decide) (by show q + 5 ≤ 6000; omega), cv_of]
      refine ⟨_, rfl, ?_, ?_⟩
      · rw [up_row, up_row]; unfold wr1; rw [if_pos z, hL, hq]
      · exact ⟨fun c x1 x2 x3 => by rw [up_ne x2, mP_row x1 x3, up_ne x2, mP_row x1 x3], fun j hj => by rw [up_ne (by decide), mP_f hj, up_ne (by decide), mP_f hj]⟩
    rw [rem_16 (pl k) (by omega), show (nI (pl k % 16) + 1) + 5 = nI (pl k % 16 + 6) by rw [nI_1]; exact nI_add _ 5]
    by_cases c : pl k % 16 + 6 ≤ 16
    · rw [if_pos ((lf_leR 16 16 _ rfl (by decide) (by omega)).mpr c), nI_1]
      exact key _ (by unfold fit; rw [if_neg (by omega)])
    · rw [if_neg (fun h => c ((lf_leR 16 16 _ rfl (by decide) (by omega)).mp h)), nI_sub (by omega) (by omega), nI_16]
      refine key _ ?_
      unfold fit
      by_cases c2 : 16 < (pl k + 1) % 16 + 5
      · rw [if_pos c2]; omega
      · rw [if_neg c2]; omega
  · rw [if_neg (show ¬ s k = 0 by rw [z]; decide), if_neg (show ¬ s k = 1 by rw [z]; decide), if_neg (show ¬ s k = 2 by rw [z]; decide), if_neg (show ¬ s k = 3 by rw [z]; decide), if_neg (show ¬ s k = 4 by rw [z]; decide), if_neg (show ¬ s k = 5 by rw [z]; decide), if_neg (show ¬ s k = 6 by rw [z]; decide), if_neg (show ¬ s k = 7 by rw [z]; decide), if_pos z, mt_b (DP _) hk (Or.inr (Or.inr z)), p0, cv_of, lab (Or.inr (Or.inr (Or.inr z))), f1, cv_of]
    exact fin _ (by rw [z]; decide) (by unfold pcF; simp [z])
  · rw [if_neg (show ¬ s k = 0 by rw [z]; decide), if_neg (show ¬ s k = 1 by rw [z]; decide), if_neg (show ¬ s k = 2 by rw [z]; decide), if_neg (show ¬ s k = 3 by rw [z]; decide), if_neg (show ¬ s k = 4 by rw [z]; decide), if_neg (show ¬ s k = 5 by rw [z]; decide), if_neg (show ¬ s k = 6 by rw [z]; decide), if_neg (show ¬ s k = 7 by rw [z]; decide), if_neg (show ¬ s k = 8 by rw [z]; decide), if_pos z]
    rcases (D.2.2 k hk).2 with ⟨_, q1, q2, q3, q4, q5, q6, q7⟩ | ⟨e, _⟩
    · rw [Nat.zero_add] at q2 q3 q4 q5 q6 q7
      have pr : ∀ c, c ≠ 67 → c ≠ 83 → mP τ [] c k = τ c k := fun c x1 x2 => by rw [mP_row x1 x2]
      have tw : mP (mP τ []) (enc (op k) (fm k) (r k) (x k) (d k) (i k)) = mP τ (enc (op k) (fm k) (r k) (x k) (d k) (i k)) := by
        funext c j
        by_cases h1 : c = 67
        · subst h1
          by_cases h2 : j = 25
          · subst h2; rw [mP_n, mP_n]
          · rw [mP_f h2, mP_f h2, mP_f h2]
        · by_cases h2 : c = 83
          · subst h2; rw [mP_b, mP_b, mP_b, pw_nil]
          · rw [mP_row h1 h2, mP_row h1 h2, mP_row h1 h2]
      rw [m_encode (d := d k) (by omega) q1 (by rw [pr 72 (by decide) (by decide)]; exact q2) (by rw [pr 73 (by decide) (by decide)]; exact q3) (fun y => by rw [pr 74 (by decide) (by decide), q4, if_pos y]) (fun y => by rw [pr 75 (by decide) (by decide), q5, if_pos y]) (fun y => by rw [pr 76 (by decide) (by decide), q6, if_pos y]) (fun y => by rw [pr 77 (by decide) (by decide), q7, if_pos y]), cv_of, tw]
      exact fin _ (by rw [z]; decide) (by unfold pcF; simp [z])
    · exact absurd z e
theorem m_wr172 (J : JL m s a lb jl) (hS : SrtO m s) (hln : ∀ k, k < m → ln k = lnF s el lg k) (hR : Rm m s a b op fm r x d i pl ln jl lg) (f : Nat → Int32) (n : Int32) : ∀ (e N k : Nat) (τ : St), m ≤ k + e → k ≤ m → e < N → MT0 m s a b op fm r x d i τ → LG m lg τ → (∀ j, j < m → τ 78 j = nI (pl j)) → (∀ j, j < m → s j = 0 → τ 79 (a j).toNatClampNeg = nI (pl j)) → τ 82 = wrA s a b op fm r x d i pl ln jl lg f k → ∃ τ', Mo_build_B172 N 67 n (nI k) τ = (cv (Mo_starting 67 n τ') fun σ1 => cv (Mo_becomes 67 82 n σ1) fun σ2 => cv (Mo_keepProgram 67 σ2) fun σ3 => cl (Mo_faults 67 0 (-1) σ3) fun _ σ4 => some (0, σ4)) ∧ τ' 82 = wrA s a b op fm r x d i pl ln jl lg f m ∧ WM τ τ' := by
  intro e
  induction e with
  | zero =>
    intro N k τ h1 h2 h3 D G h78 h79 h82
    obtain ⟨N, rfl⟩ : ∃ n, N = n + 1 := ⟨N - 1, by omega⟩
    have hm := D.1
    have ek : k = m := by omega
    subst ek
    rw [Mo_build_B172, D.2.1, if_pos ((nI_le' (by omega) (by omega)).mpr (by omega)), cc_67_23]
    exact ⟨τ, rfl, h82, fun _ _ _ _ => rfl, fun _ _ => rfl⟩
  | succ e ih =>
    intro N k τ h1 h2 h3 D G h78 h79 h82
    obtain ⟨N, rfl⟩ : ∃ n, N = n + 1 := ⟨N - 1, by omega⟩
    have hm := D.1
    rw [Mo_build_B172, D.2.1]
    by_cases c : k < m
    · obtain ⟨τ1, w1, w2, w3⟩ := m_write D J hS G hln h78 h79 hR c
      rw [if_neg (fun x => absurd ((nI_le' (by omega) (by omega)).mp x) (by omega)), w1, cv_of, nm_of, nI_1]
      obtain ⟨τ', z1, z2, z3⟩ := ih N (k + 1) τ1 (by omega) (by omega) (by omega) (mt_c D (fun c x1 x2 => w3.1 c (by omega) (by omega) (by omega)) (w3.2 8 (by decide))) (fun j hj => by rw [w3.1 81 (by decide) (by decide) (by decide)]; exact G j hj) (fun j hj => by rw [w3.1 78 (by decide) (by decide) (by decide)]; exact h78 j hj) (fun j hj h0 => by rw [w3.1 79 (by decide) (by decide) (by decide)]; exact h79 j hj h0) (by rw [w2, h82]; rfl)
      exact ⟨τ', z1, z2, fun c x1 x2 x3 => by rw [z3.1 c x1 x2 x3, w3.1 c x1 x2 x3], fun j hj => by rw [z3.2 j hj, w3.2 j hj]⟩
    · have ek : k = m := by omega
      subst ek
      rw [if_pos ((nI_le' (by omega) (by omega)).mpr (by omega)), cc_67_23]
      exact ⟨τ, rfl, h82, fun _ _ _ _ => rfl, fun _ _ => rfl⟩
end
