/-! ===== the pieces, written ===== -/
def wrk (f : Nat → Int32) (p : Nat) (g : Nat → Int32) (k : Nat) : Nat → Int32 := fun j => if p ≤ j ∧ j < p + k then g (j - p) else f j
def wrt (f : Nat → Int32) (p : Nat) (L : List Int32) : Nat → Int32 := wrk f p (fun j => L.getD j 0) L.length
theorem wrk_0 (f : Nat → Int32) (p : Nat) (g : Nat → Int32) : wrk f p g 0 = f := by funext j; unfold wrk; rw [if_neg (by omega)]
theorem wrk_s (f : Nat → Int32) (p : Nat) (g : Nat → Int32) (k : Nat) : upd (wrk f p g k) (p + k) (g k) = wrk f p g (k + 1) := by
  funext j
  rw [upd_at]; unfold wrk
  by_cases h : j = p + k
  · rw [if_pos h, if_pos (by omega), h, show p + k - p = k by omega]
  · rw [if_neg h]
    by_cases h2 : p ≤ j ∧ j < p + k
    · rw [if_pos h2, if_pos (by omega)]
    · rw [if_neg h2, if_neg (by omega)]
theorem wrk_g {f : Nat → Int32} {p : Nat} {g g' : Nat → Int32} {k : Nat} (h : ∀ j, j < k → g j = g' j) : wrk f p g k = wrk f p g' k := by
  funext j; unfold wrk
  by_cases h2 : p ≤ j ∧ j < p + k
  · rw [if_pos h2, if_pos h2, h _ (by omega)]
  · rw [if_neg h2, if_neg h2]
def pair (r c : Int32) : List Int32 := [bt 131, bt (224 + r), bt (-16), bt 255, bt (c + r)]
/-- an ITEM'S first piece -/
def pcF (s a b op fm r x d i : Nat → Int32) (pl ln jl : Nat → Nat) (lg : Nat → Bool) (k : Nat) : List Int32 :=
  if s k = 0 then [] else if s k = 1 then (if lg k then bt 233 :: four (dstF pl ln jl k) else [bt 235, bt (dstF pl ln jl k)])
  else if s k = 2 then (if lg k then bt 15 :: bt (128 + b k) :: four (dstF pl ln jl k) else [bt (112 + b k), bt (dstF pl ln jl k)])
  else if s k = 3 then bt 232 :: four (dstF pl ln jl k)
  else if s k = 4 then bt 232 :: four (16 * a k - ((256 + nI (pl k)) + nI (ln k)))
  else if s k = 5 then pair (a k) 224 else if s k = 6 then pair (a k) 208 else if s k = 7 then [bt (88 + 1)]
  else if s k = 8 then bt (184 + b k) :: four (256 + nI (pl (jl k)))
  else enc (op k) (fm k) (r k) (x k) (d k) (i k)
/-- all that ITEM k writes -/
def wr1 (s a b op fm r x d i : Nat → Int32) (pl ln jl : Nat → Nat) (lg : Nat → Bool) (f : Nat → Int32) (k : Nat) : Nat → Int32 :=
  if s k = 7 then wrt (wrt f (pl k) (pcF s a b op fm r x d i pl ln jl lg k)) (fit (pl k + 1) 5) (pair 1 224) else wrt f (pl k) (pcF s a b op fm r x d i pl ln jl lg k)
def wrA (s a b op fm r x d i : Nat → Int32) (pl ln jl : Nat → Nat) (lg : Nat → Bool) (f : Nat → Int32) : Nat → Nat → Int32
  | 0 => f
  | k + 1 => wr1 s a b op fm r x d i pl ln jl lg (wrA s a b op fm r x d i pl ln jl lg f k) k
section
variable {σ : St} {L : List Int32}
/-- what a piece is, in the class -/
def isPc (L : List Int32) (σ : St) : Prop := σ 29 1 = nI L.length ∧ ∀ j, j < L.length → σ 30 j = L.getD j 0
theorem pc_cP : isPc L (cP σ L) := ⟨cP_n, fun j hj => by rw [cP_b]; unfold pw; rw [if_pos hj]⟩
theorem c_pp {p : Nat} (hl : L.length ≤ 16) (hp : p + L.length ≤ 1100) (h : isPc L σ) : Strip_putPiece 7 (nI p) 29 σ = some (va_up σ 8 (wrt (σ 8) p L)) := by
  have lp : ∀ (e N k : Nat) (σ' : St), L.length ≤ k + e → k ≤ L.length → e < N → (∀ c, c ≠ 8 → σ' c = σ c) → σ' 8 = wrk (σ 8) p (fun j => L.getD j 0) k → Strip_putPiece_B2 N 7 (nI p) 29 (nI k) σ' = some (va_up σ 8 (wrt (σ 8) p L)) := by
    have fin : ∀ σ' : St, (∀ c, c ≠ 8 → σ' c = σ c) → σ' 8 = wrk (σ 8) p (fun j => L.getD j 0) L.length → σ' = va_up σ 8 (wrt (σ 8) p L) := by
      intro σ' h1 h2
      funext c j
      by_cases e : c = 8
      · subst e; rw [up_row, h2]; rfl
      · rw [up_ne e, h1 c e]
    intro e
    induction e with
    | zero =>
      intro N k σ' h1 h2 h3 g1 g2
      obtain ⟨N, rfl⟩ : ∃ n, N = n + 1 := ⟨N - 1, by omega⟩
      have ek : k = L.length := by omega
      subst ek
      rw [Strip_putPiece_B2, g1 29 (by decide), h.1, if_pos ((nI_le' (by omega) (by omega)).mpr (Nat.le_refl _)), fin σ' g1 g2]
    | succ e ih =>
      intro N k σ' h1 h2 h3 g1 g2
      obtain ⟨N, rfl⟩ : ∃ n, N = n + 1 := ⟨N - 1, by omega⟩
      rw [Strip_putPiece_B2, g1 29 (by decide), h.1]
      by_cases c : k < L.length
      · rw [if_neg (fun x => absurd ((nI_le' (by omega) (by omega)).mp x) (by omega)), nI_add, if_neg (nI_pos (by omega)), if_neg (lf_nle 1100 1100 (p + k) rfl (by omega) (by decide)), cc_29_0, ld_nI (by omega) (by decide), cc_7_0, sa_nI (by omega) (by decide), nm_of, nI_1, g1 30 (by decide), h.2 k c]
        refine ih N (k + 1) _ (by omega) (by omega) (by omega) (fun c hc => by rw [s2_ne hc]; exact g1 c hc) ?_
        rw [s2_row, g2, ← wrk_s]
      · have ek : k = L.length := by omega
        subst ek
        rw [if_pos ((nI_le' (by omega) (by omega)).mpr (Nat.le_refl _)), fin σ' g1 g2]
  exact lp L.length FU 0 σ (by omega) (by omega) (FU_big (by omega)) (fun _ _ => rfl) (by rw [wrk_0])
/-- the reference copies its BYTES -/
theorem m_cb {τ : St} {p : Nat} (hl : L.length ≤ 16) (hp : p + L.length ≤ 6000) : Mo_copyBytes 67 (nI p) (mP τ L) = some (va_up (mP τ L) 82 (wrt (τ 82) p L)) := by
  have lp : ∀ (e N k : Nat) (τ' : St), L.length ≤ k + e → k ≤ L.length → e < N → (∀ c, c ≠ 82 → τ' c = mP τ L c) → τ' 82 = wrk (τ 82) p (fun j => L.getD j 0) k → Mo_copyBytes_B2 N 67 (nI p) (nI k) τ' = some (va_up (mP τ L) 82 (wrt (τ 82) p L)) := by
    have fin : ∀ τ' : St, (∀ c, c ≠ 82 → τ' c = mP τ L c) → τ' 82 = wrk (τ 82) p (fun j => L.getD j 0) L.length → τ' = va_up (mP τ L) 82 (wrt (τ 82) p L) := by
      intro τ' h1 h2
      funext c j
      by_cases e : c = 82
      · subst e; rw [up_row, h2]; rfl
      · rw [up_ne e, h1 c e]
    intro e
    induction e with
    | zero =>
      intro N k τ' h1 h2 h3 g1 g2
      obtain ⟨N, rfl⟩ : ∃ n, N = n + 1 := ⟨N - 1, by omega⟩
      have ek : k = L.length := by omega
      subst ek
      rw [Mo_copyBytes_B2, g1 67 (by decide), mP_n, if_pos ((nI_le' (by omega) (by omega)).mpr (Nat.le_refl _)), fin τ' g1 g2]
    | succ e ih =>
      intro N k τ' h1 h2 h3 g1 g2
      obtain ⟨N, rfl⟩ : ∃ n, N = n + 1 := ⟨N - 1, by omega⟩
      rw [Mo_copyBytes_B2, g1 67 (by decide), mP_n]
      by_cases c : k < L.length
      · rw [if_neg (fun x => absurd ((nI_le' (by omega) (by omega)).mp x) (by omega)), nI_add, cc_67_24, cc_67_23, ld_nI (by omega) (by decide), sa_nI (by omega) (by decide), nm_of, nI_1, g1 83 (by decide), mP_b]
        refine ih N (k + 1) _ (by omega) (by omega) (by omega) (fun c hc => by rw [s2_ne hc]; exact g1 c hc) ?_
        rw [s2_row, g2, ← wrk_s]
        unfold pw
        rw [if_pos c]
      · have ek : k = L.length := by omega
        subst ek
        rw [if_pos ((nI_le' (by omega) (by omega)).mpr (Nat.le_refl _)), fin τ' g1 g2]
  exact lp L.length FU 0 _ (by omega) (by omega) (FU_big (by omega)) (fun _ _ => rfl) (by rw [wrk_0, mP_row (by decide) (by decide)])
theorem c_pair (r c : Int32) (hc : (c = 0 ∨ c = 1)) : Piece_becomePair 29 r c σ = some (cP σ (pair r (if c = 0 then 224 else 208))) := by
  unfold Piece_becomePair pair
  rw [nm_of, cP_nil, c_put0, cv_of, c_put1, cv_of, c_put (by simp), cv_of, c_put (by simp), cv_of, c_put (by simp), cv_of, c_put (by simp), cv_of]
  rcases hc with rfl | rfl
  · rw [if_pos rfl, if_pos rfl]; rfl
  · rw [if_neg (by decide), if_neg (by decide)]; rfl
theorem c_w4 (l v : Int32) : Piece_becomeWithFour 29 l v σ = some (cP σ (bt l :: four v)) := by
  unfold Piece_becomeWithFour
  rw [nm_of, cP_nil, c_put0, cv_of, c_four (by simp), cv_of]; rfl
theorem c_sh (l v : Int32) : Piece_becomeShort 29 l v σ = some (cP σ [bt l, bt v]) := by
  unfold Piece_becomeShort
  rw [nm_of, cP_nil, c_put0, cv_of, c_put1, cv_of]
theorem c_lb (c v : Int32) : Piece_becomeLongBranch 29 c v σ = some (cP σ (bt 15 :: bt (128 + c) :: four v)) := by
  unfold Piece_becomeLongBranch
  rw [nm_of, cP_nil, c_put0, cv_of, c_put1, cv_of, c_four (by simp), cv_of]; rfl
theorem m_pair {τ : St} (r o : Int32) (ho : o = 27 ∨ o = 28) : Mo_putPair 67 o r (mP τ []) = some (mP τ (pair r (if o = 27 then 224 else 208))) := by
  unfold Mo_putPair pair
  rw [m_put (by simp), cv_of, m_put (by simp), cv_of, m_put (by simp), cv_of, m_put (by simp), cv_of, m_putR (by simp), cv_of, m_putR (by simp), cv_of]
  rcases ho with rfl | rfl
  · rw [if_neg (by decide), if_pos rfl]; rfl
  · rw [if_pos (by decide), if_neg (by decide)]; rfl
end
