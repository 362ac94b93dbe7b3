/-! ===== jumps that get LONG ===== -/
def dstF (pl ln jl : Nat → Nat) (k : Nat) : Int32 := nI (pl (jl k)) - (nI (pl k) + nI (ln k))
abbrev jmp (s : Nat → Int32) (k : Nat) : Prop := s k = 1 ∨ s k = 2
def lgN (s : Nat → Int32) (dst : Nat → Int32) (lg : Nat → Bool) (k : Nat) : Bool := lg k || decide (jmp s k ∧ ¬ smI (dst k))
def chg (s : Nat → Int32) (dst : Nat → Int32) (lg : Nat → Bool) (k : Nat) : Prop := jmp s k ∧ lg k = false ∧ ¬ smI (dst k)
/-- what both sides say of how it ended -/
def Any (s dst : Nat → Int32) (lg : Nat → Bool) (k m : Nat) (acc v : Int32) : Prop := (v = 1 ∧ (acc = 1 ∨ ∃ j, k ≤ j ∧ j < m ∧ chg s dst lg j)) ∨ (v = 0 ∧ acc = 0 ∧ ∀ j, k ≤ j → j < m → ¬ chg s dst lg j)
theorem any_un {s dst : Nat → Int32} {lg : Nat → Bool} {k m : Nat} {v w : Int32} (h : Any s dst lg k m 0 v) (h' : Any s dst lg k m 0 w) : v = w := by
  rcases h with ⟨e, x⟩ | ⟨e, _, x⟩
  · rcases h' with ⟨e', x'⟩ | ⟨e', _, x'⟩
    · rw [e, e']
    · rcases x with x | ⟨j, y1, y2, y3⟩
      · exact absurd x (by decide)
      · exact absurd y3 (x' j y1 y2)
  · rcases h' with ⟨e', x'⟩ | ⟨e', _, x'⟩
    · rcases x' with x' | ⟨j, y1, y2, y3⟩
      · exact absurd x' (by decide)
      · exact absurd y3 (x j y1 y2)
    · rw [e, e']
theorem any_s {s dst : Nat → Int32} {lg : Nat → Bool} {k m : Nat} {acc v : Int32} (hn : ¬ chg s dst lg k) (h : Any s dst lg (k + 1) m acc v) : Any s dst lg k m acc v := by
  rcases h with ⟨e, x | ⟨j, y1, y2, y3⟩⟩ | ⟨e, e2, x⟩
  · exact Or.inl ⟨e, Or.inl x⟩
  · exact Or.inl ⟨e, Or.inr ⟨j, by omega, y2, y3⟩⟩
  · refine Or.inr ⟨e, e2, fun j y1 y2 => ?_⟩
    by_cases q : j = k
    · rw [q]; exact hn
    · exact x j (by omega) y2
theorem any_c {s dst : Nat → Int32} {lg : Nat → Bool} {k m : Nat} {acc v : Int32} (hk : k < m) (hc : chg s dst lg k) (h : Any s dst lg (k + 1) m 1 v) : Any s dst lg k m acc v := by
  rcases h with ⟨e, _⟩ | ⟨_, e2, _⟩
  · exact Or.inl ⟨e, Or.inr ⟨k, Nat.le_refl _, hk, hc⟩⟩
  · exact absurd e2 (by decide)
section
variable {m : Nat} {s a lb : Nat → Int32} {el pl jl : Nat → Nat} {lg : Nat → Bool}
theorem lnF_2 {k : Nat} (h : jmp s k) : (lg k = false → lnF s el lg k = 2) ∧ (lg k = true → lnF s el lg k = if s k = 1 then 5 else 6) := by
  unfold lnF
  rcases h with e | e
  · simp [e]
  · simp [e]
theorem lnF_c {k : Nat} {lg' : Nat → Bool} (h : ¬ jmp s k ∨ lg' k = lg k) : lnF s el lg' k = lnF s el lg k := by
  unfold lnF
  rcases h with h | h
  · rw [if_neg (show ¬ s k = 1 from fun e => h (Or.inl e)), if_neg (show ¬ s k = 2 from fun e => h (Or.inr e)), if_neg (show ¬ s k = 1 from fun e => h (Or.inl e)), if_neg (show ¬ s k = 2 from fun e => h (Or.inr e))]
  · rw [h]
/-- which ITEM a jump names -/
def JL (m : Nat) (s a lb : Nat → Int32) (jl : Nat → Nat) : Prop := ∀ k, k < m → (s k = 1 ∨ s k = 2 ∨ s k = 3 ∨ s k = 8) → ∃ l, l < 40 ∧ a k = nI l ∧ lb l = nI (jl k) ∧ jl k < m ∧ s (jl k) = 0 ∧ a (jl k) = nI l
theorem c_lplc {σ : St} (hm : m ≤ 120) (hc : σ 15 4 = nI m) (J : JL m (σ 16) (σ 17) (σ 26) jl) (hp : ∀ j, j < m → σ 19 j = nI (pl j)) {k : Nat} (hk : k < m) (h : σ 16 k = 1 ∨ σ 16 k = 2 ∨ σ 16 k = 3 ∨ σ 16 k = 8) : Builder_labelPlace 28 (nI k) σ = some (nI (pl (jl k)), σ) := by
  obtain ⟨l, hl, e1, e2, e3, _⟩ := J k hk h
  unfold Builder_labelPlace Program_itemPlace
  rw [cc_28_1, cc_15_1, ld_nI (by omega) (by decide), c_lbl, e1, if_pos ⟨nI_pos (by omega), lf_lt 40 40 l rfl hl (by decide)⟩, nI_clamp (by omega), cl_of, e2, c_has hm hc e3, cl_of, if_neg (by decide), cc_15_3, ld_nI (by omega) (by decide), hp _ e3, cl_of]
theorem c_dist {σ : St} {ln : Nat → Nat} (hm : m ≤ 120) (hc : σ 15 4 = nI m) (J : JL m (σ 16) (σ 17) (σ 26) jl) (hp : ∀ j, j < m → σ 19 j = nI (pl j)) {k : Nat} (hk : k < m) (h : σ 16 k = 1 ∨ σ 16 k = 2 ∨ σ 16 k = 3 ∨ σ 16 k = 8) (hl : σ 32 k = nI (ln k)) : Builder_distance 28 (nI k) σ = some (dstF pl ln jl k, σ) := by
  unfold Builder_distance
  rw [c_lplc hm hc J hp hk h, cl_of, cc_28_1, cc_28_5, cc_15_3, ld_nI (by omega) (by decide), ld_nI (by omega) (by decide), hp k hk, hl]
  rfl
theorem c_len4 (hm : m ≤ 120) (J : JL m s a lb jl) : ∀ (e N k : Nat) (acc : Int32) (σ : St), m ≤ k + e → k ≤ m → e < N → (acc = 0 ∨ acc = 1) → σ 15 4 = nI m → σ 16 = s → σ 17 = a → σ 26 = lb → (∀ j, j < m → σ 19 j = nI (pl j)) → (∀ j, j < m → σ 32 j = if j < k then nI (lnF s el (lgN s (dstF pl (lnF s el lg) jl) lg) j) else nI (lnF s el lg j)) → wp (Builder_lengthen_B4 N 28 acc (nI k) σ) (fun v σ' => (∀ c, c ≠ 32 → σ' c = σ c) ∧ (∀ j, j < m → σ' 32 j = nI (lnF s el (lgN s (dstF pl (lnF s el lg) jl) lg) j)) ∧ Any s (dstF pl (lnF s el lg) jl) lg k m acc v) := by
  have fin : ∀ (k : Nat) (acc : Int32) (σ : St), m ≤ k → (acc = 0 ∨ acc = 1) → (∀ j, j < m → σ 32 j = if j < k then nI (lnF s el (lgN s (dstF pl (lnF s el lg) jl) lg) j) else nI (lnF s el lg j)) → wp (zb acc <| some (acc, σ)) (fun v σ' => (∀ c, c ≠ 32 → σ' c = σ c) ∧ (∀ j, j < m → σ' 32 j = nI (lnF s el (lgN s (dstF pl (lnF s el lg) jl) lg) j)) ∧ Any s (dstF pl (lnF s el lg) jl) lg k m acc v) := by
    intro k acc σ hk ha h32
    refine ⟨acc, σ, ?_, fun _ _ => rfl, fun j hj => by rw [h32 j hj, if_pos (by omega)], ?_⟩
    · rcases ha with rfl | rfl
      · rw [zb_0]
      · rw [zb_1]
    · rcases ha with rfl | rfl
      · exact Or.inr ⟨rfl, rfl, fun j x y => by omega⟩
      · exact Or.inl ⟨rfl, Or.inl rfl⟩
  intro e
  induction e with
  | zero =>
    intro N k acc σ h1 h2 h3 ha hc e16 e17 e26 hp h32
    obtain ⟨N, rfl⟩ : ∃ n, N = n + 1 := ⟨N - 1, by omega⟩
    rw [Builder_lengthen_B4, cc_28_1, hc, if_pos ((nI_le' (by omega) (by omega)).mpr (by omega))]
    exact fin k acc σ (by omega) ha h32
  | succ e ih =>
    intro N k acc σ h1 h2 h3 ha hc e16 e17 e26 hp h32
    obtain ⟨N, rfl⟩ : ∃ n, N = n + 1 := ⟨N - 1, by omega⟩
    rw [Builder_lengthen_B4, cc_28_1, hc]
    by_cases c : k < m
    · have lk : σ 32 k = nI (lnF s el lg k) := by rw [h32 k c, if_neg (by omega)]
      rw [if_neg (fun x => absurd ((nI_le' (by omega) (by omega)).mp x) (by omega)), if_neg (lf_nle 120 120 k rfl (by omega) (by decide)), cc_15_0, ld_nI (by omega) (by decide), ld_nI (by omega) (by decide), e16]
      -- nothing changes here
      have same : lnF s el (lgN s (dstF pl (lnF s el lg) jl) lg) k = lnF s el lg k → ¬ chg s (dstF pl (lnF s el lg) jl) lg k → wp (Builder_lengthen_B4 N 28 acc (nI (k + 1)) σ) (fun v σ' => (∀ c, c ≠ 32 → σ' c = σ c) ∧ (∀ j, j < m → σ' 32 j = nI (lnF s el (lgN s (dstF pl (lnF s el lg) jl) lg) j)) ∧ Any s (dstF pl (lnF s el lg) jl) lg k m acc v) := by
        intro hl hn
        obtain ⟨v, σ', e1, e2, e3, e4⟩ := ih N (k + 1) acc σ (by omega) (by omega) (by omega) ha hc e16 e17 e26 hp (fun j hj => by
          rw [h32 j hj]
          by_cases q : j = k
          · subst q; rw [if_neg (by omega), if_pos (by omega), hl]
          · by_cases q2 : j < k
            · rw [if_pos q2, if_pos (by omega)]
            · rw [if_neg q2, if_neg (by omega)])
        exact ⟨v, σ', e1, e2, e3, any_s hn e4⟩
      have b52 : ∀ t : Int32, (t = 0 ∧ ¬ jmp s k) ∨ (t = 1 ∧ jmp s k) → wp (Builder_lengthen_B52 (Builder_lengthen_B4 N) 28 acc (nI k) t σ) (fun v σ' => (∀ c, c ≠ 32 → σ' c = σ c) ∧ (∀ j, j < m → σ' 32 j = nI (lnF s el (lgN s (dstF pl (lnF s el lg) jl) lg) j)) ∧ Any s (dstF pl (lnF s el lg) jl) lg k m acc v) := by
        intro t ht
        unfold Builder_lengthen_B52
        rw [cc_28_1, cc_28_5, cc_15_0, nm_of, nI_1]
        rcases ht with ⟨rfl, hj⟩ | ⟨rfl, hj⟩
        · rw [if_pos rfl]
          exact same (lnF_c (Or.inl hj)) (fun y => hj y.1)
        · rw [if_neg (by decide), ld_nI (by omega) (by decide), lk]
          by_cases q : lg k = true
          · have e2 := (lnF_2 (el := el) hj).2 q
            have n2 : ¬ nI (lnF s el lg k) = 2 := by
              rw [e2]; split <;> decide
            rw [if_pos n2]
            refine same (lnF_c (Or.inr ?_)) (fun y => by have y2 := y.2.1; rw [q] at y2; exact absurd y2 (by decide))
            unfold lgN; rw [q]; rfl
          · have q' : lg k = false := by cases h : lg k; rfl; exact absurd h q
            have e2 := (lnF_2 (el := el) hj).1 q'
            rw [if_neg (not_not_intro (by rw [e2]; rfl)), c_dist (pl := pl) (ln := lnF s el lg) (jl := jl) hm hc (by rw [e16, e17, e26]; exact J) hp c (by rw [e16]; rcases hj with y | y; exact Or.inl y; exact Or.inr (Or.inl y)) lk, cl_of, cs_eq, cl_of]
            by_cases hs : smI (dstF pl (lnF s el lg) jl k)
            · rw [if_pos hs, if_pos (by decide)]
              refine same (lnF_c (Or.inr ?_)) (fun y => y.2.2 hs)
              unfold lgN
              rw [q', decide_eq_false (fun y => y.2 hs)]; rfl
            · have hc' : chg s (dstF pl (lnF s el lg) jl) lg k := ⟨hj, q', hs⟩
              have lt : lgN s (dstF pl (lnF s el lg) jl) lg k = true := by unfold lgN; rw [decide_eq_true ⟨hj, hs⟩]; simp
              have el5 := (lnF_2 (s := s) (el := el) (lg := lgN s (dstF pl (lnF s el lg) jl) lg) hj).2 lt
              have go : ∀ (v : Nat), v = lnF s el (lgN s (dstF pl (lnF s el lg) jl) lg) k → wp (Builder_lengthen_B4 N 28 1 (nI (k + 1)) (s2 σ 32 k (nI v))) (fun v σ' => (∀ c, c ≠ 32 → σ' c = σ c) ∧ (∀ j, j < m → σ' 32 j = nI (lnF s el (lgN s (dstF pl (lnF s el lg) jl) lg) j)) ∧ Any s (dstF pl (lnF s el lg) jl) lg k m acc v) := by
                intro v hv
                obtain ⟨w, σ', e1, e2, e3, e4⟩ := ih N (k + 1) 1 (s2 σ 32 k (nI v)) (by omega) (by omega) (by omega) (Or.inr rfl) (by rw [s2_ne (by decide)]; exact hc) (by rw [s2_ne (by decide)]; exact e16) (by rw [s2_ne (by decide)]; exact e17) (by rw [s2_ne (by decide)]; exact e26) (fun j hj => by rw [s2_ne (by decide)]; exact hp j hj) (fun j hj => by
                  rw [s2_row, upd_at]
                  by_cases q : j = k
                  · rw [if_pos q, if_pos (by omega), hv, q]
                  · rw [if_neg q, h32 j hj]
                    by_cases q2 : j < k
                    · rw [if_pos q2, if_pos (by omega)]
                    · rw [if_neg q2, if_neg (by omega)])
                exact ⟨w, σ', e1, fun c hc => by rw [e2 c hc, s2_ne hc], e3, any_c c hc' e4⟩
              rw [if_neg hs, if_neg (by decide), ld_nI (by omega) (by decide), e16, sa_nI (by omega) (by decide), sa_nI (by omega) (by decide), nm_of, nm_of]
              by_cases y : s k = 1
              · rw [if_neg (not_not_intro y)]
                exact go 5 (by rw [el5, if_pos y])
              · rw [if_pos y]
                exact go 6 (by rw [el5, if_neg y])
      by_cases y1 : s k = 1
      · rw [if_pos y1]; exact b52 1 (Or.inr ⟨rfl, Or.inl y1⟩)
      · rw [if_neg y1]
        by_cases y2 : s k = 2
        · rw [if_neg (not_not_intro y2)]; exact b52 1 (Or.inr ⟨rfl, Or.inr y2⟩)
        · rw [if_pos y2]; exact b52 0 (Or.inl ⟨rfl, fun z => by rcases z with z | z; exact y1 z; exact y2 z⟩)
    · rw [if_pos ((nI_le' (by omega) (by omega)).mpr (by omega))]
      exact fin k acc σ (by omega) ha h32
end
