section
variable {m : Nat} {s a b : Nat → Int32} {σ : St}
theorem c_lbl (v : Int32) : Program_labelItem 15 v σ = some (if isLb v then σ 26 v.toNatClampNeg else -1, σ) := by
  unfold Program_labelItem
  rw [hl_eq, cl_of]
  by_cases c : isLb v
  · obtain ⟨l, hl, rfl⟩ := to_nI (m := 40) c.1 40 rfl (by decide) c.2
    rw [if_pos c, if_neg (by decide), cc_15_12, ld_nI hl (by decide), if_pos c, nI_clamp (by omega)]
  · rw [if_neg c, if_pos rfl, if_neg c]
theorem c_fltO (hm : m ≤ 120) (hc : σ 15 4 = nI m) (hK : ∀ k, k < m → ¬ σ 16 k = 9 → FOK (σ 16 k) (σ 17 k) (σ 18 k)) (hF : ∀ l, l < 40 → FLr 0 m (σ 16) (σ 17) l (σ 26 l)) {k : Nat} (hk : k < m) : Builder_faultOf 28 (nI k) σ = some (flt (σ 16) (σ 17) (σ 18) (σ 26) k, σ) := by
  unfold Builder_faultOf
  rw [cc_28_1, cc_15_0, cc_15_1, c_has hm hc hk, cl_of, if_pos (by decide), ld_nI (by omega) (by decide), c_lbl, cl_of, ld_nI (by omega) (by decide)]
  have lab : (σ 16 k = 0 ∨ σ 16 k = 1 ∨ σ 16 k = 2 ∨ σ 16 k = 3 ∨ σ 16 k = 8) → ∃ l, l < 40 ∧ σ 17 k = nI l ∧ (if isLb (σ 17 k) then σ 26 (σ 17 k).toNatClampNeg else -1) = σ 26 l ∧ (σ 17 k).toNatClampNeg = l := by
    intro h
    have n9 : ¬ σ 16 k = 9 := by rcases h with e | e | e | e | e <;> rw [e] <;> decide
    obtain ⟨l, hl, e⟩ := fok_l (hK k hk n9) h
    refine ⟨l, hl, e, ?_, by rw [e, nI_clamp (by omega)]⟩
    rw [e, if_pos ⟨nI_pos (by omega), lf_lt 40 40 l rfl hl (by decide)⟩, nI_clamp (by omega)]
  unfold flt
  by_cases z0 : σ 16 k = 0
  · obtain ⟨l, hl, e1, e2, e3⟩ := lab (Or.inl z0)
    rw [if_pos z0, if_pos z0, e2, e3]
    by_cases y : σ 26 l = nI k
    · rw [if_neg (not_not_intro y), if_pos y]
    · rw [if_pos y, if_neg y]
  · rw [if_neg z0, if_neg z0]
    by_cases z3 : σ 16 k = 1 ∨ σ 16 k = 2 ∨ σ 16 k = 3
    · obtain ⟨l, hl, e1, e2, e3⟩ := lab (by rcases z3 with e | e | e; exact Or.inr (Or.inl e); exact Or.inr (Or.inr (Or.inl e)); exact Or.inr (Or.inr (Or.inr (Or.inl e))))
      rw [if_pos z3, e2, e3]
      have ee : (if ¬ σ 26 l = -1 then some ((0 : Int32), σ) else some (2, σ)) = some (if σ 26 l = -1 then 2 else 0, σ) := by
        by_cases y : σ 26 l = -1
        · rw [if_neg (not_not_intro y), if_pos y]
        · rw [if_pos y, if_neg y]
      rw [ee]
      rcases z3 with e | e | e
      · rw [if_pos e]
      · rw [if_neg (by rw [e]; decide), if_pos e]
      · rw [if_neg (by rw [e]; decide), if_neg (by rw [e]; decide), if_pos e]
    · have n1 : ¬ σ 16 k = 1 := fun e => z3 (Or.inl e)
      have n2 : ¬ σ 16 k = 2 := fun e => z3 (Or.inr (Or.inl e))
      have n3 : ¬ σ 16 k = 3 := fun e => z3 (Or.inr (Or.inr e))
      rw [if_neg z3, if_neg n1, if_neg n2, if_neg n3]
      by_cases z8 : σ 16 k = 8
      · obtain ⟨l, hl, e1, e2, e3⟩ := lab (Or.inr (Or.inr (Or.inr (Or.inr z8))))
        rw [if_neg (by rw [z8]; decide), if_neg (by rw [z8]; decide), if_neg (by rw [z8]; decide), if_neg (by rw [z8]; decide), if_pos z8, if_pos z8, e2, e3]
        rcases hF l hl with ⟨y, _⟩ | ⟨j, _, hj, y, y2, y3, _⟩
        · rw [if_neg (not_not_intro y), if_pos y]
        · have ny : ¬ σ 26 l = -1 := fun z => by rw [y] at z; exact nI_pos (n := j) (by omega) (by rw [z]; decide)
          rw [if_pos ny, if_neg ny, y, c_mkd hm hc hj, cl_of, nI_clamp (by omega)]
          by_cases w : σ 18 j = 1
          · rw [if_pos (show σ 16 j = 0 ∧ σ 18 j = 1 from ⟨y2, w⟩), if_neg (show ¬ (1 : Int32) = 0 by decide), if_pos w]
          · rw [if_neg (show ¬ (σ 16 j = 0 ∧ σ 18 j = 1) from fun z => w z.2), if_pos rfl, if_neg w]
      · rw [if_neg z8, if_neg z8]
        repeat' split
        all_goals rfl
theorem c_ff9 (hm : m ≤ 120) : ∀ (e N k : Nat) (σ : St), m ≤ k + e → k ≤ m → e < N → σ 15 4 = nI m → (∀ k, k < m → ¬ σ 16 k = 9 → FOK (σ 16 k) (σ 17 k) (σ 18 k)) → (∀ l, l < 40 → FLr 0 m (σ 16) (σ 17) l (σ 26 l)) → (∀ j, j < k → flt (σ 16) (σ 17) (σ 18) (σ 26) j = 0) →
    (∃ j, j < m ∧ (∀ j', j' < j → flt (σ 16) (σ 17) (σ 18) (σ 26) j' = 0) ∧ ¬ flt (σ 16) (σ 17) (σ 18) (σ 26) j = 0 ∧ Builder_findFault_B9 N 28 (nI k) σ = some (flt (σ 16) (σ 17) (σ 18) (σ 26) j, s2 σ 28 0 (nI j))) ∨ ((∀ j, j < m → flt (σ 16) (σ 17) (σ 18) (σ 26) j = 0) ∧ Builder_findFault_B9 N 28 (nI k) σ = cv (Builder_measure 28 (s2 σ 28 0 (-1))) fun σ2 => Builder_findFault_B56 FU 28 0 0 σ2) := by
  intro e
  induction e with
  | zero =>
    intro N k σ h1 h2 h3 hc hK hF h
    obtain ⟨N, rfl⟩ : ∃ n, N = n + 1 := ⟨N - 1, by omega⟩
    rw [Builder_findFault_B9, cc_28_1, hc, if_pos ((nI_le' (by omega) (by omega)).mpr (by omega)), nm_of]
    exact Or.inr ⟨fun j hj => h j (by omega), rfl⟩
  | succ e ih =>
    intro N k σ h1 h2 h3 hc hK hF h
    obtain ⟨N, rfl⟩ : ∃ n, N = n + 1 := ⟨N - 1, by omega⟩
    rw [Builder_findFault_B9, cc_28_1, hc]
    by_cases c : k < m
    · rw [if_neg (fun x => absurd ((nI_le' (by omega) (by omega)).mp x) (by omega)), c_fltO hm hc hK hF c, cl_of]
      by_cases z : flt (σ 16) (σ 17) (σ 18) (σ 26) k = 0
      · rw [if_pos z, nm_of, nI_1]
        exact ih N (k + 1) σ (by omega) (by omega) (by omega) hc hK hF (fun j hj => by
          by_cases e : j = k
          · rw [e]; exact z
          · exact h j (by omega))
      · rw [if_neg z, nm_of]
        exact Or.inl ⟨k, c, h, z, rfl⟩
    · rw [if_pos ((nI_le' (by omega) (by omega)).mpr (by omega)), nm_of]
      exact Or.inr ⟨fun j hj => h j (by omega), rfl⟩
/-- an ITEM, loaded -/
def ldI (σ : St) (k : Nat) : St := s2 (s2 (s2 (s2 (s2 (s2 σ 31 0 (σ 20 k)) 31 1 (σ 21 k)) 31 2 (σ 22 k)) 31 3 (σ 23 k)) 31 4 (σ 24 k)) 31 5 (σ 25 k)
theorem ldI_row {k c : Nat} (h : c ≠ 31) : ldI σ k c = σ c := by unfold ldI; rw [s2_ne h, s2_ne h, s2_ne h, s2_ne h, s2_ne h, s2_ne h]
theorem c_loadD (hm : m ≤ 120) (hc : σ 15 4 = nI m) {k : Nat} (hk : k < m) : Program_loadItem 15 (nI k) 31 σ = some (ldI σ k) := by
  unfold Program_loadItem
  rw [c_has hm hc hk, cl_of, if_neg (by decide), cc_15_6, cc_15_7, cc_15_8, cc_15_9, cc_15_10, cc_15_11, ld_nI (by omega) (by decide), ld_nI (by omega) (by decide), ld_nI (by omega) (by decide), ld_nI (by omega) (by decide), ld_nI (by omega) (by decide), ld_nI (by omega) (by decide)]
  rfl
theorem ldI_i {k : Nat} : Inst (ldI σ k) 31 (σ 20 k) (σ 21 k) (σ 22 k) (σ 23 k) (σ 24 k) (σ 25 k) := by
  unfold Inst ldI
  simp only [s2_ne, s2_at, up_ne, up_at, ne_eq, not_false_eq_true, not_true_eq_false, if_true, if_false, Nat.reduceEqDiff, Nat.reduceLT, true_or, or_true, reduceIte]
  exact ⟨trivial, trivial, trivial, trivial, trivial, trivial⟩
theorem c_encD (hm : m ≤ 120) (hc : σ 15 4 = nI m) {k : Nat} (hk : k < m) : (cv (Program_loadItem 15 (nI k) 31 σ) fun σ1 => Piece_become 29 31 σ1) = some (cP (ldI σ k) (enc (σ 20 k) (σ 21 k) (σ 22 k) (σ 23 k) (σ 24 k) (σ 25 k))) := by
  rw [c_loadD hm hc hk, cv_of, c_become ldI_i]
/-- how long all is -/
theorem c_meas {el : Nat → Nat} {s op fm r x d i : Nat → Int32} (hm : m ≤ 120) (E : ELn m s op fm r x d i el) (hs : ∀ k, k < m → s k = 0 ∨ s k = 1 ∨ s k = 2 ∨ s k = 3 ∨ s k = 4 ∨ s k = 5 ∨ s k = 6 ∨ s k = 7 ∨ s k = 8 ∨ s k = 9) : ∀ (e N k : Nat) (σ : St), m ≤ k + e → k ≤ m → e < N → σ 15 4 = nI m → σ 16 = s → σ 20 = op → σ 21 = fm → σ 22 = r → σ 23 = x → σ 24 = d → σ 25 = i → wv (Builder_measure_B2 N 28 (nI k) σ) (fun σ' => (∀ c, c ≠ 29 → c ≠ 30 → c ≠ 31 → c ≠ 32 → σ' c = σ c) ∧ ∀ j, σ' 32 j = if k ≤ j ∧ j < m then nI (lnF s el (fun _ => false) j) else σ 32 j) := by
  intro e
  induction e with
  | zero =>
    intro N k σ h1 h2 h3 hc e16 _ _ _ _ _ _
    obtain ⟨N, rfl⟩ : ∃ n, N = n + 1 := ⟨N - 1, by omega⟩
    rw [Builder_measure_B2, cc_28_1, hc, if_pos ((nI_le' (by omega) (by omega)).mpr (by omega))]
    exact wv_some.mpr ⟨fun _ _ _ _ _ => rfl, fun j => by rw [if_neg (by omega)]⟩
  | succ e ih =>
    intro N k σ h1 h2 h3 hc e16 e20 e21 e22 e23 e24 e25
    obtain ⟨N, rfl⟩ : ∃ n, N = n + 1 := ⟨N - 1, by omega⟩
    rw [Builder_measure_B2, cc_28_1, hc]
    by_cases c : k < m
    · rw [if_neg (fun x => absurd ((nI_le' (by omega) (by omega)).mp x) (by omega)), if_neg (lf_nle 120 120 k rfl (by omega) (by decide)), cc_15_0, cc_28_5, ld_nI (by omega) (by decide), e16]
      have nxt : ∀ (σ1 : St) (v : Nat), (∀ c, c ≠ 29 → c ≠ 30 → c ≠ 31 → σ1 c = σ c) → v = lnF s el (fun _ => false) k → wv (Builder_measure_B2 N 28 (nI (k + 1)) (s2 σ1 32 k (nI v))) (fun σ' => (∀ c, c ≠ 29 → c ≠ 30 → c ≠ 31 → c ≠ 32 → σ' c = σ c) ∧ ∀ j, σ' 32 j = if k ≤ j ∧ j < m then nI (lnF s el (fun _ => false) j) else σ 32 j) := by
        intro σ1 v hσ hv
        have g : ∀ c, c ≠ 29 → c ≠ 30 → c ≠ 31 → c ≠ 32 → s2 σ1 32 k (nI v) c = σ c := fun c x1 x2 x3 x4 => by rw [s2_ne x4, hσ c x1 x2 x3]
        refine wv_mono (ih N (k + 1) _ (by omega) (by omega) (by omega) (by rw [g 15 (by decide) (by decide) (by decide) (by decide)]; exact hc) (by rw [g 16 (by decide) (by decide) (by decide) (by decide)]; exact e16) (by rw [g 20 (by decide) (by decide) (by decide) (by decide)]; exact e20) (by rw [g 21 (by decide) (by decide) (by decide) (by decide)]; exact e21) (by rw [g 22 (by decide) (by decide) (by decide) (by decide)]; exact e22) (by rw [g 23 (by decide) (by decide) (by decide) (by decide)]; exact e23) (by rw [g 24 (by decide) (by decide) (by decide) (by decide)]; exact e24) (by rw [g 25 (by decide) (by decide) (by decide) (by decide)]; exact e25)) fun σ' hh => ⟨fun c x1 x2 x3 x4 => by rw [hh.1 c x1 x2 x3 x4, g c x1 x2 x3 x4], fun j => ?_⟩
        rw [hh.2 j]
        by_cases q1 : k + 1 ≤ j ∧ j < m
        · rw [if_pos q1, if_pos (by omega)]
        · rw [if_neg q1, s2_row, upd_at]
          by_cases q2 : j = k
          · rw [if_pos q2, if_pos (by omega), q2, hv]
          · rw [if_neg q2, if_neg (by omega), hσ 32 (by decide) (by decide) (by decide)]
      have sim : ∀ (v : Nat) (w : Int32), nI v = w → v = lnF s el (fun _ => false) k → wv (sa σ 32 120 (nI k) w fun σ2 => nm (nI k + 1) fun x3 => Builder_measure_B2 N 28 x3 σ2) (fun σ' => (∀ c, c ≠ 29 → c ≠ 30 → c ≠ 31 → c ≠ 32 → σ' c = σ c) ∧ ∀ j, σ' 32 j = if k ≤ j ∧ j < m then nI (lnF s el (fun _ => false) j) else σ 32 j) := by
        intro v w hw hv
        rw [sa_nI (by omega) (by decide), nm_of, nI_1, ← hw]
        exact nxt σ v (fun _ _ _ _ => rfl) hv
      rcases hs k c with z | z | z | z | z | z | z | z | z | z
      · rw [if_pos z]; exact sim 0 0 rfl (by unfold lnF; rw [if_pos z])
      · rw [if_neg (by rw [z]; decide), if_pos z]; exact sim 2 2 rfl (by unfold lnF; simp [z])
      · rw [if_neg (by rw [z]; decide), if_neg (by rw [z]; decide), if_pos z]; exact sim 2 2 rfl (by unfold lnF; simp [z])
      · rw [if_neg (by rw [z]; decide), if_neg (by rw [z]; decide), if_neg (by rw [z]; decide), if_pos z]; exact sim 5 5 rfl (by unfold lnF; simp [z])
      · rw [if_neg (by rw [z]; decide), if_neg (by rw [z]; decide), if_neg (by rw [z]; decide), if_neg (by rw [z]; decide), if_pos z]; exact sim 5 5 rfl (by unfold lnF; simp [z])
      · rw [if_neg (by rw [z]; decide), if_neg (by rw [z]; decide), if_neg (by rw [z]; decide), if_neg (by rw [z]; decide), if_neg (by rw [z]; decide), if_pos z]; exact sim 5 5 rfl (by unfold lnF; simp [z])
      · rw [if_neg (by rw [z]; decide), if_neg (by rw [z]; decide), if_neg (by rw [z]; decide), if_neg (by rw [z]; decide), if_neg (by rw [z]; decide), if_neg (by rw [z]; decide), if_pos z]; exact sim 5 5 rfl (by unfold lnF; simp [z])
      · rw [if_neg (by rw [z]; decide), if_neg (by rw [z]; decide), if_neg (by rw [z]; decide), if_neg (by rw [z]; decide), if_neg (by rw [z]; decide), if_neg (by rw [z]; decide), if_neg (by rw [z]; decide), if_pos z]; exact sim 1 1 rfl (by unfold lnF; simp [z])
      · rw [if_neg (by rw [z]; decide), if_neg (by rw [z]; decide), if_neg (by rw [z]; decide), if_neg (by rw [z]; decide), if_neg (by rw [z]; decide), if_neg (by rw [z]; decide), if_neg (by rw [z]; decide), if_neg (by rw [z]; decide), if_pos z]; exact sim 5 5 rfl (by unfold lnF; simp [z])
      · rw [if_neg (by rw [z]; decide), if_neg (by rw [z]; decide), if_neg (by rw [z]; decide), if_neg (by rw [z]; decide), if_neg (by rw [z]; decide), if_neg (by rw [z]; decide), if_neg (by rw [z]; decide), if_neg (by rw [z]; decide), if_neg (by rw [z]; decide), if_pos z, cc_28_4, cc_28_3, c_loadD hm hc c, cv_of, c_become ldI_i, cv_of, cP_n, sa_nI (by omega) (by decide), nm_of, nI_1]
        refine nxt _ _ (fun c x1 x2 x3 => by rw [cP_row x1 x2, ldI_row x3]) ?_
        rw [e20, e21, e22, e23, e24, e25, ← E k c z]
        unfold lnF; simp [z]
    · rw [if_pos ((nI_le' (by omega) (by omega)).mpr (by omega))]
      exact wv_some.mpr ⟨fun _ _ _ _ _ => rfl, fun j => by rw [if_neg (by omega)]⟩
end
