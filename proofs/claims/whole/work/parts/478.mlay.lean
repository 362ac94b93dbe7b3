/-- how long an ITEM'S first piece is; lg: which jumps are LONG -/
def lnF (s : Nat → Int32) (el : Nat → Nat) (lg : Nat → Bool) (k : Nat) : Nat := if s k = 0 then 0 else if s k = 1 then (if lg k then 5 else 2) else if s k = 2 then (if lg k then 6 else 2) else if s k = 7 then 1 else if s k = 9 then el k else 5
theorem lnF_le {s : Nat → Int32} {el : Nat → Nat} {lg : Nat → Bool} {k : Nat} (h : s k = 9 → el k ≤ 12) : lnF s el lg k ≤ 16 ∧ (s k = 0 → lnF s el lg k = 0) := by
  unfold lnF
  refine ⟨?_, fun h0 => by rw [if_pos h0]⟩
  by_cases h0 : s k = 0
  · rw [if_pos h0]; omega
  · rw [if_neg h0]
    by_cases h1 : s k = 1
    · rw [if_pos h1]; split <;> omega
    · rw [if_neg h1]
      by_cases h2 : s k = 2
      · rw [if_pos h2]; split <;> omega
      · rw [if_neg h2]
        by_cases h7 : s k = 7
        · rw [if_pos h7]; omega
        · rw [if_neg h7]
          by_cases h9 : s k = 9
          · rw [if_pos h9]; have := h h9; omega
          · rw [if_neg h9]; omega
/-- the reference's own fields and BYTES aside -/
def SZ (τ τ' : St) : Prop := (∀ c, c ≠ 67 → c ≠ 83 → τ' c = τ c) ∧ ∀ j, j ≠ 25 → τ' 67 j = τ 67 j
theorem sz_mP {τ : St} {L : List Int32} : SZ τ (mP τ L) := ⟨fun c h1 h2 => mP_row h1 h2, fun j h => mP_f h⟩
section
variable {m : Nat} {s a b op fm r x d i : Nat → Int32} {el : Nat → Nat} {lg : Nat → Bool} {τ : St}
/-- THE DRAFT of the reference -/
def MT0 (m : Nat) (s a b op fm r x d i : Nat → Int32) (τ : St) : Prop := m ≤ 120 ∧ τ 67 8 = nI m ∧ Itms 0 m s a b op fm r x d i (τ 71) (τ 72) (τ 73) (τ 74) (τ 75) (τ 76) (τ 77)
def ELn (m : Nat) (s op fm r x d i : Nat → Int32) (el : Nat → Nat) : Prop := ∀ k, k < m → s k = 9 → el k = (enc (op k) (fm k) (r k) (x k) (d k) (i k)).length
def LG (m : Nat) (lg : Nat → Bool) (τ : St) : Prop := ∀ k, k < m → τ 81 k = if lg k then 1 else 0
theorem el_le (E : ELn m s op fm r x d i el) {k : Nat} (hk : k < m) (h : s k = 9) : el k ≤ 12 := by rw [E k hk h]; exact (enc_l _ _ _ _ _ _).2
theorem mt_c {τ' : St} (D : MT0 m s a b op fm r x d i τ) (h : ∀ c, 71 ≤ c → c ≤ 77 → τ' c = τ c) (h8 : τ' 67 8 = τ 67 8) : MT0 m s a b op fm r x d i τ' := by
  unfold MT0 at D ⊢
  rw [h8, h 71 (by decide) (by decide), h 72 (by decide) (by decide), h 73 (by decide) (by decide), h 74 (by decide) (by decide), h 75 (by decide) (by decide), h 76 (by decide) (by decide), h 77 (by decide) (by decide)]
  exact D
theorem mt_s (D : MT0 m s a b op fm r x d i τ) {k : Nat} (hk : k < m) {β : Type} (f : Int32 → Option β) : ld τ 71 240 (nI k) f = f (s k) := by
  obtain ⟨hm, _, it⟩ := D
  have := (it k hk).1
  rw [Nat.zero_add] at this
  rw [ld_nI (by omega) (by decide), this]
theorem mt_a (D : MT0 m s a b op fm r x d i τ) {k : Nat} (hk : k < m) (h9 : ¬ s k = 9) (h7 : ¬ s k = 7) {β : Type} (f : Int32 → Option β) : ld τ 74 240 (nI k) f = f (a k) := by
  obtain ⟨hm, _, it⟩ := D
  rw [ld_nI (by omega) (by decide)]
  rcases (it k hk).2 with ⟨e, _⟩ | ⟨_, _, e, _⟩
  · exact absurd e h9
  · rw [Nat.zero_add, if_neg h7] at e; rw [e]
theorem mt_b (D : MT0 m s a b op fm r x d i τ) {k : Nat} (hk : k < m) (h : s k = 0 ∨ s k = 2 ∨ s k = 8) {β : Type} (f : Int32 → Option β) : ld τ 75 240 (nI k) f = f (b k) := by
  obtain ⟨hm, _, it⟩ := D
  rw [ld_nI (by omega) (by decide)]
  rcases (it k hk).2 with ⟨e, _⟩ | ⟨_, _, _, e⟩
  · exfalso; rcases h with h | h | h <;> (rw [h] at e; exact absurd e (by decide))
  · rw [Nat.zero_add, if_pos h] at e; rw [e]
theorem mt_fok (D : MT0 m s a b op fm r x d i τ) {k : Nat} (hk : k < m) (h9 : ¬ s k = 9) : FOK (s k) (a k) (b k) := by
  rcases (D.2.2 k hk).2 with ⟨e, _⟩ | ⟨_, f, _⟩
  · exact absurd e h9
  · exact f
/-- a LABEL'S number -/
theorem fok_l {s a b : Int32} (f : FOK s a b) (h : s = 0 ∨ s = 1 ∨ s = 2 ∨ s = 3 ∨ s = 8) : ∃ l, l < 40 ∧ a = nI l := by
  have hl : isLb a := by
    rcases f with ⟨_, y, _⟩ | ⟨_, y⟩ | ⟨_, y, _⟩ | ⟨y, _⟩ | ⟨y, _⟩ | y | ⟨_, y, _⟩
    · exact y
    · exact y
    · exact y
    · exfalso; rw [y] at h; exact absurd h (by decide)
    · exfalso; rcases y with y | y <;> (rw [y] at h; exact absurd h (by decide))
    · exfalso; rw [y] at h; exact absurd h (by decide)
    · exact y
  exact to_nI (m := 40) hl.1 40 rfl (by decide) hl.2
theorem m_size (D : MT0 m s a b op fm r x d i τ) (E : ELn m s op fm r x d i el) (G : LG m lg τ) {k : Nat} (hk : k < m) (h0 : ¬ s k = 0) (h7 : ¬ s k = 7) : ∃ τ', Mo_sizeOf 67 (nI k) τ = some (nI (lnF s el lg k), τ') ∧ SZ τ τ' := by
  have hm := D.1
  have l81 : ∀ (f : Int32 → Option (Int32 × St)), ld τ 81 120 (nI k) f = f (if lg k then 1 else 0) := fun f => by rw [ld_nI (by omega) (by decide), G k hk]
  unfold Mo_sizeOf lnF
  rw [cc_67_11, cc_67_21, mt_s D hk, if_neg h0, l81, l81]
  by_cases h1 : s k = 1
  · rw [if_pos h1, if_pos h1]
    cases lg k
    · exact ⟨τ, rfl, ⟨fun _ _ _ => rfl, fun _ _ => rfl⟩⟩
    · exact ⟨τ, rfl, ⟨fun _ _ _ => rfl, fun _ _ => rfl⟩⟩
  · rw [if_neg h1, if_neg h1]
    by_cases h2 : s k = 2
    · rw [if_pos h2, if_pos h2]
      cases lg k
      · exact ⟨τ, rfl, ⟨fun _ _ _ => rfl, fun _ _ => rfl⟩⟩
      · exact ⟨τ, rfl, ⟨fun _ _ _ => rfl, fun _ _ => rfl⟩⟩
    · rw [if_neg h2, if_neg h2, if_neg h7]
      by_cases h9 : s k = 9
      · rw [if_pos h9, if_pos h9]
        rcases (D.2.2 k hk).2 with ⟨_, p1, p2, p3, p4, p5, p6, p7⟩ | ⟨e, _⟩
        · rw [Nat.zero_add] at p2 p3 p4 p5 p6 p7
          rw [m_encode (d := d k) (by omega) p1 p2 p3 (fun y => by rw [p4, if_pos y]) (fun y => by rw [p5, if_pos y]) (fun y => by rw [p6, if_pos y]) (fun y => by rw [p7, if_pos y]), cv_of, mP_n, E k hk h9]
          exact ⟨_, rfl, sz_mP⟩
        · exact absurd h9 e
      · rw [if_neg h9, if_neg h9]
        exact ⟨τ, rfl, ⟨fun _ _ _ => rfl, fun _ _ => rfl⟩⟩
theorem m_lay0 {q n : Nat} (h : τ 67 22 = nI q) (hq : q < 2 ^ 29) (hn : n ≤ 16) : Mo_lay 67 (nI n) 0 τ = some (nI (fit q n), s2 τ 67 22 (nI (fit q n + n))) := by
  have e6 : ∀ v, s2 τ 67 22 v 67 22 = v := fun v => by rw [s2_row, upd_s]
  have b33 : ∀ (q : Nat) (τ : St), τ 67 22 = nI q → Mo_lay_B33 67 (nI n) 0 τ = some (nI q, s2 τ 67 22 (nI (q + n))) := by
    intro q τ h
    unfold Mo_lay_B33 Mo_lay_B58
    rw [if_pos rfl, nm_of, nm_of, h, nI_add]
  unfold Mo_lay fit
  rw [h, rem_16 q (by omega), nI_add]
  by_cases c : 16 < q % 16 + n
  · rw [if_neg (show ¬ nI (q % 16 + n) ≤ 16 from fun z => absurd ((lf_leR 16 16 _ rfl (by decide) (by omega)).mp z) (by omega)), nm_of, if_pos c, show (16 : Int32) - nI (q % 16) = nI (16 - q % 16) from nI_sub (a := 16) (by omega) (by decide), nI_add, b33 (q / 16 * 16 + 16) _ (by rw [e6, show q + (16 - q % 16) = q / 16 * 16 + 16 by omega]), s2_tw]
  · rw [if_pos ((lf_leR 16 16 _ rfl (by decide) (by omega)).mpr (by omega)), if_neg c, b33 q τ h]
theorem m_lay1 {q n : Nat} (h : τ 67 22 = nI q) (hq : q < 2 ^ 29) (hn : n ≤ 16) : Mo_lay 67 (nI n) 1 τ = some (nI (fit q n / 16 * 16 + 16 - n), s2 τ 67 22 (nI (fit q n / 16 * 16 + 16))) := by
  have e6 : ∀ v, s2 τ 67 22 v 67 22 = v := fun v => by rw [s2_row, upd_s]
  have b33 : ∀ (q : Nat) (τ : St), τ 67 22 = nI q → q < 2 ^ 29 + 100 → q % 16 + n ≤ 16 → Mo_lay_B33 67 (nI n) 1 τ = some (nI (q / 16 * 16 + 16 - n), s2 τ 67 22 (nI (q / 16 * 16 + 16))) := by
    intro q τ h hq hf
    have e6 : ∀ v, s2 τ 67 22 v 67 22 = v := fun v => by rw [s2_row, upd_s]
    unfold Mo_lay_B33 Mo_lay_B58
    rw [if_neg (by decide), h, rem_16 q (by omega), show (16 : Int32) - nI (q % 16) = nI (16 - q % 16) from nI_sub (a := 16) (by omega) (by decide), nI_sub (by omega) (by omega), nI_add, nm_of, nm_of, nm_of, e6, s2_tw, nI_add, show q + (16 - q % 16 - n) + n = q / 16 * 16 + 16 by omega, show q + (16 - q % 16 - n) = q / 16 * 16 + 16 - n by omega]
  unfold Mo_lay fit
  rw [h, rem_16 q (by omega), nI_add]
  by_cases c : 16 < q % 16 + n
  · rw [if_neg (show ¬ nI (q % 16 + n) ≤ 16 from fun z => absurd ((lf_leR 16 16 _ rfl (by decide) (by omega)).mp z) (by omega)), nm_of, if_pos c, show (16 : Int32) - nI (q % 16) = nI (16 - q % 16) from nI_sub (a := 16) (by omega) (by decide), nI_add, b33 (q / 16 * 16 + 16) _ (by rw [e6, show q + (16 - q % 16) = q / 16 * 16 + 16 by omega]) (by omega) (by omega), s2_tw]
  · rw [if_pos ((lf_leR 16 16 _ rfl (by decide) (by omega)).mpr (by omega)), if_neg c, b33 q τ h (by omega) (by omega)]
end
