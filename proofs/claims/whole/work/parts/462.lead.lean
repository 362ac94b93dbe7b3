section
variable {m T : Nat} {pl : Nat → Nat} {σ τ : St}
/-- what an address leads to: nowhere, a SERVICE, or an ITEM, with the LABELS passed -/
def Led (m : Nat) (s : Nat → Int32) (v v' : Int32) : Prop := (v = -100 ∧ v' = -100) ∨ (v = v' ∧ (v = -1 ∨ v = -2 ∨ v = -3 ∨ v = -4)) ∨ ∃ w, w ≤ m ∧ v = nI w ∧ v' = nI (pst s m 120 w)
theorem v_lead (P : PrS m T pl σ τ) (A : Int32) : ∃ v v', Program_landingAt 33 A σ = some (v, σ) ∧ Mo_leads 67 A τ = some (v', τ) ∧ Led m (σ 34) v v' := by
  obtain ⟨hm, c1, c2, c3, c4, c5, it, plq, lay⟩ := id P
  unfold Program_landingAt Mo_leads
  rw [hs_eq, ms_eq, cl_of, cl_of]
  by_cases hs : isS A
  · rw [if_pos hs, if_neg (by decide), if_neg (by decide)]
    refine ⟨_, _, rfl, rfl, Or.inr (Or.inl ⟨rfl, ?_⟩)⟩
    rcases hs with rfl | rfl | rfl | rfl
    · left; decide
    · right; left; decide
    · right; right; left; decide
    · right; right; right; decide
  · rw [if_neg hs, if_pos rfl, if_pos rfl, nm_of]
    have lp := ld_loop P (A := A) 120 FU 0 (by omega) (by omega) (FU_big (by omega))
    have none' : (∀ q' w a, q' < m → A = nI a → a < 2 ^ 31 → ¬ Mt (σ 34) (σ 36) pl a q' w) → Mo_leads_B16 FU 67 A 0 τ = some (-100, τ) := by
      intro hno
      rcases lp with ⟨q', w, a, x1, x2, x3, x4, _⟩ | ⟨y, _⟩
      · exact absurd x4 (hno q' w a x1 x2 x3)
      · exact y
    have pm := lay.2.2.2.1
    by_cases k1 : A < 256
    · rw [if_pos k1, none' ?_]
      · exact ⟨_, _, rfl, rfl, Or.inl ⟨rfl, rfl⟩⟩
      · intro q' w a x1 x2 x3 x4
        refine lf_nlt 256 256 a rfl ?_ x3 (by rw [← x2]; exact k1)
        rcases x4 with ⟨_, _, y, _⟩ | ⟨_, y, _⟩ <;> omega
    · rw [if_neg k1]
      obtain ⟨a, ha, rfl⟩ := nI_of (nlt_of k1 (show (0 : Int32) ≤ 256 by decide))
      have a256 : 256 ≤ a := by
        rcases Nat.lt_or_ge a 256 with q | q
        · exact absurd (lf_lt 256 256 a rfl q (by decide)) k1
        · exact q
      have am : ∀ q' w a', q' < m → nI a = nI a' → a' < 2 ^ 31 → Mt (σ 34) (σ 36) pl a' q' w → a' = a ∧ Mt (σ 34) (σ 36) pl a q' w ∧ a % 16 = 0 ∧ Lnd (σ 34) (σ 36) pl q' ((a - 256) / 16) w := by
        intro q' w a' x1 x2 x3 x4
        have e : a' = a := ((nI_inj ha x3).mp x2).symm
        subst e
        refine ⟨rfl, x4, ?_, ?_⟩
        · rcases x4 with ⟨y1, y2, y3, _⟩ | ⟨y1, y3, _⟩
          · have := (pm q' x1).1 ⟨y1, y2⟩; omega
          · have := (pm q' x1).2 y1; omega
        · rcases x4 with ⟨y1, y2, y3, y4⟩ | ⟨y1, y3, y4⟩
          · have := (pm q' x1).1 ⟨y1, y2⟩; exact Or.inl ⟨y1, y2, by omega, y4⟩
          · have := (pm q' x1).2 y1; exact Or.inr ⟨y1, by omega, y4⟩
      rw [rem_16 a ha, show nI a - 256 = nI (a - 256) from nI_sub (b := 256) a256 ha, nI_d16 _ (by omega)]
      by_cases k2 : a % 16 = 0
      · rw [if_neg (not_not_intro (show nI (a % 16) = 0 by rw [k2]; rfl)), if_neg (nI_pos (by omega))]
        by_cases k3 : (a - 256) / 16 < 64
        · rw [if_pos (lf_lt 64 64 _ rfl k3 (by decide)), cc_33_13, ld_nI k3 (by decide)]
          rcases lay.2.2.2.2 _ k3 with ⟨z1, z2⟩ | ⟨q, w, z1, z2, z3, z4⟩
          · rw [z1, none' ?_]
            · exact ⟨_, _, rfl, rfl, Or.inl ⟨rfl, rfl⟩⟩
            · intro q' w a' x1 x2 x3 x4
              exact z2 q' w x1 (am q' w a' x1 x2 x3 x4).2.2.2
          · have wm : w ≤ m := by rcases z2 with ⟨_, _, _, y⟩ | ⟨_, _, y⟩ <;> omega
            have hMt : Mt (σ 34) (σ 36) pl a q w := by
              rcases z2 with ⟨y1, y2, y3, y4⟩ | ⟨y1, y3, y4⟩
              · exact Or.inl ⟨y1, y2, by omega, y4⟩
              · exact Or.inr ⟨y1, by omega, y4⟩
            rcases lp with ⟨q', w', a', x1, x2, x3, x4, x5⟩ | ⟨_, y⟩
            · obtain ⟨_, _, _, y4⟩ := am q' w' a' x1 x2 x3 x4
              obtain ⟨u1, u2⟩ := z4 q' w' x1 y4
              have e5 : Mo_leads_B16 FU 67 (nI a) 0 τ = some (nI (pst (σ 34) m 120 w'), τ) := x5
              rw [e5, z3]
              refine ⟨_, _, rfl, rfl, Or.inr (Or.inr ⟨w, wm, rfl, ?_⟩)⟩
              rw [pst_eq hm u1 wm u2]
            · exact absurd hMt (y q w a (by omega) z1 rfl ha)
        · rw [if_neg (lf_nlt 64 64 _ rfl (by omega) (by omega)), none' ?_]
          · exact ⟨_, _, rfl, rfl, Or.inl ⟨rfl, rfl⟩⟩
          · intro q' w a' x1 x2 x3 x4
            exact k3 (lay.2.2.1 q' w _ x1 (am q' w a' x1 x2 x3 x4).2.2.2)
      · rw [if_pos (show ¬ nI (a % 16) = 0 from fun h => k2 ((nI_inj (b := 0) (by omega) (by decide)).mp h)), none' ?_]
        · exact ⟨_, _, rfl, rfl, Or.inl ⟨rfl, rfl⟩⟩
        · intro q' w a' x1 x2 x3 x4
          exact k2 (am q' w a' x1 x2 x3 x4).2.2.1
end
section
variable {σ τ : St}
/-- whether a condition names what isn't known -/
theorem v_unk (V : Vr 58 59 60 61 1 σ τ) (c : Int32) : ∃ b, Flags_isUnknownTo 59 c σ = some (b, σ) ∧ Mo_namesUnknown 67 c τ = some (b, τ) ∧ (b = 0 ∨ b = 1) := by
  obtain ⟨v1, v2, v3, v4, v5, v6, v7, v8, v9⟩ := id V
  have l4 : ∀ f : Int32 → Option (Int32 × St), ld τ 89 8 4 f = f (σ 59 0) := fun f => by rw [ld_L 4 4 rfl (by decide) (by decide), v2 0 (by decide)]
  have l5 : ∀ f : Int32 → Option (Int32 × St), ld τ 89 8 5 f = f (σ 59 1) := fun f => by rw [ld_L 5 5 rfl (by decide) (by decide), v2 1 (by decide)]
  have l6 : ∀ f : Int32 → Option (Int32 × St), ld τ 89 8 6 f = f (σ 59 2) := fun f => by rw [ld_L 6 6 rfl (by decide) (by decide), v2 2 (by decide)]
  have l7 : ∀ f : Int32 → Option (Int32 × St), ld τ 89 8 7 f = f (σ 59 3) := fun f => by rw [ld_L 7 7 rfl (by decide) (by decide), v2 3 (by decide)]
  have n10 : ¬ (1 : Int32) = 0 := by decide
  unfold Flags_isUnknownTo Flags_isUnknownTo_B144 Mo_namesUnknown Mo_namesUnknown_B16 Mo_namesUnknown_B32 Mo_namesUnknown_B48 Mo_namesUnknown_B66
  simp only [nm_of, cc_67_32, l4, l5, l6, l7, zb_0, zb_1]
  generalize shr c 1 = x
  by_cases x0 : x = 0
  · by_cases q0 : σ 59 0 = 2 <;> by_cases q1 : σ 59 1 = 2 <;> by_cases q2 : σ 59 2 = 2 <;> by_cases q3 : σ 59 3 = 2 <;> simp [x0, q0, q1, q2, q3, n10]
  by_cases x1 : x = 1
  · by_cases q0 : σ 59 0 = 2 <;> by_cases q1 : σ 59 1 = 2 <;> by_cases q2 : σ 59 2 = 2 <;> by_cases q3 : σ 59 3 = 2 <;> simp [x1, q0, q1, q2, q3, n10]
  by_cases x2 : x = 2
  · by_cases q0 : σ 59 0 = 2 <;> by_cases q1 : σ 59 1 = 2 <;> by_cases q2 : σ 59 2 = 2 <;> by_cases q3 : σ 59 3 = 2 <;> simp [x2, q0, q1, q2, q3, n10]
  by_cases x3 : x = 3
  · by_cases q0 : σ 59 0 = 2 <;> by_cases q1 : σ 59 1 = 2 <;> by_cases q2 : σ 59 2 = 2 <;> by_cases q3 : σ 59 3 = 2 <;> simp [x3, q0, q1, q2, q3, n10]
  by_cases x4 : x = 4
  · by_cases q0 : σ 59 0 = 2 <;> by_cases q1 : σ 59 1 = 2 <;> by_cases q2 : σ 59 2 = 2 <;> by_cases q3 : σ 59 3 = 2 <;> simp [x4, q0, q1, q2, q3, n10]
  by_cases x5 : x = 5
  · by_cases q0 : σ 59 0 = 2 <;> by_cases q1 : σ 59 1 = 2 <;> by_cases q2 : σ 59 2 = 2 <;> by_cases q3 : σ 59 3 = 2 <;> simp [x5, q0, q1, q2, q3, n10]
  by_cases x6 : x = 6
  · by_cases q0 : σ 59 0 = 2 <;> by_cases q1 : σ 59 1 = 2 <;> by_cases q2 : σ 59 2 = 2 <;> by_cases q3 : σ 59 3 = 2 <;> simp [x6, q0, q1, q2, q3, n10]
  · by_cases q0 : σ 59 0 = 2 <;> by_cases q1 : σ 59 1 = 2 <;> by_cases q2 : σ 59 2 = 2 <;> by_cases q3 : σ 59 3 = 2 <;> simp [x0, x1, x2, x3, x4, x5, x6, q0, q1, q2, q3, n10]
end
