section
variable {M F G B w : Nat} {σ τ : St}
/-- what a condition says of known FLAGS -/
theorem v_holds (V : Vr M F G B w σ τ) (c : Int32) : ∃ b, Flags_holds F c σ = some (b, σ) ∧ Mo_holds 67 c τ = some (b, τ) ∧ (b = 0 ∨ b = 1) := by
  obtain ⟨v1, v2, v3, v4, v5, v6, v7, v8, v9⟩ := id V
  have f4 : ∀ (k : Nat) (kk : Int32), nI k = kk → (4 * τ 67 42) + kk = nI (4 * w + k) := by
    intro k kk hk; subst hk; rw [v8, show (4 : Int32) = nI 4 from rfl, nI_mul, nI_add]
  have l0 : ∀ f : Int32 → Option (Int32 × St), ld τ 89 8 ((4 * τ 67 42) + 0) f = f (σ F 0) := fun f => by rw [f4 0 0 rfl, ld_nI (by omega) (by decide), ← v2 0 (by decide)]
  have l1 : ∀ f : Int32 → Option (Int32 × St), ld τ 89 8 ((4 * τ 67 42) + 1) f = f (σ F 1) := fun f => by rw [f4 1 1 rfl, ld_nI (by omega) (by decide), ← v2 1 (by decide)]
  have l2 : ∀ f : Int32 → Option (Int32 × St), ld τ 89 8 ((4 * τ 67 42) + 2) f = f (σ F 2) := fun f => by rw [f4 2 2 rfl, ld_nI (by omega) (by decide), ← v2 2 (by decide)]
  have l3 : ∀ f : Int32 → Option (Int32 × St), ld τ 89 8 ((4 * τ 67 42) + 3) f = f (σ F 3) := fun f => by rw [f4 3 3 rfl, ld_nI (by omega) (by decide), ← v2 3 (by decide)]
  have n10 : ¬ (1 : Int32) = 0 := by decide
  have n01 : ¬ (0 : Int32) = 1 := by decide
  unfold Flags_holds Flags_holds_B11 Flags_holds_B205 Mo_holds Mo_holds_B31 Mo_holds_B204 Mo_holds_B227
  simp only [nm_of, cc_67_32, l0, l1, l2, l3]
  have fin : ∀ b : Int32, b = 0 ∨ b = 1 → ∃ b', some (b, σ) = some (b', σ) ∧ some (b, τ) = some (b', τ) ∧ (b' = 0 ∨ b' = 1) := fun b hb => ⟨b, rfl, rfl, hb⟩
  generalize hx : shr c 1 = x
  by_cases x0 : x = 0
  · by_cases q : σ F 3 = 1 <;> by_cases q2 : σ F 2 = σ F 3 <;> rcases and_1 c with e | e <;> simp [x0, q, q2, e, n10, n01]
  by_cases x1 : x = 1
  · by_cases q : σ F 0 = 1 <;> by_cases q2 : σ F 2 = σ F 3 <;> rcases and_1 c with e | e <;> simp [x1, q, q2, e, n10, n01]
  by_cases x2 : x = 2
  · by_cases q : σ F 1 = 1 <;> by_cases q2 : σ F 2 = σ F 3 <;> rcases and_1 c with e | e <;> simp [x2, q, q2, e, n10, n01]
  by_cases x3 : x = 3
  · by_cases q : σ F 0 = 1 <;> by_cases q1 : σ F 1 = 1 <;> by_cases q2 : σ F 2 = σ F 3 <;> rcases and_1 c with e | e <;> simp [x3, q, q1, q2, e, n10, n01]
  by_cases x4 : x = 4
  · by_cases q : σ F 2 = 1 <;> by_cases q3 : σ F 3 = 1 <;> by_cases q2 : σ F 2 = σ F 3 <;> rcases and_1 c with e | e <;> simp_all
  by_cases x5 : x = 5
  · by_cases q : σ F 1 = 1 <;> by_cases q2 : σ F 2 = σ F 3 <;> rcases and_1 c with e | e <;> simp [x5, q, q2, e, n10, n01]
  by_cases x6 : x = 6
  · by_cases q2 : σ F 2 = σ F 3 <;> rcases and_1 c with e | e <;> simp [x6, q2, e, n10, n01]
  · by_cases q : σ F 1 = 1 <;> by_cases q2 : σ F 2 = σ F 3 <;> rcases and_1 c with e | e <;> simp [x0, x1, x2, x3, x4, x5, x6, q, q2, e, n10, n01]
/-- INPUT and OUTPUT of a machine, the class's and the reference's -/
def IOr (M N O w : Nat) (σ τ : St) : Prop := ∃ ic k oc, ic ≤ 50 ∧ k ≤ ic ∧ oc ≤ 100 ∧ σ M 10 = nI ic ∧ τ 67 29 = nI ic ∧ σ M 11 = nI k ∧ τ 67 41 = nI k ∧ σ M 13 = nI oc ∧ τ 92 w = nI oc ∧ (∀ j, j < ic → σ N j = τ 86 j) ∧ (∀ j, j < oc → σ O j = τ 91 (100 * w + j))
/-- what a RUN (0) or WALK (1) leaves of the reference as it was -/
def FX (w : Nat) (τ τ' : St) : Prop := (∀ c, c ≠ 67 → (c < 88 ∨ 95 < c) → τ' c = τ c) ∧ (∀ k, k ≠ 39 → k ≠ 40 → k ≠ 41 → k ≠ 42 → (k < 43 ∨ 62 < k ∨ k = 55) → τ' 67 k = τ 67 k) ∧ (∀ j, (j < 8 * w ∨ 8 * w + 8 ≤ j) → τ' 88 j = τ 88 j) ∧ (∀ j, (j < 4 * w ∨ 4 * w + 4 ≤ j) → τ' 89 j = τ 89 j) ∧ (∀ j, (j < 1024 * w ∨ 1024 * w + 1024 ≤ j) → τ' 90 j = τ 90 j) ∧ (∀ j, (j < 100 * w ∨ 100 * w + 100 ≤ j) → τ' 91 j = τ 91 j) ∧ (∀ j, j ≠ w → τ' 92 j = τ 92 j ∧ τ' 93 j = τ 93 j ∧ τ' 94 j = τ 94 j ∧ τ' 95 j = τ 95 j) ∧ (w = 0 → τ' 67 40 = τ 67 40) ∧ (w = 1 → τ' 67 39 = τ 67 39)
theorem fx_rf : FX w τ τ := ⟨fun _ _ _ => rfl, fun _ _ _ _ _ _ => rfl, fun _ _ => rfl, fun _ _ => rfl, fun _ _ => rfl, fun _ _ => rfl, fun _ _ => ⟨rfl, rfl, rfl, rfl⟩, fun _ => rfl, fun _ => rfl⟩
theorem fx_tr {τ1 τ2 : St} (h : FX w τ τ1) (k : FX w τ1 τ2) : FX w τ τ2 := by
  obtain ⟨a1, a2, a3, a4, a5, a6, a7, a8, a9⟩ := h
  obtain ⟨b1, b2, b3, b4, b5, b6, b7, b8, b9⟩ := k
  exact ⟨fun c x y => (b1 c x y).trans (a1 c x y), fun j x y z u v => (b2 j x y z u v).trans (a2 j x y z u v), fun j x => (b3 j x).trans (a3 j x), fun j x => (b4 j x).trans (a4 j x), fun j x => (b5 j x).trans (a5 j x), fun j x => (b6 j x).trans (a6 j x), fun j x => ⟨(b7 j x).1.trans (a7 j x).1, (b7 j x).2.1.trans (a7 j x).2.1, (b7 j x).2.2.1.trans (a7 j x).2.2.1, (b7 j x).2.2.2.trans (a7 j x).2.2.2⟩, fun x => (b8 x).trans (a8 x), fun x => (b9 x).trans (a9 x)⟩
theorem fx_fr {τ1 : St} (h : FR w τ τ1) : FX w τ τ1 := by
  obtain ⟨a1, a2, a3, a4, a5, a6⟩ := h
  have q : ∀ c, c = 92 ∨ c = 93 ∨ c = 94 ∨ c = 95 ∨ c = 91 → τ1 c = τ c := fun c hc => a1 c (by omega) (by omega) (by omega) (by omega)
  exact ⟨fun c x y => a1 c x (by omega) (by omega) (by omega), fun j x y z u v => a2 j y, a3, a4, a5, fun j x => by rw [q 91 (by simp)], fun j x => ⟨by rw [q 92 (by simp)], by rw [q 93 (by simp)], by rw [q 94 (by simp)], by rw [q 95 (by simp)]⟩, a6, fun x => a2 39 (by decide)⟩
/-- cells 92 .. 95 at w -/
theorem fx_s {c : Nat} {v : Int32} (hc : c = 92 ∨ c = 93 ∨ c = 94 ∨ c = 95) : FX w τ (s2 τ c w v) := by
  have n : ∀ d, d ≠ c → s2 τ c w v d = τ d := fun d hd => s2_ne hd
  have e : ∀ d j, j ≠ w → s2 τ c w v d j = τ d j := fun d j hj => by rw [s2_at, if_neg hj]; split <;> rfl
  exact ⟨fun d x y => n d (by omega), fun j x y z u v => by rw [n 67 (by omega)], fun j x => by rw [n 88 (by omega)], fun j x => by rw [n 89 (by omega)], fun j x => by rw [n 90 (by omega)], fun j x => by rw [n 91 (by omega)], fun j x => ⟨e 92 j x, e 93 j x, e 94 j x, e 95 j x⟩, fun x => by rw [n 67 (by omega)], fun x => by rw [n 67 (by omega)]⟩
/-- the reference's own fields -/
theorem fx_f {k : Nat} {v : Int32} (hk : k = 41 ∨ (43 ≤ k ∧ k ≤ 62 ∧ k ≠ 55) ∨ (k = 39 ∧ w = 0)) : FX w τ (s2 τ 67 k v) := by
  have n : ∀ d, d ≠ 67 → s2 τ 67 k v d = τ d := fun d hd => s2_ne hd
  have e : ∀ j, j ≠ k → s2 τ 67 k v 67 j = τ 67 j := fun j hj => by rw [s2_row, upd_ne hj]
  exact ⟨fun d x y => n d x, fun j x y z u v => e j (by omega), fun j x => by rw [n 88 (by decide)], fun j x => by rw [n 89 (by decide)], fun j x => by rw [n 90 (by decide)], fun j x => by rw [n 91 (by decide)], fun j x => ⟨by rw [n 92 (by decide)], by rw [n 93 (by decide)], by rw [n 94 (by decide)], by rw [n 95 (by decide)]⟩, fun x => e 40 (by omega), fun x => e 39 (by omega)⟩
theorem fx_lm {τ1 : St} (h : Lm τ 67 τ1) : FX w τ τ1 := by
  obtain ⟨fr, li, aT, op, fm, r, x, d, i, kf, m, rfl⟩ := h
  exact ⟨fun d x y => mkM_row x, fun j x y z u v => mkM_oth (by omega), fun j x => by rw [mkM_row (by decide)], fun j x => by rw [mkM_row (by decide)], fun j x => by rw [mkM_row (by decide)], fun j x => by rw [mkM_row (by decide)], fun j x => ⟨by rw [mkM_row (by decide)], by rw [mkM_row (by decide)], by rw [mkM_row (by decide)], by rw [mkM_row (by decide)]⟩, fun x => mkM_oth (by omega), fun x => mkM_oth (by omega)⟩
end
