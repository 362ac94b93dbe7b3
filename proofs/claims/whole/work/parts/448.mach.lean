/-! ===== a machine of the class (cells M F G B) beside the reference's (w) ===== -/
def MC (M F G B : Nat) : Prop := ch M 0 = F ∧ ch M 7 = G ∧ ch M 8 = B ∧ M ≠ F ∧ M ≠ G ∧ M ≠ B ∧ F ≠ G ∧ F ≠ B ∧ G ≠ B
def Vr (M F G B w : Nat) (σ τ : St) : Prop := (∀ k, k < 8 → σ G k = τ 88 (8 * w + k)) ∧ (∀ k, k < 4 → σ F k = τ 89 (4 * w + k)) ∧ (∀ a, a < 1024 → σ B a = τ 90 (1024 * w + a)) ∧ (∀ a, a < 1024 → BY (σ B a)) ∧ isB (σ M 5) ∧ (w = 1 → σ M 5 = τ 67 40) ∧ (w = 0 → σ M 5 = 0) ∧ τ 67 42 = nI w ∧ w < 2
def FC (M F G B : Nat) (σ σ' : St) : Prop := (∀ c, c ≠ M → c ≠ F → c ≠ G → c ≠ B → σ' c = σ c) ∧ ∀ k, k ≠ 5 → σ' M k = σ M k
def FR (w : Nat) (τ τ' : St) : Prop := (∀ c, c ≠ 67 → c ≠ 88 → c ≠ 89 → c ≠ 90 → τ' c = τ c) ∧ (∀ k, k ≠ 40 → τ' 67 k = τ 67 k) ∧ (∀ j, (j < 8 * w ∨ 8 * w + 8 ≤ j) → τ' 88 j = τ 88 j) ∧ (∀ j, (j < 4 * w ∨ 4 * w + 4 ≤ j) → τ' 89 j = τ 89 j) ∧ (∀ j, (j < 1024 * w ∨ 1024 * w + 1024 ≤ j) → τ' 90 j = τ 90 j) ∧ (w = 0 → τ' 67 40 = τ 67 40)
section
variable {M F G B w : Nat} {σ σ' σ'' τ τ' τ'' : St}
theorem fc_rf : FC M F G B σ σ := ⟨fun _ _ _ _ _ => rfl, fun _ _ => rfl⟩
theorem fr_rf : FR w τ τ := ⟨fun _ _ _ _ _ => rfl, fun _ _ => rfl, fun _ _ => rfl, fun _ _ => rfl, fun _ _ => rfl, fun _ => rfl⟩
theorem fc_tr (h : FC M F G B σ σ') (k : FC M F G B σ' σ'') : FC M F G B σ σ'' := ⟨fun c a b d e => (k.1 c a b d e).trans (h.1 c a b d e), fun j hj => (k.2 j hj).trans (h.2 j hj)⟩
theorem fr_tr (h : FR w τ τ') (k : FR w τ' τ'') : FR w τ τ'' := ⟨fun c a b d e => (k.1 c a b d e).trans (h.1 c a b d e), fun j hj => (k.2.1 j hj).trans (h.2.1 j hj), fun j hj => (k.2.2.1 j hj).trans (h.2.2.1 j hj), fun j hj => (k.2.2.2.1 j hj).trans (h.2.2.2.1 j hj), fun j hj => (k.2.2.2.2.1 j hj).trans (h.2.2.2.2.1 j hj), fun hj => (k.2.2.2.2.2 hj).trans (h.2.2.2.2.2 hj)⟩
theorem i8 (h : τ 67 42 = nI w) (k : Nat) : (8 * τ 67 42) + nI k = nI (8 * w + k) := by rw [h, show (8 : Int32) = nI 8 from rfl, nI_mul, nI_add]
theorem i1024 (h : τ 67 42 = nI w) (a : Nat) : (1024 * τ 67 42) + nI a = nI (1024 * w + a) := by rw [h, show (1024 : Int32) = nI 1024 from rfl, nI_mul, nI_add]
/-- a register read -/
def rgv (σ : St) (G : Nat) (k : Int32) : Int32 := if inR k then σ G k.toNatClampNeg else 0
theorem c_reg (H : MC M F G B) (k : Int32) : Machine_registerAt M k σ = some (rgv σ G k, σ) := by
  unfold Machine_registerAt rgv
  rw [hr_eq, cl_of]
  by_cases c : inR k
  · obtain ⟨j, hj, rfl⟩ := to_nI (m := 8) c.1 8 rfl (by decide) c.2
    rw [if_pos c, if_neg (by decide), H.2.1, ld_nI hj (by decide), if_pos c, nI_clamp (by omega)]
  · rw [if_neg c, if_pos rfl, if_neg c]
theorem m_reg (V : Vr M F G B w σ τ) {k : Int32} (c : inR k) : Mo_reg 67 k τ = some (rgv σ G k, τ) := by
  obtain ⟨v1, v2, v3, v4, v5, v6, v7, v8, v9⟩ := V
  obtain ⟨j, hj, rfl⟩ := to_nI (m := 8) c.1 8 rfl (by decide) c.2
  unfold Mo_reg rgv
  rw [cc_67_31, i8 v8, ld_nI (by omega) (by decide), if_pos c, nI_clamp (by omega), v1 j hj]
theorem v_give (H : MC M F G B) (V : Vr M F G B w σ τ) {k : Nat} (hk : k < 8) (v : Int32) : ∃ σ' τ', Machine_give M (nI k) v σ = some σ' ∧ Mo_setReg 67 (nI k) v τ = some τ' ∧ Vr M F G B w σ' τ' ∧ FC M F G B σ σ' ∧ FR w τ τ' ∧ σ' G = upd (σ G) k v ∧ σ' B = σ B ∧ σ' F = σ F ∧ σ' M 5 = if k = 1 then 0 else σ M 5 := by
  obtain ⟨v1, v2, v3, v4, v5, v6, v7, v8, v9⟩ := id V
  obtain ⟨m1, m2, m3, m4, m5, m6, m7, m8, m9⟩ := H
  have c : inR (nI k) := ⟨nI_pos (by omega), lf_lt 8 8 k rfl hk (by decide)⟩
  have e1 : Machine_give M (nI k) v σ = some (s2 (s2 σ G k v) M 5 (if k = 1 then 0 else σ M 5)) := by
    unfold Machine_give
    rw [hr_eq, if_pos c, cl_of, if_neg (by decide), m2, sa_nI hk (by decide), s2_ne m5]
    have ek : (nI k = 1) ↔ k = 1 := nI_inj (b := 1) (by omega) (by decide)
    rcases v5 with q | q
    · rw [if_pos q, nm_of, q]; simp
    · rw [if_neg (by rw [q]; decide)]
      by_cases d : k = 1
      · rw [if_pos (ek.mpr d), if_pos d, nm_of]
      · rw [if_neg (fun x => d (ek.mp x)), if_neg d, nm_of, q]
  have ek : (nI k = 1) ↔ k = 1 := nI_inj (b := 1) (by omega) (by decide)
  have ew : (nI w = 1) ↔ w = 1 := nI_inj (b := 1) (by omega) (by decide)
  have e2 : Mo_setReg 67 (nI k) v τ = some (if w = 1 ∧ k = 1 then s2 (s2 τ 88 (8 * w + k) v) 67 40 0 else s2 τ 88 (8 * w + k) v) := by
    unfold Mo_setReg
    rw [cc_67_31, i8 v8, sa_nI (by omega) (by decide), s2_ne (by decide), v8]
    by_cases d1 : w = 1
    · rw [if_neg (not_not_intro (ew.mpr d1))]
      by_cases d2 : k = 1
      · rw [if_neg (not_not_intro (ek.mpr d2)), nm_of, if_pos ⟨d1, d2⟩]
      · rw [if_pos (fun x => d2 (ek.mp x)), if_neg (fun x => d2 x.2)]
    · rw [if_pos (fun x => d1 (ew.mp x)), if_neg (fun x => d1 x.1)]
  have t88 : (if w = 1 ∧ k = 1 then s2 (s2 τ 88 (8 * w + k) v) 67 40 0 else s2 τ 88 (8 * w + k) v) 88 = upd (τ 88) (8 * w + k) v := by
    split
    · rw [s2_ne (by decide), s2_row]
    · rw [s2_row]
  have toth : ∀ c, c ≠ 67 → c ≠ 88 → (if w = 1 ∧ k = 1 then s2 (s2 τ 88 (8 * w + k) v) 67 40 0 else s2 τ 88 (8 * w + k) v) c = τ c := by
    intro c h1 h2
    split
    · rw [s2_ne h1, s2_ne h2]
    · rw [s2_ne h2]
  have t67 : ∀ j, j ≠ 40 → (if w = 1 ∧ k = 1 then s2 (s2 τ 88 (8 * w + k) v) 67 40 0 else s2 τ 88 (8 * w + k) v) 67 j = τ 67 j := by
    intro j hj
    split
    · rw [s2_row, upd_ne hj, s2_ne (by decide)]
    · rw [s2_ne (by decide)]
  have t40 : (if w = 1 ∧ k = 1 then s2 (s2 τ 88 (8 * w + k) v) 67 40 0 else s2 τ 88 (8 * w + k) v) 67 40 = if w = 1 ∧ k = 1 then 0 else τ 67 40 := by
    by_cases q : w = 1 ∧ k = 1
    · rw [if_pos q, if_pos q, s2_row, upd_s]
    · rw [if_neg q, if_neg q, s2_ne (by decide)]
  generalize (if w = 1 ∧ k = 1 then s2 (s2 τ 88 (8 * w + k) v) 67 40 0 else s2 τ 88 (8 * w + k) v) = τ' at e2 t88 toth t67 t40
  have sG : (s2 (s2 σ G k v) M 5 (if k = 1 then 0 else σ M 5)) G = upd (σ G) k v := by rw [s2_ne m5.symm, s2_row]
  have sB : (s2 (s2 σ G k v) M 5 (if k = 1 then 0 else σ M 5)) B = σ B := by rw [s2_ne m6.symm, s2_ne m9.symm]
  have sF : (s2 (s2 σ G k v) M 5 (if k = 1 then 0 else σ M 5)) F = σ F := by rw [s2_ne m4.symm, s2_ne m7]
  have s5 : (s2 (s2 σ G k v) M 5 (if k = 1 then 0 else σ M 5)) M 5 = if k = 1 then 0 else σ M 5 := by rw [s2_row, upd_s]
  refine ⟨_, τ', e1, e2, ⟨?_, ?_, ?_, ?_, ?_, ?_, ?_, ?_, v9⟩, ⟨?_, ?_⟩, ⟨?_, ?_, ?_, ?_, ?_, ?_⟩, sG, sB, sF, s5⟩
  · intro j hj
    rw [sG, t88, upd_at, upd_at]
    by_cases q : j = k
    · rw [if_pos q, if_pos (by omega)]
    · rw [if_neg q, if_neg (by omega)]; exact v1 j hj
  · intro j hj; rw [sF, toth 89 (by decide) (by decide)]; exact v2 j hj
  · intro j hj; rw [sB, toth 90 (by decide) (by decide)]; exact v3 j hj
  · intro j hj; rw [sB]; exact v4 j hj
  · rw [s5]; split
    · exact Or.inl rfl
    · exact v5
  · intro q; rw [s5, t40]
    by_cases d : k = 1
    · rw [if_pos d, if_pos ⟨q, d⟩]
    · rw [if_neg d, if_neg (fun x => d x.2)]; exact v6 q
  · intro q; rw [s5, v7 q]; split <;> rfl
  · rw [t67 42 (by decide)]; exact v8
  · intro c h1 h2 h3 h4; rw [s2_ne h1, s2_ne h3]
  · intro j hj; rw [s2_row, upd_ne hj, s2_ne m5]
  · intro c h1 h2 h3 h4; exact toth c h1 h2
  · exact t67
  · intro j hj; rw [t88, upd_ne (by omega)]
  · intro j hj; rw [toth 89 (by decide) (by decide)]
  · intro j hj; rw [toth 90 (by decide) (by decide)]
  · intro q; rw [t40, if_neg (by omega)]
/-- a WORD read -/
def wrd (σ : St) (B : Nat) (a : Nat) : Int32 := ((σ B a ||| (shl (σ B (a + 1)) 8)) ||| (shl (σ B (a + 2)) 16)) ||| (shl (σ B (a + 3)) 24)
theorem c_word (H : MC M F G B) {a : Nat} (ha : a ≤ 1020) : Machine_wordAt M (nI a) σ = some (wrd σ B a, σ) := by
  have e : inW (nI a) := ⟨nI_pos (by omega), (lf_leR 1020 1020 a rfl (by decide) (by omega)).mpr ha⟩
  unfold Machine_wordAt wrd
  rw [hw_eq, if_pos e, cl_of, if_pos (by decide), H.2.2.1, ld_nI (by omega) (by decide), nI_1, ld_nI (by omega) (by decide), show nI a + 2 = nI (a + 2) from nI_add a 2, ld_nI (by omega) (by decide), show nI a + 3 = nI (a + 3) from nI_add a 3, ld_nI (by omega) (by decide)]
theorem sl_or (x y : Int32) : shl (x ||| y) 8 = shl x 8 ||| shl y 8 := Int32.toBitVec_inj.mp (by
  show (x.toBitVec ||| y.toBitVec) <<< 8 = (x.toBitVec <<< 8) ||| (y.toBitVec <<< 8)
  exact BitVec.shiftLeft_or_distrib _ _ _)
theorem sl_88 (x : Int32) : shl (shl x 8) 8 = shl x 16 := Int32.toBitVec_inj.mp (by
  show (x.toBitVec <<< 8) <<< 8 = x.toBitVec <<< 16
  rw [← BitVec.shiftLeft_add])
theorem sl_168 (x : Int32) : shl (shl x 16) 8 = shl x 24 := Int32.toBitVec_inj.mp (by
  show (x.toBitVec <<< 16) <<< 8 = x.toBitVec <<< 24
  rw [← BitVec.shiftLeft_add])
theorem or_as (a b c d : Int32) : shl (shl (shl (shl 0 8 ||| d) 8 ||| c) 8 ||| b) 8 ||| a = ((a ||| shl b 8) ||| shl c 16) ||| shl d 24 := by
  rw [show shl (0 : Int32) 8 = 0 from rfl, Int32.zero_or]
  simp only [sl_or, sl_88, sl_168]
  rw [Int32.or_comm _ a, Int32.or_comm (shl d 24 ||| shl c 16) (shl b 8), Int32.or_comm (shl d 24) (shl c 16)]
  simp only [Int32.or_assoc]
theorem lo_b (n : Nat) {a : Nat} (ha : a ≤ 1020) (hw : w < 2) (h : τ 67 42 = nI w) : Mo_load_B4 (n + 1 + 1 + 1 + 1 + 1) 67 (nI a) 0 3 τ = some (((τ 90 (1024 * w + a) ||| shl (τ 90 (1024 * w + (a + 1))) 8) ||| shl (τ 90 (1024 * w + (a + 2))) 16) ||| shl (τ 90 (1024 * w + (a + 3))) 24, τ) := by
  have ix : ∀ (k : Nat) (kk : Int32), nI k = kk → ((1024 * τ 67 42) + nI a) + kk = nI (1024 * w + (a + k)) := by
    intro k kk hk; subst hk; rw [i1024 h, nI_add]; congr 1; omega
  rw [Mo_load_B4, if_neg (by decide), cc_67_33, ix 3 3 rfl, ld_nI (by omega) (by decide), nm_of, nm_of]
  rw [Mo_load_B4, if_neg (by decide), cc_67_33, ix 2 (3 + -1) (by decide), ld_nI (by omega) (by decide), nm_of, nm_of]
  rw [Mo_load_B4, if_neg (by decide), cc_67_33, ix 1 (3 + -1 + -1) (by decide), ld_nI (by omega) (by decide), nm_of, nm_of]
  rw [Mo_load_B4, if_neg (by decide), cc_67_33, ix 0 (3 + -1 + -1 + -1) (by decide), ld_nI (by omega) (by decide), nm_of, nm_of]
  rw [Mo_load_B4, if_pos (by decide), or_as]
  rfl
theorem m_word (V : Vr M F G B w σ τ) {a : Nat} (ha : a ≤ 1020) : Mo_load 67 (nI a) τ = some (wrd σ B a, τ) := by
  obtain ⟨v1, v2, v3, v4, v5, v6, v7, v8, v9⟩ := V
  unfold Mo_load wrd
  rw [show FU = 19995 + 1 + 1 + 1 + 1 + 1 from rfl, lo_b 19995 ha v9 v8, v3 a (by omega), v3 (a + 1) (by omega), v3 (a + 2) (by omega), v3 (a + 3) (by omega)]
theorem st_b (n : Nat) {a : Nat} (ha : a ≤ 1020) (hw : w < 2) (h : τ 67 42 = nI w) (v : Int32) : Mo_store_B2 (n + 1 + 1 + 1 + 1 + 1) 67 (nI a) v 0 τ = some (va_up τ 90 (wrw (τ 90) (1024 * w + a) v)) := by
  have ix : ∀ (σ : St), σ 67 42 = nI w → ∀ (k : Nat) (kk : Int32), nI k = kk → ((1024 * σ 67 42) + nI a) + kk = nI (1024 * w + a + k) := by
    intro σ h k kk hk; subst hk; rw [i1024 h, nI_add]
  rw [Mo_store_B2, if_neg (by decide), cc_67_33, ix τ h 0 0 rfl, sa_nI (by omega) (by decide), nm_of]
  rw [Mo_store_B2, if_neg (by decide), cc_67_33, ix _ (by rw [s2_ne (by decide)]; exact h) 1 (0 + 1) rfl, sa_nI (by omega) (by decide), nm_of]
  rw [Mo_store_B2, if_neg (by decide), cc_67_33, ix _ (by rw [s2_ne (by decide), s2_ne (by decide)]; exact h) 2 (0 + 1 + 1) rfl, sa_nI (by omega) (by decide), nm_of]
  rw [Mo_store_B2, if_neg (by decide), cc_67_33, ix _ (by rw [s2_ne (by decide), s2_ne (by decide), s2_ne (by decide)]; exact h) 3 (0 + 1 + 1 + 1) rfl, sa_nI (by omega) (by decide), nm_of]
  rw [Mo_store_B2, if_pos (by decide)]
  congr 1
  funext c j
  rw [up_at]
  by_cases q : c = 90
  · subst q; rw [if_pos rfl]; simp only [s2_row]; unfold wrw; rw [show shr v (8 * 0) = v from sh_0 v]; rfl
  · rw [if_neg q]; simp only [s2_ne q]
theorem v_word (H : MC M F G B) (V : Vr M F G B w σ τ) {a : Nat} (ha : a ≤ 1020) (v : Int32) : ∃ σ' τ', Machine_giveWord M (nI a) v σ = some σ' ∧ Mo_store 67 (nI a) v τ = some τ' ∧ Vr M F G B w σ' τ' ∧ FC M F G B σ σ' ∧ FR w τ τ' ∧ σ' G = σ G ∧ σ' F = σ F ∧ σ' M = σ M := by
  obtain ⟨v1, v2, v3, v4, v5, v6, v7, v8, v9⟩ := id V
  obtain ⟨m1, m2, m3, m4, m5, m6, m7, m8, m9⟩ := H
  have e2 : Mo_store 67 (nI a) v τ = some (va_up τ 90 (wrw (τ 90) (1024 * w + a) v)) := by
    unfold Mo_store; rw [show FU = 19995 + 1 + 1 + 1 + 1 + 1 from rfl, st_b 19995 ha v9 v8]
  refine ⟨_, _, mg_word m3 ha v, e2, ⟨?_, ?_, ?_, ?_, ?_, ?_, ?_, ?_, v9⟩, ⟨?_, ?_⟩, ⟨?_, ?_, ?_, ?_, ?_, ?_⟩, up_ne m9, up_ne m8, up_ne m6⟩
  · intro k hk; rw [up_ne m9, up_ne (by decide)]; exact v1 k hk
  · intro k hk; rw [up_ne m8, up_ne (by decide)]; exact v2 k hk
  · intro k hk; rw [up_row, up_row]; exact wrw_eq v3 k hk
  · intro k hk; rw [up_row]; exact wrw_by v4 k hk
  · rw [up_ne m6]; exact v5
  · intro q; rw [up_ne m6, up_ne (by decide)]; exact v6 q
  · intro q; rw [up_ne m6]; exact v7 q
  · rw [up_ne (by decide)]; exact v8
  · intro c h1 h2 h3 h4; exact up_ne h4
  · intro j hj; rw [up_ne m6]
  · intro c h1 h2 h3 h4; exact up_ne h4
  · intro j hj; rw [up_ne (by decide)]
  · intro j hj; rw [up_ne (by decide)]
  · intro j hj; rw [up_ne (by decide)]
  · intro j hj; rw [up_row, wrw_at, if_neg (by omega), if_neg (by omega), if_neg (by omega), if_neg (by omega)]
  · intro q; rw [up_ne (by decide)]
end
