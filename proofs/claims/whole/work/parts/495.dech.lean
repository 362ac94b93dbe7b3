theorem m255d (i : Nat) : (255#32).getLsbD i = decide (i < 8) := by
  by_cases h : i < 32
  · have : ∀ i, i < 32 → (255#32).getLsbD i = decide (i < 8) := by decide
    exact this i h
  · rw [BitVec.getLsbD_of_ge _ _ (by omega), decide_eq_false (by omega)]
theorem b4_bv (X : BitVec 32) : ((X &&& 255#32 ||| ((X >>> 8) &&& 255#32) <<< 8) ||| ((X >>> 16) &&& 255#32) <<< 16) ||| ((X >>> 24) &&& 255#32) <<< 24 = X := by
  apply BitVec.eq_of_getLsbD_eq
  intro i hi
  simp only [BitVec.getLsbD_or, BitVec.getLsbD_and, BitVec.getLsbD_shiftLeft, BitVec.getLsbD_ushiftRight, m255d]
  obtain h | h | h | h : i < 8 ∨ (8 ≤ i ∧ i < 16) ∨ (16 ≤ i ∧ i < 24) ∨ (24 ≤ i ∧ i < 32) := by omega
  · simp [h, show i < 16 by omega, show i < 24 by omega]
  · simp [show ¬ i < 8 by omega, show i < 16 by omega, show i < 24 by omega, show i < 32 by omega, show i - 8 < 8 by omega, show 8 + (i - 8) = i by omega]
  · simp [show ¬ i < 8 by omega, show ¬ i < 16 by omega, show i < 24 by omega, show i < 32 by omega, show ¬ i - 8 < 8 by omega, show i - 16 < 8 by omega, show 16 + (i - 16) = i by omega]
  · simp [show ¬ i < 8 by omega, show ¬ i < 16 by omega, show ¬ i < 24 by omega, show i < 32 by omega, show ¬ i - 8 < 8 by omega, show ¬ i - 16 < 8 by omega, show i - 24 < 8 by omega, show 24 + (i - 24) = i by omega]
theorem b4_v (v : Int32) : ((bt v ||| shl (bt (shr v 8)) 8) ||| shl (bt (shr v 16)) 16) ||| shl (bt (shr v 24)) 24 = v := Int32.toBitVec_inj.mp (by
  show ((v.toBitVec &&& 255#32 ||| ((v.toBitVec.sshiftRight 8) &&& 255#32) <<< 8) ||| ((v.toBitVec.sshiftRight 16) &&& 255#32) <<< 16) ||| ((v.toBitVec.sshiftRight 24) &&& 255#32) <<< 24 = v.toBitVec
  rw [← bv_us _ 8 (by decide), ← bv_us _ 16 (by decide), ← bv_us _ 24 (by decide)]
  exact b4_bv _)
theorem b4_four {row : Nat → Int32} {q : Nat} {v : Int32} (h : Hld row q (four v)) : b4 row q = v := by
  obtain ⟨e0, h1⟩ := hd_c h
  obtain ⟨e1, h2⟩ := hd_c h1
  obtain ⟨e2, h3⟩ := hd_c h2
  have e3 := (hd_c h3).1
  unfold b4
  rw [e0, e1, show q + 2 = q + 1 + 1 from rfl, e2, show q + 3 = q + 1 + 1 + 1 from rfl, e3, b4_v]
theorem sm_k {v : Int32} (h : smI v) : ∃ k, k < 256 ∧ v = nI k - 128 := by
  have h1 : ¬ v.toInt < -128 := fun z => h.1 (Int32.lt_iff_toInt_lt.mpr (by rw [show (-128 : Int32).toInt = -128 from by decide]; exact z))
  have h2 : ¬ 127 < v.toInt := fun z => h.2 (Int32.lt_iff_toInt_lt.mpr (by rw [show (127 : Int32).toInt = 127 from by decide]; exact z))
  refine ⟨(v.toInt + 128).toNat, by omega, ?_⟩
  apply Int32.toInt_inj.mp
  rw [Int32.toInt_sub, nI_toInt (by omega), show (128 : Int32).toInt = 128 from by decide, Int.toNat_of_nonneg (by omega), Int.bmod_eq_of_le (by omega) (by omega)]
  omega
theorem i2b_v {v : Int32} (h : smI v) : i2b (bt v) = v := by
  obtain ⟨k, hk, rfl⟩ := sm_k h
  have : ∀ k, k < 256 → i2b (bt (nI k - 128)) = nI k - 128 := by decide +kernel
  exact this k hk
section
variable {row : Nat → Int32} {n p : Nat}
theorem dc_144 (hp : p < n) (h : row p = 144) : dc row n p = some (21, 0, 0, 0, 0, 0, p + 1) := by
  unfold dc dB
  rw [if_pos hp, h, if_neg (by decide), show sd 144 = (0, 21, 0, 0, 0) from by decide]
  rfl
theorem dc_244 (hp : p < n) (h : row p = 244) : dc row n p = some (22, 0, 0, 0, 0, 0, p + 1) := by
  unfold dc dB
  rw [if_pos hp, h, if_neg (by decide), show sd 244 = (0, 22, 0, 0, 0) from by decide]
  rfl
theorem numv4 {q : Nat} {v : Int32} (h : Hld row q (four v)) (hn : q + 4 ≤ n) : num row n 4 q = some (v, q + 4) := by
  unfold num
  rw [if_neg (by decide), if_pos rfl, if_pos (by omega), b4_four h]
theorem numv1 {q : Nat} {v : Int32} (hs : smI v) (h : row q = bt v) (hn : q + 1 ≤ n) : num row n 1 q = some (v, q + 1) := by
  unfold num
  rw [if_neg (by decide), if_neg (by decide), if_pos (by omega), if_pos rfl, h, i2b_v hs]
/-- a first byte, and four more -/
theorem dc_w4 {l o f r v : Int32} (H : Hld row p (l :: four v)) (hn : p + 5 ≤ n) (h15 : ¬ l = 15) (hs : sd l = (0, o, f, r, 4)) : dc row n p = some (o, f, r, 0, 0, v, p + 5) := by
  obtain ⟨w, t1, t2⟩ := dcN H (show p + (1 + (four v).length) ≤ n from by rw [four_l]; omega) h15 hs (Or.inr (Or.inr ⟨rfl, rfl⟩))
  rw [numv4 (hd_c H).2 (by omega)] at t2
  have : v = w := congrArg Prod.fst (Option.some.inj t2)
  rw [t1, ← this]; rfl
theorem dc_sh {l o f r v : Int32} (H : Hld row p [l, bt v]) (hn : p + 2 ≤ n) (h15 : ¬ l = 15) (hs : sd l = (0, o, f, r, 1)) (hv : smI v) : dc row n p = some (o, f, r, 0, 0, v, p + 2) := by
  obtain ⟨w, t1, t2⟩ := dcN H (show p + (1 + [bt v].length) ≤ n from by show p + (1 + 1) ≤ n; omega) h15 hs (Or.inr (Or.inl ⟨Or.inl rfl, rfl⟩))
  rw [numv1 hv (hd_c (hd_c H).2).1 (by omega)] at t2
  have : v = w := congrArg Prod.fst (Option.some.inj t2)
  rw [t1, ← this]; rfl
theorem coK {b : Int32} (h : isCo b) : ∃ k, k < 16 ∧ b = nI k ∧ ¬ k = 10 ∧ ¬ k = 11 := by
  obtain ⟨k, hk, e⟩ := to_nI (m := 16) h.1 16 rfl (by decide) (by
    refine Int32.lt_iff_toInt_lt.mpr ?_
    have := mt Int32.lt_iff_toInt_lt.mpr h.2.1
    rw [show (15 : Int32).toInt = 15 from by decide] at this
    rw [show (16 : Int32).toInt = 16 from by decide]
    omega)
  exact ⟨k, hk, e, fun z => h.2.2.1 (by rw [e, z]; rfl), fun z => h.2.2.2 (by rw [e, z]; rfl)⟩
theorem sdB0 : ∀ k, k < 16 → k = 10 ∨ k = 11 ∨ (sd (bt (112 + nI k)) = (0, 25, 8, nI k, 1) ∧ ¬ bt (112 + nI k) = 15) := by decide +kernel
theorem sdB02 : ∀ k, k < 16 → k = 10 ∨ k = 11 ∨ sd2 (bt (128 + nI k)) = (0, 25, 8, nI k, 4) := by decide +kernel
theorem sdB (k : Nat) (h : k < 16) (h1 : ¬ k = 10) (h2 : ¬ k = 11) : sd (bt (112 + nI k)) = (0, 25, 8, nI k, 1) ∧ ¬ bt (112 + nI k) = 15 := ((sdB0 k h).resolve_left h1).resolve_left h2
theorem sdB2 (k : Nat) (h : k < 16) (h1 : ¬ k = 10) (h2 : ¬ k = 11) : sd2 (bt (128 + nI k)) = (0, 25, 8, nI k, 4) := ((sdB02 k h).resolve_left h1).resolve_left h2
theorem dc_lb {b v : Int32} (hb : isCo b) (H : Hld row p (bt 15 :: bt (128 + b) :: four v)) (hn : p + 6 ≤ n) : ∃ r, dc row n p = some (25, 8, r, 0, 0, v, p + 6) := by
  obtain ⟨k, hk, rfl, k1, k2⟩ := coK hb
  obtain ⟨e0, H1⟩ := hd_c H
  obtain ⟨e1, H2⟩ := hd_c H1
  refine ⟨nI k, ?_⟩
  unfold dc dB
  rw [if_pos (by omega), e0, if_pos (show bt 15 = 15 from rfl), if_pos (by omega), e1, sdB2 k hk k1 k2]
  simp only []
  rw [if_neg (by decide), if_pos trivial]
  unfold dI
  rw [numv4 H2 (by omega)]
/-- a PAIR -/
theorem pairB : ∀ k, k < 8 → bt (224 + nI k) = bt ((192 + 8 * nI 4) + nI k) ∧ bt (208 + nI k) = bt ((192 + 8 * nI 2) + nI k) := by decide +kernel
theorem dc_p1 {k : Nat} {c : Int32} (hk : k < 8) (H : Hld row p (pair (nI k) c)) (hn : p + 5 ≤ n) : dc row n p = some (4, 5, nI k, 0, 0, -16, p + 3) ∧ row p = 131 := by
  obtain ⟨e0, H1⟩ := hd_c H
  obtain ⟨e1, H2⟩ := hd_c H1
  obtain ⟨e2, _⟩ := hd_c H2
  have H' : Hld row p ((bt 131 :: [bt ((192 + 8 * nI 4) + nI k)]) ++ [bt (-16)]) := by
    intro j hj
    obtain rfl | rfl | rfl : j = 0 ∨ j = 1 ∨ j = 2 := by simp at hj; omega
    · exact e0
    · rw [e1, (pairB k hk).1]; rfl
    · exact e2
  obtain ⟨v, t1, t2⟩ := dcR (o' := 4) (f' := 5) (r' := nI k) (x'' := 0) (by decide) hk H' (show p + (2 + 1) ≤ n by omega) (by decide) (show sd (bt 131) = (3, 0, 0, 0, 1) from by decide) (by decide) (by decide) (by unfold gf gop; rw [if_neg (by decide), if_neg (by decide)]; simp only [show ¬ bt 131 = 193 by decide, show ¬ bt 131 = 199 by decide, show ¬ bt 131 = 247 by decide, show ¬ bt 131 = 255 by decide, if_false, show ¬ nI 4 = -1 by decide, show ¬ (1 : Int32) = 0 by decide] <;> rfl) (Or.inr (Or.inl ⟨Or.inl rfl, rfl⟩))
  rw [numv1 (v := -16) (by decide) e2 (by omega)] at t2
  have : (-16 : Int32) = v := congrArg Prod.fst (Option.some.inj t2)
  refine ⟨?_, by rw [e0]; rfl⟩
  rw [t1, ← this]; rfl
theorem dc_p2 {k : Nat} {c o : Int32} (hk : k < 8) (hc : (c = 224 ∧ o = 27) ∨ (c = 208 ∧ o = 28)) (H : Hld row p (pair (nI k) c)) (hn : p + 5 ≤ n) : ∃ v, dc row n (p + 3) = some (o, 1, nI k, 0, 0, v, p + 5) := by
  obtain ⟨_, H1⟩ := hd_c H
  obtain ⟨_, H2⟩ := hd_c H1
  obtain ⟨_, H3⟩ := hd_c H2
  obtain ⟨e3, H4⟩ := hd_c H3
  have e4 := (hd_c H4).1
  have go : ∀ j, j < 8 → bt (c + nI k) = bt ((192 + 8 * nI j) + nI k) → gop (bt 255) (nI j) 1 = o → ¬ o = -1 → ∃ v, dc row n (p + 3) = some (o, 1, nI k, 0, 0, v, p + 5) := by
    intro j hj hb hg ho
    have H' : Hld row (p + 3) ((bt 255 :: [bt ((192 + 8 * nI j) + nI k)]) ++ []) := by
      intro t ht
      obtain rfl | rfl : t = 0 ∨ t = 1 := by simp at ht; omega
      · exact e3
      · show row (p + 1 + 1 + 1 + 1) = bt ((192 + 8 * nI j) + nI k)
        rw [← hb]; exact e4
    obtain ⟨v, t1, _⟩ := dcR (n := n) (o' := o) (f' := 1) (r' := nI k) (x'' := 0) hj hk H' (show p + 3 + (2 + 0) ≤ n by omega) (by decide) (show sd (bt 255) = (3, 27, 0, 0, 0) from by decide) (by decide) (by decide) (by unfold gf; rw [if_neg (show ¬ (3 : Int32) = 1 by decide), if_neg (show ¬ (3 : Int32) = 2 by decide), hg, if_neg ho, if_neg (show ¬ (1 : Int32) = 0 by decide), if_pos rfl]) (Or.inl ⟨rfl, rfl⟩)
    exact ⟨v, t1⟩
  rcases hc with ⟨rfl, rfl⟩ | ⟨rfl, rfl⟩
  · exact go 4 (by decide) (pairB k hk).1 (by decide) (by decide)
  · exact go 2 (by decide) (pairB k hk).2 (by decide) (by decide)
theorem dc_pop (hp : p < n) (h : row p = bt (88 + 1)) : dc row n p = some (20, 1, 1, 0, 0, 0, p + 1) := by
  unfold dc dB
  rw [if_pos hp, h, if_neg (by decide), show sd (bt (88 + 1)) = (0, 20, 1, 1, 0) from by decide]
  rfl
end
