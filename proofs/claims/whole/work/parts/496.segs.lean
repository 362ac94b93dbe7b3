/-! ===== what stands where in THE BUILT CODE ===== -/
/-- an ITEM'S piece and, behind a POP, its PAIR -/
def wG (s : Nat → Int32) (pl : Nat → Nat) (P : Nat → List Int32) (Q : List Int32) (f : Nat → Int32) (k : Nat) : Nat → Int32 :=
  if s k = 7 then wrt (wrt f (pl k) (P k)) (fit (pl k + 1) 5) Q else wrt f (pl k) (P k)
def wGA (s : Nat → Int32) (pl : Nat → Nat) (P : Nat → List Int32) (Q : List Int32) (f : Nat → Int32) : Nat → Nat → Int32
  | 0 => f
  | k + 1 => wG s pl P Q (wGA s pl P Q f k) k
def LnO (m : Nat) (s : Nat → Int32) (ln : Nat → Nat) : Prop := ∀ k, k < m → ln k ≤ 16 ∧ (s k = 0 → ln k = 0) ∧ (¬ s k = 0 → 1 ≤ ln k) ∧ (s k = 3 ∨ s k = 4 ∨ s k = 6 → ln k = 5) ∧ (s k = 7 → ln k = 1) ∧ (s k = 5 → ln k = 5)
section
variable {s : Nat → Int32} {pl : Nat → Nat} {P : Nat → List Int32} {Q : List Int32} {f : Nat → Int32} {k j : Nat}
theorem wG_out (h1 : ¬ (pl k ≤ j ∧ j < pl k + (P k).length)) (h2 : s k = 7 → ¬ (fit (pl k + 1) 5 ≤ j ∧ j < fit (pl k + 1) 5 + Q.length)) : wG s pl P Q f k j = f j := by
  unfold wG
  by_cases z : s k = 7
  · rw [if_pos z]; unfold wrt wrk; rw [if_neg (h2 z), if_neg h1]
  · rw [if_neg z]; unfold wrt wrk; rw [if_neg h1]
theorem wG_1 (h1 : pl k ≤ j ∧ j < pl k + (P k).length) (h2 : s k = 7 → ¬ (fit (pl k + 1) 5 ≤ j ∧ j < fit (pl k + 1) 5 + Q.length)) : wG s pl P Q f k j = (P k).getD (j - pl k) 0 := by
  unfold wG
  by_cases z : s k = 7
  · rw [if_pos z]; unfold wrt wrk; rw [if_neg (h2 z), if_pos h1]
  · rw [if_neg z]; unfold wrt wrk; rw [if_pos h1]
theorem wG_2 (z : s k = 7) (h : fit (pl k + 1) 5 ≤ j ∧ j < fit (pl k + 1) 5 + Q.length) : wG s pl P Q f k j = Q.getD (j - fit (pl k + 1) 5) 0 := by
  unfold wG
  rw [if_pos z]; unfold wrt wrk; rw [if_pos h]
theorem wG_c {g : Nat → Int32} (h : f j = g j) : wG s pl P Q f k j = wG s pl P Q g k j := by
  by_cases z : s k = 7
  · by_cases c : fit (pl k + 1) 5 ≤ j ∧ j < fit (pl k + 1) 5 + Q.length
    · rw [wG_2 z c, wG_2 z c]
    · by_cases c2 : pl k ≤ j ∧ j < pl k + (P k).length
      · rw [wG_1 c2 (fun _ => c), wG_1 c2 (fun _ => c)]
      · rw [wG_out c2 (fun _ => c), wG_out c2 (fun _ => c), h]
  · by_cases c2 : pl k ≤ j ∧ j < pl k + (P k).length
    · rw [wG_1 c2 (fun y => absurd y z), wG_1 c2 (fun y => absurd y z)]
    · rw [wG_out c2 (fun y => absurd y z), wG_out c2 (fun y => absurd y z), h]
end
section
variable {m : Nat} {s b : Nat → Int32} {ln : Nat → Nat}
theorem nx_m (H : LnO m s ln) {a c : Nat} (h1 : a ≤ c) (h2 : c ≤ m) : nx s b ln a ≤ nx s b ln c := by
  have := nx_mono (b := b) (fun k hk => ⟨(H k hk).1, (H k hk).2.1⟩) (c - a) a (by omega)
  rwa [show a + (c - a) = c by omega] at this
theorem sg (H : LnO m s ln) {k : Nat} (hk : k < m) : nx s b ln k ≤ plc s b ln k ∧ plc s b ln k + ln k ≤ nx s b ln (k + 1) ∧ plc s b ln k % 16 + ln k ≤ 16 ∧ (s k = 7 → nx s b ln (k + 1) = fit (plc s b ln k + 1) 5 + 5 ∧ fit (plc s b ln k + 1) 5 % 16 + 5 ≤ 16 ∧ plc s b ln k + 1 ≤ fit (plc s b ln k + 1) 5) ∧ (s k = 3 ∨ s k = 4 ∨ s k = 6 → plc s b ln k + ln k = plc s b ln k / 16 * 16 + 16) ∧ (s k = 0 → nx s b ln (k + 1) = plc s b ln k) := by
  obtain ⟨h1, h2, h3, h4, h5, _⟩ := H k hk
  have l := ly_le (s k) (b k) (ln k) (nx s b ln k) h1 h2
  have f := fit_le (nx s b ln k) (ln k) h1
  refine ⟨l.1, l.2.1, ?_, fun z => ?_, fun z => ?_, fun z => ?_⟩
  · unfold plc lyP
    by_cases z : s k = 3 ∨ s k = 4 ∨ s k = 6
    · have l5 := h4 z
      rw [if_pos z]; omega
    · rw [if_neg z]
      by_cases z0 : s k = 0 ∧ b k = 1
      · have l0 := h2 z0.1
        rw [if_pos z0]; omega
      · rw [if_neg z0]; exact f.2.2
  · have e : plc s b ln k = fit (nx s b ln k) (ln k) := by
      unfold plc lyP; rw [if_neg (by rw [z]; decide), if_neg (fun y => absurd (z.symm.trans y.1) (by decide))]
    have f2 := fit_le (plc s b ln k + 1) 5 (by omega)
    refine ⟨?_, f2.2.2, f2.1⟩
    show lyN (s k) (b k) (ln k) (nx s b ln k) = _
    unfold lyN
    rw [if_neg (by rw [z]; decide), if_pos z, ← e, h5 z]
  · have e : plc s b ln k = fit (nx s b ln k) (ln k) / 16 * 16 + 16 - ln k := by unfold plc lyP; rw [if_pos z]
    have l5 := h4 z
    rw [e]; omega
  · have l0 := h2 z
    show lyN (s k) (b k) (ln k) (nx s b ln k) = _
    unfold lyN
    rw [if_neg (by rw [z]; decide), if_neg (by rw [z]; decide)]
    show plc s b ln k + ln k = plc s b ln k
    omega
theorem sg_ex : ∀ (m j : Nat), j < nx s b ln m → ∃ k, k < m ∧ nx s b ln k ≤ j ∧ j < nx s b ln (k + 1) := by
  intro m
  induction m with
  | zero => intro j h; exact absurd h (Nat.not_lt_zero j)
  | succ m ih =>
    intro j h
    by_cases c : j < nx s b ln m
    · obtain ⟨k, h1, h2⟩ := ih j c
      exact ⟨k, by omega, h2⟩
    · exact ⟨m, by omega, by omega, h⟩
section
variable {P : Nat → List Int32} {Q : List Int32} {f : Nat → Int32}
theorem wGA_top (H : LnO m s ln) (hP : ∀ k, k < m → (P k).length = ln k) (hQ : Q.length = 5) : ∀ K, K ≤ m → ∀ j, nx s b ln K ≤ j → wGA s (plc s b ln) P Q f K j = f j := by
  intro K
  induction K with
  | zero => intro _ j _; rfl
  | succ K ih =>
    intro hK j hj
    obtain ⟨g1, g2, g3, g4, _⟩ := sg (b := b) H (show K < m by omega)
    show wG s (plc s b ln) P Q (wGA s (plc s b ln) P Q f K) K j = f j
    rw [wG_out (by rw [hP K (by omega)]; omega) (fun z => by rw [hQ]; have := (g4 z).1; omega)]
    exact ih (by omega) j (by omega)
theorem wGA_seg (H : LnO m s ln) (hP : ∀ k, k < m → (P k).length = ln k) (hQ : Q.length = 5) : ∀ K, K ≤ m → ∀ k, k < K → ∀ j, nx s b ln k ≤ j → j < nx s b ln (k + 1) → wGA s (plc s b ln) P Q f K j = wG s (plc s b ln) P Q f k j := by
  intro K
  induction K with
  | zero => intro _ k hk; omega
  | succ K ih =>
    intro hK k hk j h1 h2
    show wG s (plc s b ln) P Q (wGA s (plc s b ln) P Q f K) K j = _
    by_cases e : k = K
    · subst e
      exact wG_c (wGA_top H hP hQ k (by omega) j h1)
    · obtain ⟨g1, g2, g3, g4, _⟩ := sg (b := b) H (show K < m by omega)
      have mo := nx_m (b := b) H (show k + 1 ≤ K by omega) (show K ≤ m by omega)
      rw [wG_out (by omega) (fun z => by have := (g4 z).2.2; omega)]
      exact ih (by omega) k (by omega) j h1 h2
theorem seg_1 (H : LnO m s ln) (hP : ∀ k, k < m → (P k).length = ln k) (hQ : Q.length = 5) {k t : Nat} (hk : k < m) (ht : t < ln k) : wGA s (plc s b ln) P Q f m (plc s b ln k + t) = (P k).getD t 0 := by
  obtain ⟨g1, g2, g3, g4, _⟩ := sg (b := b) H hk
  rw [wGA_seg H hP hQ m (Nat.le_refl _) k hk _ (by omega) (by omega), wG_1 (by rw [hP k hk]; omega) (fun z => by have := (g4 z).2.2; have := (H k hk).2.2.2.2.1 z; omega), Nat.add_sub_cancel_left]
theorem seg_2 (H : LnO m s ln) (hP : ∀ k, k < m → (P k).length = ln k) (hQ : Q.length = 5) {k t : Nat} (hk : k < m) (z : s k = 7) (ht : t < 5) : wGA s (plc s b ln) P Q f m (fit (plc s b ln k + 1) 5 + t) = Q.getD t 0 := by
  obtain ⟨g1, g2, g3, g4, _⟩ := sg (b := b) H hk
  have g5 := g4 z
  rw [wGA_seg H hP hQ m (Nat.le_refl _) k hk _ (by omega) (by omega), wG_2 z (by rw [hQ]; omega), Nat.add_sub_cancel_left]
theorem seg_0 (H : LnO m s ln) (hP : ∀ k, k < m → (P k).length = ln k) (hQ : Q.length = 5) {k j : Nat} (hk : k < m) (h1 : nx s b ln k ≤ j) (h2 : j < nx s b ln (k + 1)) (h3 : ¬ (plc s b ln k ≤ j ∧ j < plc s b ln k + ln k)) (h4 : s k = 7 → ¬ (fit (plc s b ln k + 1) 5 ≤ j ∧ j < fit (plc s b ln k + 1) 5 + 5)) : wGA s (plc s b ln) P Q f m j = f j := by
  rw [wGA_seg H hP hQ m (Nat.le_refl _) k hk _ h1 h2, wG_out (by rw [hP k hk]; exact h3) (fun z => by rw [hQ]; exact h4 z)]
end
/-- the marks -/
def mk5 : List Int32 := [1, 0, 0, 2, 0]
def mks (s : Nat → Int32) (ln : Nat → Nat) (k : Nat) : List Int32 := if s k = 5 ∨ s k = 6 then mk5 else if s k = 0 then [] else 1 :: List.replicate (ln k - 1) 0
def mkC (m : Nat) (s b : Nat → Int32) (ln : Nat → Nat) : Nat → Int32 := wGA s (plc s b ln) (mks s ln) mk5 (fun _ => 1) m
theorem mks_l (H : LnO m s ln) : ∀ k, k < m → (mks s ln k).length = ln k := by
  intro k hk
  obtain ⟨h1, h2, h3, h4, h5, h6⟩ := H k hk
  unfold mks
  by_cases z : s k = 5 ∨ s k = 6
  · have : ln k = 5 := by
      rcases z with z | z
      · exact h6 z
      · exact h4 (Or.inr (Or.inr z))
    rw [if_pos z, this]; rfl
  · rw [if_neg z]
    by_cases z0 : s k = 0
    · rw [if_pos z0, h2 z0]; rfl
    · have := h3 z0
      rw [if_neg z0, List.length_cons, List.length_replicate]; omega
theorem rp0 (n u : Nat) : (List.replicate n (0 : Int32)).getD u 0 = 0 := by
  induction n generalizing u with
  | zero => rfl
  | succ n ih => cases u with
    | zero => rfl
    | succ u => exact ih u
theorem mk_0 {k : Nat} (z : ¬ s k = 0) : (mks s ln k).getD 0 0 = 1 := by
  unfold mks
  by_cases z5 : s k = 5 ∨ s k = 6
  · rw [if_pos z5]; rfl
  · rw [if_neg z5, if_neg z]; rfl
theorem mk_p {k t : Nat} (z : ¬ (s k = 5 ∨ s k = 6)) (ht : 0 < t) : (mks s ln k).getD t 0 = 0 := by
  obtain ⟨t, rfl⟩ : ∃ u, t = u + 1 := ⟨t - 1, by omega⟩
  unfold mks
  rw [if_neg z]
  by_cases z0 : s k = 0
  · rw [if_pos z0]; rfl
  · rw [if_neg z0]; exact rp0 _ t
theorem mk_5 {k t : Nat} (z : s k = 5 ∨ s k = 6) : (mks s ln k).getD t 0 = mk5.getD t 0 := by
  unfold mks; rw [if_pos z]
theorem C_top (H : LnO m s ln) {j : Nat} (h : nx s b ln m ≤ j) : mkC m s b ln j = 1 := wGA_top H (mks_l H) rfl m (Nat.le_refl _) j h
theorem C_in (H : LnO m s ln) {k q : Nat} (hk : k < m) (h1 : nx s b ln k ≤ q) (h2 : q < nx s b ln (k + 1)) (h3 : ¬ (plc s b ln k < q ∧ q < plc s b ln k + ln k)) (h4 : s k = 7 → ¬ (fit (plc s b ln k + 1) 5 < q ∧ q < fit (plc s b ln k + 1) 5 + 5)) : mkC m s b ln q = 1 := by
  by_cases c : s k = 7 ∧ fit (plc s b ln k + 1) 5 ≤ q ∧ q < fit (plc s b ln k + 1) 5 + 5
  · have e : q = fit (plc s b ln k + 1) 5 + 0 := by have := h4 c.1; omega
    rw [e]
    exact seg_2 H (mks_l H) rfl hk c.1 (by omega)
  · by_cases c2 : plc s b ln k ≤ q ∧ q < plc s b ln k + ln k
    · have e : q = plc s b ln k + 0 := by omega
      rw [e]
      unfold mkC
      rw [seg_1 H (mks_l H) rfl hk (by omega), mk_0 (fun z => by have := (H k hk).2.1 z; omega)]
    · exact seg_0 H (mks_l H) rfl hk h1 h2 c2 (fun z y => c ⟨z, y⟩)
theorem C_nx (H : LnO m s ln) {k : Nat} (hk : k ≤ m) : mkC m s b ln (nx s b ln k) = 1 := by
  by_cases t : nx s b ln m ≤ nx s b ln k
  · exact C_top H t
  · obtain ⟨k', hk', a1, a2⟩ := sg_ex (s := s) (b := b) (ln := ln) m (nx s b ln k) (by omega)
    have kk : k ≤ k' := by
      rcases Nat.lt_or_ge k' k with y | y
      · have := nx_m (b := b) H (show k' + 1 ≤ k from y) hk; omega
      · exact y
    have mo := nx_m (b := b) H kk (by omega)
    obtain ⟨g1, g2, g3, g4, _⟩ := sg (b := b) H hk'
    exact C_in H hk' a1 a2 (by omega) (fun z => by have := (g4 z).2.2; omega)
theorem C_1 (H : LnO m s ln) {k q : Nat} (hk : k < m) (h1 : nx s b ln k ≤ q) (h2 : q ≤ nx s b ln (k + 1)) (h3 : ¬ (plc s b ln k < q ∧ q < plc s b ln k + ln k)) (h4 : s k = 7 → ¬ (fit (plc s b ln k + 1) 5 < q ∧ q < fit (plc s b ln k + 1) 5 + 5)) : mkC m s b ln q = 1 := by
  by_cases c : q < nx s b ln (k + 1)
  · exact C_in H hk h1 c h3 h4
  · rw [show q = nx s b ln (k + 1) by omega]; exact C_nx H hk
end
section
variable {row C : Nat → Int32} {n p e : Nat}
theorem crt_p {op fm r x d i : Int32} (hd : dc row n p = some (op, fm, r, x, d, i, e)) (ho : ¬ op = 23 ∧ ¬ op = 27 ∧ ¬ op = 28) (he : e ≤ p / 16 * 16 + 16) (hz : ∀ j, p < j → j < e → C j = 0) (h1 : C p = 1) (h26 : op = 26 → e = p / 16 * 16 + 16) (h2 : C e = 1) (ht : op = 24 ∨ op = 25 ∨ op = 26 → tgt n C (((256 + nI p) + nI (e - p)) + i)) : CrtP row n C p :=
  ⟨op, fm, r, x, d, i, e, hd, ho.1, he, hz, by rw [if_neg (fun z => by rcases z with z | z; exact ho.2.1 z; exact ho.2.2 z)]; exact h1, fun z => by rcases z with z | z; exact h26 z; exact absurd z ho.2.2, Or.inr (Or.inl h2), ht⟩
theorem crt_d (h : DcP row n p e) (he : e ≤ p / 16 * 16 + 16) (hz : ∀ j, p < j → j < e → C j = 0) (h1 : C p = 1) (h2 : C e = 1) : CrtP row n C p := by
  obtain ⟨o, f, r, x, d, i, hd, q3, q4, q5, q6, q7, q8⟩ := h
  exact crt_p hd ⟨q3, q7, q8⟩ he hz h1 (fun z => absurd z q6) h2 (fun z => by rcases z with z | z | z; exact absurd z q4; exact absurd z q5; exact absurd z q6)
theorem crt_pair {k : Nat} {c o : Int32} (hk : k < 8) (hc : (c = 224 ∧ o = 27) ∨ (c = 208 ∧ o = 28)) (H : Hld row p (pair (nI k) c)) (hn : p + 5 ≤ n) (hb : p % 16 + 5 ≤ 16) (hC : ∀ t, t < 5 → C (p + t) = mk5.getD t 0) (c5 : C (p + 5) = 1) (he : o = 28 → p + 5 = p / 16 * 16 + 16) : CrtP row n C p ∧ CrtP row n C (p + 3) := by
  obtain ⟨v, hv⟩ := dc_p2 hk hc H hn
  obtain ⟨d1, d2⟩ := dc_p1 hk H hn
  have c0 : C p = 1 := hC 0 (by omega)
  have c1 : C (p + 1) = 0 := hC 1 (by omega)
  have c2 : C (p + 2) = 0 := hC 2 (by omega)
  have c3 : C (p + 3) = 2 := hC 3 (by omega)
  have c4 : C (p + 4) = 0 := hC 4 (by omega)
  constructor
  · refine ⟨4, 5, nI k, 0, 0, -16, p + 3, d1, by decide, by omega, fun j j1 j2 => ?_, by rw [if_neg (by decide)]; exact c0, fun z => absurd z (by decide), Or.inr (Or.inr ⟨c3, fun op' fm' r' x' d' i' e' hd' => ?_⟩), fun z => absurd z (by decide)⟩
    · obtain rfl | rfl : j = p + 1 ∨ j = p + 2 := by omega
      · exact c1
      · exact c2
    · rw [hv] at hd'
      cases hd'
      unfold msk
      rw [if_pos ⟨d2, rfl, rfl, rfl⟩]
  · have zz : ∀ j, p + 3 < j → j < p + 5 → C j = 0 := fun j j1 j2 => by rw [show j = p + 4 by omega]; exact c4
    rcases hc with ⟨rfl, rfl⟩ | ⟨rfl, rfl⟩
    · exact ⟨27, 1, nI k, 0, 0, v, p + 5, hv, by decide, by omega, zz, by rw [if_pos (by decide)]; exact c3, fun z => absurd z (by decide), Or.inr (Or.inl c5), fun z => absurd z (by decide)⟩
    · have he' := he rfl
      exact ⟨28, 1, nI k, 0, 0, v, p + 5, hv, by decide, by omega, zz, by rw [if_pos (by decide)]; exact c3, fun _ => by omega, Or.inr (Or.inl c5), fun z => absurd z (by decide)⟩
theorem tg_l {q : Nat} (hq : q < n) (hn : n ≤ 1024) (hC : C q = 1) {t : Int32} (ht : t = 256 + nI q) : tgt n C t := by
  have e : t - 256 = nI q := by rw [ht, Int32.add_comm, Int32.add_sub_cancel]
  refine Or.inr ⟨?_, ?_, ?_⟩
  · rw [e]; exact nI_pos (by omega)
  · rw [e]; exact nI_lt hq (by omega)
  · rw [e, nI_clamp (by omega)]; exact hC
theorem sv_t (X Y : Int32) : X + (Y - X) = Y := by rw [Int32.add_comm, Int32.sub_add_cancel]
theorem dst_t (A B D : Int32) : ((256 + A) + B) + (D - (A + B)) = 256 + D := by
  rw [Int32.add_assoc 256 A B, Int32.add_assoc 256 (A + B), sv_t]
theorem sv_4 : ∀ k, k < 4 → isS (16 * nI k) := by decide +kernel
end
