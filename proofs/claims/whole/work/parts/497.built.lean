/-! ===== THE BUILT CODE keeps the POLICY ===== -/
section
variable {m : Nat} {s a b op fm r x d i : Nat → Int32} {lb : Nat → Int32} {el ln jl : Nat → Nat} {lg : Nat → Bool}
def ItO (m : Nat) (s a b op fm r x d i : Nat → Int32) : Prop := ∀ k, k < m → (s k = 9 ∧ POK (op k) (fm k) (r k) (x k) (i k)) ∨ (¬ s k = 9 ∧ FOK (s k) (a k) (b k))
theorem it_srt (h : ItO m s a b op fm r x d i) : SrtO m s := by
  intro k hk
  rcases h k hk with ⟨z, _⟩ | ⟨_, f⟩
  · simp [z]
  · rcases f with ⟨z, _⟩ | ⟨z | z, _⟩ | ⟨z, _⟩ | ⟨z, _⟩ | ⟨z | z, _⟩ | z | ⟨z, _⟩ <;> simp [z]
theorem pcF_l {pl : Nat → Nat} (hS : SrtO m s) (E : ELn m s op fm r x d i el) {k : Nat} (hk : k < m) : (pcF s a b op fm r x d i pl ln jl lg k).length = lnF s el lg k := by
  unfold pcF lnF
  rcases hS k hk with z | z | z | z | z | z | z | z | z | z
  · simp [z]
  · cases hg : lg k <;> simp [z, four]
  · cases hg : lg k <;> simp [z, four]
  · simp [z, four]
  · simp [z, four]
  · simp [z, pair]
  · simp [z, pair]
  · simp [z]
  · simp [z, four]
  · simp [z]; exact (E k hk z).symm
theorem lnF_O (hS : SrtO m s) (E : ELn m s op fm r x d i el) (hln : ∀ k, k < m → ln k = lnF s el lg k) : LnO m s ln := by
  intro k hk
  rw [hln k hk]
  have e12 := fun z : s k = 9 => el_le E hk z
  have e1 : s k = 9 → 1 ≤ el k := fun z => by rw [E k hk z]; exact (enc_l _ _ _ _ _ _).1
  refine ⟨(lnF_le e12).1, (lnF_le e12).2, fun z0 => ?_, fun z => ?_, fun z => ?_, fun z => ?_⟩
  · unfold lnF
    rcases hS k hk with z | z | z | z | z | z | z | z | z | z
    · exact absurd z z0
    · cases hg : lg k <;> simp [z]
    · cases hg : lg k <;> simp [z]
    · simp [z]
    · simp [z]
    · simp [z]
    · simp [z]
    · simp [z]
    · simp [z]
    · simp [z]; exact e1 z
  · unfold lnF
    rcases z with z | z | z <;> simp [z]
  · unfold lnF; simp [z]
  · unfold lnF; simp [z]
theorem wrA_G {pl : Nat → Nat} {f : Nat → Int32} : ∀ k, wrA s a b op fm r x d i pl ln jl lg f k = wGA s pl (pcF s a b op fm r x d i pl ln jl lg) (pair 1 224) f k := by
  intro k
  induction k with
  | zero => rfl
  | succ k ih =>
    show wr1 s a b op fm r x d i pl ln jl lg (wrA s a b op fm r x d i pl ln jl lg f k) k = wG s pl (pcF s a b op fm r x d i pl ln jl lg) (pair 1 224) (wGA s pl (pcF s a b op fm r x d i pl ln jl lg) (pair 1 224) f k) k
    rw [ih]; rfl
theorem rm_built (hS : SrtO m s) (E : ELn m s op fm r x d i el) (hln : ∀ k, k < m → ln k = lnF s el lg k) (hT : nx s b ln m ≤ 1024) : Rm m s a b op fm r x d i (plc s b ln) ln jl lg := by
  intro k hk
  have H : LnO m s ln := lnF_O hS E hln
  have e : (pcF s a b op fm r x d i (plc s b ln) ln jl lg k).length = ln k := by rw [pcF_l hS E hk, hln k hk]
  obtain ⟨g1, g2, g3, g4, _⟩ := sg (b := b) H hk
  have mo := nx_m (b := b) H (show k + 1 ≤ m from hk) (Nat.le_refl m)
  rw [e]
  exact ⟨(H k hk).1, by omega, fun z => ⟨(H k hk).2.2.2.2.1 z, by have := (g4 z).1; omega⟩⟩
/-- one ITEM'S piece -/
theorem crt_one (hI : ItO m s a b op fm r x d i) (E : ELn m s op fm r x d i el) (hln : ∀ k, k < m → ln k = lnF s el lg k) (J : JL m s a lb jl) (hsm : ∀ k, k < m → jmp s k → lg k = false → smI (dstF (plc s b ln) ln jl k)) {n : Nat} {row : Nat → Int32} (hn : n = nx s b ln m / 16 * 16 + 16) (hn2 : n ≤ 1024) (hrow : ∀ j, j < n → row j = wrA s a b op fm r x d i (plc s b ln) ln jl lg (flR (nx s b ln m)) m j) {k p : Nat} (hk : k < m) (c1 : plc s b ln k ≤ p ∧ p < plc s b ln k + ln k) (hc : ¬ mkC m s b ln p = 0) : CrtP row n (mkC m s b ln) p := by
  have hS : SrtO m s := it_srt hI
  have H : LnO m s ln := lnF_O hS E hln
  have hP : ∀ k, k < m → (pcF s a b op fm r x d i (plc s b ln) ln jl lg k).length = ln k := fun k hk => by rw [pcF_l hS E hk, hln k hk]
  have eR : ∀ j, j < n → row j = wGA s (plc s b ln) (pcF s a b op fm r x d i (plc s b ln) ln jl lg) (pair 1 224) (flR (nx s b ln m)) m j := fun j hj => by rw [hrow j hj, wrA_G]
  have top : ∀ k, k ≤ m → nx s b ln k < n := fun k hk => by have := nx_m (b := b) H hk (Nat.le_refl m); omega
  obtain ⟨g1, g2, g3, g4, g5, g6⟩ := sg (b := b) H hk
  have tk := top (k + 1) hk
  have HP : Hld row (plc s b ln k) (pcF s a b op fm r x d i (plc s b ln) ln jl lg k) := fun j hj => by
    have hj' : j < ln k := by rw [← hP k hk]; exact hj
    rw [eR _ (by omega)]; exact seg_1 H hP rfl hk hj'
  have CP : ∀ t, t < ln k → mkC m s b ln (plc s b ln k + t) = (mks s ln k).getD t 0 := fun t ht => seg_1 H (mks_l H) rfl hk ht
  have CE : mkC m s b ln (plc s b ln k + ln k) = 1 := C_1 H hk (by omega) (by omega) (by omega) (fun z => by have := (g4 z).2.2; have := (H k hk).2.2.2.2.1 z; omega)
  by_cases z5 : s k = 5 ∨ s k = 6
  · have l5 : ln k = 5 := by
      rcases z5 with z | z
      · exact (H k hk).2.2.2.2.2 z
      · exact (H k hk).2.2.2.1 (Or.inr (Or.inr z))
    have ra : inR (a k) := by
      rcases hI k hk with ⟨z, _⟩ | ⟨_, f⟩
      · exfalso; rw [z] at z5; exact absurd z5 (by decide)
      · rcases f with ⟨z, _⟩ | ⟨z, _⟩ | ⟨z, _⟩ | ⟨z, _⟩ | ⟨_, h, _⟩ | z | ⟨z, _⟩
        · exfalso; rw [z] at z5; exact absurd z5 (by decide)
        · exfalso; rcases z with z | z <;> (rw [z] at z5; exact absurd z5 (by decide))
        · exfalso; rw [z] at z5; exact absurd z5 (by decide)
        · exfalso; rw [z] at z5; exact absurd z5 (by decide)
        · exact h
        · exfalso; rw [z] at z5; exact absurd z5 (by decide)
        · exfalso; rw [z] at z5; exact absurd z5 (by decide)
    obtain ⟨kr, hr, er⟩ := inR_nI ra
    have CC : ∀ t, t < 5 → mkC m s b ln (plc s b ln k + t) = mk5.getD t 0 := fun t ht => by rw [CP t (by omega), mk_5 z5]
    have two : CrtP row n (mkC m s b ln) (plc s b ln k) ∧ CrtP row n (mkC m s b ln) (plc s b ln k + 3) := by
      rcases z5 with z | z
      · have ep : pcF s a b op fm r x d i (plc s b ln) ln jl lg k = pair (a k) 224 := by unfold pcF; simp [z]
        rw [ep, er] at HP
        exact crt_pair hr (Or.inl ⟨rfl, rfl⟩) HP (by omega) (by omega) CC (by rw [← l5]; exact CE) (fun y => absurd y (by decide))
      · have ep : pcF s a b op fm r x d i (plc s b ln) ln jl lg k = pair (a k) 208 := by unfold pcF; simp [z]
        rw [ep, er] at HP
        exact crt_pair hr (Or.inr ⟨rfl, rfl⟩) HP (by omega) (by omega) CC (by rw [← l5]; exact CE) (fun _ => by have := g5 (Or.inr (Or.inr z)); omega)
    obtain e | e | e | e | e : p = plc s b ln k ∨ p = plc s b ln k + 1 ∨ p = plc s b ln k + 2 ∨ p = plc s b ln k + 3 ∨ p = plc s b ln k + 4 := by omega
    · rw [e]; exact two.1
    · exact absurd (by rw [e]; exact CC 1 (by omega)) hc
    · exact absurd (by rw [e]; exact CC 2 (by omega)) hc
    · rw [e]; exact two.2
    · exact absurd (by rw [e]; exact CC 4 (by omega)) hc
  · have z0 : ¬ s k = 0 := fun z => by have := (H k hk).2.1 z; omega
    have Z : ∀ j, plc s b ln k < j → j < plc s b ln k + ln k → mkC m s b ln j = 0 := fun j j1 j2 => by rw [show j = plc s b ln k + (j - plc s b ln k) by omega, CP _ (by omega), mk_p z5 (by omega)]
    have ep : p = plc s b ln k := by
      rcases Nat.lt_or_ge (plc s b ln k) p with y | y
      · exact absurd (Z p y c1.2) hc
      · omega
    rw [ep]
    have C0 : mkC m s b ln (plc s b ln k) = 1 := by have := CP 0 (by omega); rw [mk_0 z0] at this; exact this
    have he : plc s b ln k + ln k ≤ plc s b ln k / 16 * 16 + 16 := by omega
    have tg : (s k = 1 ∨ s k = 2 ∨ s k = 3 ∨ s k = 8) → tgt n (mkC m s b ln) (((256 + nI (plc s b ln k)) + nI (plc s b ln k + ln k - plc s b ln k)) + dstF (plc s b ln) ln jl k) := by
      intro hs
      obtain ⟨l, _, _, _, j1, j2, _⟩ := J k hk hs
      have g := (sg (b := b) H j1).2.2.2.2.2 j2
      have hq := top (jl k + 1) j1
      refine tg_l (q := plc s b ln (jl k)) (by omega) hn2 (by rw [← g]; exact C_nx H j1) ?_
      rw [Nat.add_sub_cancel_left]
      unfold dstF
      exact dst_t _ _ _
    have lF := hln k hk
    rcases hI k hk with ⟨z9, P⟩ | ⟨z9, F⟩
    · have ep : pcF s a b op fm r x d i (plc s b ln) ln jl lg k = enc (op k) (fm k) (r k) (x k) (d k) (i k) := by unfold pcF; simp [z9]
      have eln := hP k hk
      rw [ep] at HP eln
      have dd := enc_dc (n := n) P HP (by rw [eln]; omega)
      rw [eln] at dd
      exact crt_d dd he Z C0 CE
    · rcases F with ⟨z, _⟩ | ⟨z | z, _⟩ | ⟨z, _, hb⟩ | ⟨z, h0, h4⟩ | ⟨z, _⟩ | z | ⟨z, _, hb⟩
      · exact absurd z z0
      · cases hg : lg k
        · have l2 : ln k = 2 := by rw [lF]; exact (lnF_2 (Or.inl z)).1 hg
          have ep : pcF s a b op fm r x d i (plc s b ln) ln jl lg k = [bt 235, bt (dstF (plc s b ln) ln jl k)] := by unfold pcF; simp [z, hg]
          rw [ep] at HP
          rw [l2] at Z CE he tg
          exact crt_p (dc_sh HP (by omega) (by decide) (show sd (bt 235) = (0, 24, 8, 0, 1) from by decide) (hsm k hk (Or.inl z) hg)) (by decide) he Z C0 (fun y => absurd y (by decide)) CE (fun _ => tg (Or.inl z))
        · have l2 : ln k = 5 := by rw [lF, (lnF_2 (Or.inl z)).2 hg, if_pos z]
          have ep : pcF s a b op fm r x d i (plc s b ln) ln jl lg k = bt 233 :: four (dstF (plc s b ln) ln jl k) := by unfold pcF; simp [z, hg]
          rw [ep] at HP
          rw [l2] at Z CE he tg
          exact crt_p (dc_w4 HP (by omega) (by decide) (show sd (bt 233) = (0, 24, 8, 0, 4) from by decide)) (by decide) he Z C0 (fun y => absurd y (by decide)) CE (fun _ => tg (Or.inl z))
      · have l2 : ln k = 5 := (H k hk).2.2.2.1 (Or.inl z)
        have ep : pcF s a b op fm r x d i (plc s b ln) ln jl lg k = bt 232 :: four (dstF (plc s b ln) ln jl k) := by unfold pcF; simp [z]
        rw [ep] at HP
        have g5' := g5 (Or.inl z)
        rw [l2] at Z CE he tg g5'
        exact crt_p (dc_w4 HP (by omega) (by decide) (show sd (bt 232) = (0, 26, 8, 0, 4) from by decide)) (by decide) he Z C0 (fun _ => g5') CE (fun _ => tg (Or.inr (Or.inr (Or.inl z))))
      · cases hg : lg k
        · have l2 : ln k = 2 := by rw [lF]; exact (lnF_2 (Or.inr z)).1 hg
          have ep : pcF s a b op fm r x d i (plc s b ln) ln jl lg k = [bt (112 + b k), bt (dstF (plc s b ln) ln jl k)] := by unfold pcF; simp [z, hg]
          obtain ⟨kb, h1, h2, h3, h5⟩ := coK hb
          rw [ep, h2] at HP
          rw [l2] at Z CE he tg
          exact crt_p (dc_sh HP (by omega) (sdB kb h1 h3 h5).2 (sdB kb h1 h3 h5).1 (hsm k hk (Or.inr z) hg)) (by decide) he Z C0 (fun y => absurd y (by decide)) CE (fun _ => tg (Or.inr (Or.inl z)))
        · have l2 : ln k = 6 := by rw [lF, (lnF_2 (Or.inr z)).2 hg, if_neg (by rw [z]; decide)]
          have ep : pcF s a b op fm r x d i (plc s b ln) ln jl lg k = bt 15 :: bt (128 + b k) :: four (dstF (plc s b ln) ln jl k) := by unfold pcF; simp [z, hg]
          rw [ep] at HP
          rw [l2] at Z CE he tg
          obtain ⟨rr, hd⟩ := dc_lb (n := n) hb HP (by omega)
          exact crt_p hd (by decide) he Z C0 (fun y => absurd y (by decide)) CE (fun _ => tg (Or.inr (Or.inl z)))
      · have l2 : ln k = 5 := (H k hk).2.2.2.1 (Or.inr (Or.inl z))
        have ep : pcF s a b op fm r x d i (plc s b ln) ln jl lg k = bt 232 :: four (16 * a k - ((256 + nI (plc s b ln k)) + nI (ln k))) := by unfold pcF; simp [z]
        rw [ep] at HP
        have g5' := g5 (Or.inr (Or.inl z))
        have t4 : tgt n (mkC m s b ln) (((256 + nI (plc s b ln k)) + nI (plc s b ln k + ln k - plc s b ln k)) + (16 * a k - ((256 + nI (plc s b ln k)) + nI (ln k)))) := by
          obtain ⟨ka, hka, ea⟩ := to_nI (m := 4) h0 4 rfl (by decide) h4
          rw [Nat.add_sub_cancel_left, sv_t, ea]
          exact Or.inl (sv_4 ka hka)
        rw [l2] at Z CE he g5' HP t4
        exact crt_p (dc_w4 HP (by omega) (by decide) (show sd (bt 232) = (0, 26, 8, 0, 4) from by decide)) (by decide) he Z C0 (fun _ => g5') CE (fun _ => t4)
      · exact absurd z z5
      · have l2 : ln k = 1 := (H k hk).2.2.2.2.1 z
        have ep : pcF s a b op fm r x d i (plc s b ln) ln jl lg k = [bt (88 + 1)] := by unfold pcF; simp [z]
        rw [ep] at HP
        rw [l2] at Z CE he
        exact crt_p (dc_pop (n := n) (by omega) (hd_c HP).1) (by decide) he Z C0 (fun y => absurd y (by decide)) CE (fun y => absurd y (by decide))
      · have l2 : ln k = 5 := by rw [lF]; unfold lnF; simp [z]
        have ep : pcF s a b op fm r x d i (plc s b ln) ln jl lg k = bt (184 + b k) :: four (256 + nI (plc s b ln (jl k))) := by unfold pcF; simp [z]
        obtain ⟨kb, h1, h2⟩ := inR_nI hb
        rw [ep, h2] at HP
        rw [l2] at Z CE he
        exact crt_p (dc_w4 HP (by omega) (sdM kb h1).2 (sdM kb h1).1) (by decide) he Z C0 (fun y => absurd y (by decide)) CE (fun y => absurd y (by decide))
theorem crt_built (hI : ItO m s a b op fm r x d i) (E : ELn m s op fm r x d i el) (hln : ∀ k, k < m → ln k = lnF s el lg k) (J : JL m s a lb jl) (hsm : ∀ k, k < m → jmp s k → lg k = false → smI (dstF (plc s b ln) ln jl k)) {n : Nat} {row : Nat → Int32} (hn : n = nx s b ln m / 16 * 16 + 16) (hn2 : n ≤ 1024) (hrow : ∀ j, j < n → row j = wrA s a b op fm r x d i (plc s b ln) ln jl lg (flR (nx s b ln m)) m j) : Crt row n (mkC m s b ln) := by
  have hS : SrtO m s := it_srt hI
  have H : LnO m s ln := lnF_O hS E hln
  have hP : ∀ k, k < m → (pcF s a b op fm r x d i (plc s b ln) ln jl lg k).length = ln k := fun k hk => by rw [pcF_l hS E hk, hln k hk]
  have eR : ∀ j, j < n → row j = wGA s (plc s b ln) (pcF s a b op fm r x d i (plc s b ln) ln jl lg) (pair 1 224) (flR (nx s b ln m)) m j := fun j hj => by rw [hrow j hj, wrA_G]
  have top : ∀ k, k ≤ m → nx s b ln k < n := fun k hk => by have := nx_m (b := b) H hk (Nat.le_refl m); omega
  refine ⟨by omega, hn2, by omega, fun p hp h16 => ?_, fun p hp hc => ?_⟩
  · by_cases t : nx s b ln m ≤ p
    · exact C_top H t
    · obtain ⟨k, hk, a1, a2⟩ := sg_ex (s := s) (b := b) (ln := ln) m p (by omega)
      obtain ⟨g1, g2, g3, g4, _⟩ := sg (b := b) H hk
      exact C_in H hk a1 a2 (by omega) (fun z => by have := (g4 z).2.1; omega)
  · by_cases t : nx s b ln m ≤ p
    · have e : row p = 244 := by
        rw [eR p hp, wGA_top H hP rfl m (Nat.le_refl _) p t]; unfold flR; rw [if_pos t]
      exact crt_p (dc_244 hp e) (by decide) (by omega) (fun j j1 j2 => by omega) (C_top H t) (fun z => absurd z (by decide)) (C_top H (by omega)) (fun z => absurd z (by decide))
    · obtain ⟨k, hk, a1, a2⟩ := sg_ex (s := s) (b := b) (ln := ln) m p (by omega)
      obtain ⟨g1, g2, g3, g4, g5, g6⟩ := sg (b := b) H hk
      have tk := top (k + 1) hk
      by_cases c2 : s k = 7 ∧ fit (plc s b ln k + 1) 5 ≤ p ∧ p < fit (plc s b ln k + 1) 5 + 5
      · obtain ⟨z, c3, c4⟩ := c2
        have g7 := g4 z
        have Hp : Hld row (fit (plc s b ln k + 1) 5) (pair (nI 1) 224) := fun j hj => by
          have hj5 : j < 5 := hj
          rw [eR _ (by omega)]; exact seg_2 H hP rfl hk z hj5
        have cC : ∀ t, t < 5 → mkC m s b ln (fit (plc s b ln k + 1) 5 + t) = mk5.getD t 0 := fun t ht => seg_2 H (mks_l H) rfl hk z ht
        obtain ⟨r1, r2⟩ := crt_pair (n := n) (C := mkC m s b ln) (show 1 < 8 by decide) (Or.inl ⟨rfl, rfl⟩) Hp (by omega) g7.2.1 cC (by rw [← g7.1]; exact C_nx H hk) (fun y => absurd y (by decide))
        obtain e | e | e | e | e : p = fit (plc s b ln k + 1) 5 ∨ p = fit (plc s b ln k + 1) 5 + 1 ∨ p = fit (plc s b ln k + 1) 5 + 2 ∨ p = fit (plc s b ln k + 1) 5 + 3 ∨ p = fit (plc s b ln k + 1) 5 + 4 := by omega
        · rw [e]; exact r1
        · exact absurd (by rw [e]; exact cC 1 (by omega)) hc
        · exact absurd (by rw [e]; exact cC 2 (by omega)) hc
        · rw [e]; exact r2
        · exact absurd (by rw [e]; exact cC 4 (by omega)) hc
      · by_cases c1 : plc s b ln k ≤ p ∧ p < plc s b ln k + ln k
        · exact crt_one hI E hln J hsm hn hn2 hrow hk c1 hc
        · have e : row p = 144 := by
            rw [eR p hp, seg_0 H hP rfl hk a1 a2 c1 (fun z y => c2 ⟨z, y⟩)]; unfold flR; rw [if_neg t]
          have q : ∀ p', (p' = p ∨ p' = p + 1) → mkC m s b ln p' = 1 := fun p' hp' => C_1 H hk (by omega) (by omega) (by omega) (fun z => by have y : ¬ (fit (plc s b ln k + 1) 5 ≤ p ∧ p < fit (plc s b ln k + 1) 5 + 5) := fun y => c2 ⟨z, y⟩; omega)
          exact crt_p (dc_144 hp e) (by decide) (by omega) (fun j j1 j2 => by omega) (q p (Or.inl rfl)) (fun y => absurd y (by decide)) (q (p + 1) (Or.inr rfl)) (fun y => absurd y (by decide))
/-! every byte is one -/
def AB (L : List Int32) : Prop := ∀ t, BY (L.getD t 0)
theorem by_0 : BY 0 := by unfold BY; decide
theorem ab_n : AB [] := fun _ => by_0
theorem ab_c {v : Int32} {L : List Int32} (h : AB L) : AB (bt v :: L) := fun t => by
  cases t with
  | zero => exact by_and v
  | succ t => exact h t
theorem ab_a {A B : List Int32} (hA : AB A) (hB : AB B) : AB (A ++ B) := by
  induction A with
  | nil => exact hB
  | cons v A ih =>
    intro t
    cases t with
    | zero => exact hA 0
    | succ t => exact ih (fun t => hA (t + 1)) t
theorem ab_i {c : Prop} [Decidable c] {A B : List Int32} (h1 : AB A) (h2 : AB B) : AB (if c then A else B) := by split <;> assumption
theorem ab_1 {v : Int32} : AB [bt v] := ab_c ab_n
theorem ab_2 {v w : Int32} : AB [bt v, bt w] := ab_c ab_1
theorem ab_4 {v : Int32} : AB (four v) := ab_c (ab_c (ab_c ab_1))
theorem ab_p {v w : Int32} : AB (pair v w) := ab_c (ab_c (ab_c (ab_c ab_1)))
theorem ab_lead (op fm r i : Int32) : AB (eLead op fm r i) := by
  unfold eLead
  exact ab_i ab_1 (ab_i ab_1 (ab_i ab_1 (ab_i ab_2 (ab_i ab_1 (ab_i ab_1 (ab_i ab_1 (ab_i ab_1 (ab_i ab_1 (ab_i ab_1 ab_1)))))))))
theorem ab_mem (k x d : Int32) : AB (eMem k x d) := by
  unfold eMem eMm eMd
  refine ab_a ?_ ?_
  · exact ab_i ab_1 ab_2
  · exact ab_i ab_4 (ab_i ab_1 ab_n)
theorem ab_enc (op fm r x d i : Int32) : AB (enc op fm r x d i) := by
  unfold enc eOp eVal
  exact ab_a (ab_a (ab_lead op fm r i) (ab_i (ab_i (ab_mem _ _ _) ab_1) ab_n)) (ab_i (ab_i ab_1 ab_4) ab_n)
theorem ab_pc {pl : Nat → Nat} (k : Nat) : AB (pcF s a b op fm r x d i pl ln jl lg k) := by
  unfold pcF
  exact ab_i ab_n (ab_i (ab_i (ab_c ab_4) ab_2) (ab_i (ab_i (ab_c (ab_c ab_4)) ab_2) (ab_i (ab_c ab_4) (ab_i (ab_c ab_4) (ab_i ab_p (ab_i ab_p (ab_i ab_1 (ab_i (ab_c ab_4) (ab_enc _ _ _ _ _ _)))))))))
theorem ab_wrt {f : Nat → Int32} {p : Nat} {L : List Int32} (hL : AB L) (hf : ∀ j, BY (f j)) (j : Nat) : BY (wrt f p L j) := by
  unfold wrt wrk
  by_cases c : p ≤ j ∧ j < p + L.length
  · rw [if_pos c]; exact hL _
  · rw [if_neg c]; exact hf j
theorem by_built {pl : Nat → Nat} {f : Nat → Int32} (hf : ∀ j, BY (f j)) : ∀ k j, BY (wrA s a b op fm r x d i pl ln jl lg f k j) := by
  intro k
  induction k with
  | zero => exact hf
  | succ k ih =>
    intro j
    show BY (wr1 s a b op fm r x d i pl ln jl lg (wrA s a b op fm r x d i pl ln jl lg f k) k j)
    unfold wr1
    by_cases z : s k = 7
    · rw [if_pos z]; exact ab_wrt ab_p (ab_wrt (ab_pc k) ih) j
    · rw [if_neg z]; exact ab_wrt (ab_pc k) ih j
theorem by_flR (T j : Nat) : BY (flR T j) := by
  unfold flR BY
  split <;> decide
end
