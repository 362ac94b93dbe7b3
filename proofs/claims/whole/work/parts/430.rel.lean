/-! ===== the class (cells 0..66 of σ) beside the reference (cells 67..96 of τ) ===== -/
abbrev isB (v : Int32) : Prop := v = 0 ∨ v = 1
def Rtape (c : Int32) (row : Nat → Int32) (c' : Int32) (row' : Nat → Int32) : Prop := ∃ n, n ≤ 1100 ∧ c = nI n ∧ c' = nI n ∧ (∀ j, j < n → BY (row j)) ∧ Eqn n row row'
def Rcode (c : Int32) (row mk : Nat → Int32) (c' : Int32) (row' mk' : Nat → Int32) : Prop := ∃ n, n ≤ 1024 ∧ c = nI n ∧ c' = nI n ∧ (∀ j, j < n → BY (row j)) ∧ Eqn n row row' ∧ Eqn n mk mk' ∧ (n = 0 ∨ Cod row n mk)
abbrev isLb (a : Int32) : Prop := ¬ a < 0 ∧ a < 40
abbrev isCo (c : Int32) : Prop := ¬ c < 0 ∧ ¬ 15 < c ∧ ¬ c = 10 ∧ ¬ c = 11
abbrev hsR (fm : Int32) : Prop := ¬ fm < 1 ∧ fm < 6
abbrev hsI (fm : Int32) : Prop := fm = 5 ∨ fm = 6 ∨ fm = 8
def FOK (s a b : Int32) : Prop := (s = 0 ∧ isLb a ∧ isB b) ∨ ((s = 1 ∨ s = 3) ∧ isLb a) ∨ (s = 2 ∧ isLb a ∧ isCo b) ∨ (s = 4 ∧ ¬ a < 0 ∧ a < 4) ∨ ((s = 5 ∨ s = 6) ∧ inR a ∧ ¬ a = 4) ∨ s = 7 ∨ (s = 8 ∧ isLb a ∧ inR b)
/-- which OP has which FORM -/
abbrev opF (op fm : Int32) : Prop :=
  (¬ op < 0 ∧ op < 9 ∧ ¬ fm < 2 ∧ fm < 7) ∨ (op = 9 ∧ (fm = 2 ∨ fm = 4)) ∨ (op = 10 ∧ fm = 3) ∨ (op = 11 ∧ (fm = 2 ∨ fm = 3)) ∨ ((op = 12 ∨ op = 13) ∧ (fm = 1 ∨ fm = 7)) ∨ ((op = 14 ∨ op = 15 ∨ op = 16) ∧ (fm = 5 ∨ fm = 6)) ∨ ((op = 17 ∨ op = 18 ∨ op = 20) ∧ fm = 1) ∨ (op = 19 ∧ (fm = 1 ∨ fm = 8)) ∨ ((op = 21 ∨ op = 22) ∧ fm = 0)
def POK (op fm r x i : Int32) : Prop := opF op fm ∧ (hsR fm → inR r) ∧ (fm = 2 → inR x) ∧ (memF fm → memX x ∧ ¬ (shr x 4) &&& 15 = 4 ∧ ((shr x 4) &&& 15 = 8 → shr x 8 = 0)) ∧ (op = 14 ∨ op = 15 ∨ op = 16 → ¬ i < 0 ∧ i < 256)
def Itm (s a b op fm r x d i ts top tfm tr tx td ti : Int32) : Prop :=
  ts = s ∧ ((s = 9 ∧ POK op fm r x i ∧ top = op ∧ tfm = fm ∧ tr = (if hsR fm then r else 0) ∧ tx = (if fm = 2 ∨ memF fm then x else 0) ∧ td = (if memF fm then d else 0) ∧ ti = (if hsI fm then i else 0)) ∨
    (¬ s = 9 ∧ FOK s a b ∧ tr = (if s = 7 then 1 else a) ∧ tx = (if s = 0 ∨ s = 2 ∨ s = 8 then b else 0)))
/-- the ITEMS, the reference's from o on -/
def Itms (o m : Nat) (s a b op fm r x d i ts top tfm tr tx td ti : Nat → Int32) : Prop := ∀ k, k < m → Itm (s k) (a k) (b k) (op k) (fm k) (r k) (x k) (d k) (i k) (ts (o + k)) (top (o + k)) (tfm (o + k)) (tr (o + k)) (tx (o + k)) (td (o + k)) (ti (o + k))
def Rdraft (c c' : Int32) (s a b op fm r x d i ts top tfm tr tx td ti : Nat → Int32) : Prop := ∃ m, m ≤ 120 ∧ c = nI m ∧ c' = nI m ∧ Itms 0 m s a b op fm r x d i ts top tfm tr tx td ti
/-- where ITEM q lets a WALK come back: its BUNDLE and the ITEM there -/
def Lnd (s b : Nat → Int32) (pl : Nat → Nat) (q j w : Nat) : Prop := (s q = 0 ∧ b q = 1 ∧ pl q = 16 * j ∧ w = q) ∨ ((s q = 3 ∨ s q = 4 ∨ s q = 6) ∧ pl q + 5 = 16 * j ∧ w = q + 1)
def Lay (m : Nat) (s a b : Nat → Int32) (lr ld tlr tlp : Nat → Int32) (pl : Nat → Nat) : Prop :=
  (∀ l, l < 40 → tlr (40 + l) = lr l ∧ (lr l = -1 ∨ ∃ k, k < m ∧ lr l = nI k ∧ tlp (40 + l) = nI (pl k))) ∧
  (∀ k, k < m → (s k = 1 ∨ s k = 2 ∨ s k = 3 ∨ s k = 8) → ¬ lr (a k).toNatClampNeg = -1) ∧
  (∀ q w j, q < m → Lnd s b pl q j w → j < 64) ∧ (∀ q, q < m → (s q = 0 ∧ b q = 1 → pl q % 16 = 0) ∧ (s q = 3 ∨ s q = 4 ∨ s q = 6 → (pl q + 5) % 16 = 0)) ∧
  (∀ j, j < 64 → (ld j = -100 ∧ ∀ q w, q < m → ¬ Lnd s b pl q j w) ∨ ∃ q w, q < m ∧ Lnd s b pl q j w ∧ ld j = nI w ∧ ∀ q' w', q' < m → Lnd s b pl q' j w' → w' ≤ w ∧ ∀ k, w' ≤ k → k < w → s k = 0)
def Rprog (f f' c c' tl tl' : Int32) (s a b op fm r x d i pr lr ld ts top tfm tr tx td ti tpr tlr tlp : Nat → Int32) : Prop :=
  f = f' ∧ isB f ∧ (f = 1 → ∃ m T pl, m ≤ 120 ∧ c = nI m ∧ c' = nI m ∧ T < 1024 ∧ tl = nI T ∧ tl' = nI T ∧ Itms 120 m s a b op fm r x d i ts top tfm tr tx td ti ∧
    (∀ k, k < m → pr k = nI (pl k) ∧ tpr (120 + k) = nI (pl k) ∧ pl k < 1024) ∧ Lay m s a b lr ld tlr tlp pl)
def Rfirst (hid ic ic' : Int32) (rg by1 inp rg' by1' inp' : Nat → Int32) : Prop := hid = 0 ∧ Eqn 8 rg rg' ∧ Eqn 1024 by1 by1' ∧ (∀ j, j < 1024 → BY (by1 j)) ∧ ∃ n, n ≤ 50 ∧ ic = nI n ∧ ic' = nI n ∧ Eqn n inp inp'
/-- what a RUN (w = 0) or a WALK (w = 1) left -/
def Rmach (w : Nat) (mo fl rg by1 ou ran reg flag mem out outs adr stp stop : Nat → Int32) : Prop :=
  mo 6 = ran w ∧ isB (mo 6) ∧ (mo 6 = 1 → (∀ j, j < 8 → rg j = reg (8 * w + j)) ∧ (∀ j, j < 4 → fl j = flag (4 * w + j)) ∧ (∀ j, j < 1024 → by1 j = mem (1024 * w + j)) ∧
    (∃ n, n ≤ 100 ∧ mo 13 = nI n ∧ outs w = nI n ∧ ∀ j, j < n → ou j = out (100 * w + j)) ∧ mo 1 = adr w ∧ mo 2 = stp w ∧ mo 3 = stop w)
def R (σ τ : St) : Prop :=
  Rtape (σ 1 2) (σ 2) (τ 67 2) (τ 68) ∧ (σ 0 14 = τ 67 3 ∧ σ 0 15 = τ 67 4) ∧ Rcode (σ 7 2) (σ 8) (σ 9) (τ 67 6) (τ 69) (τ 70) ∧
  Rdraft (σ 15 4) (τ 67 8) (σ 16) (σ 17) (σ 18) (σ 20) (σ 21) (σ 22) (σ 23) (σ 24) (σ 25) (τ 71) (τ 72) (τ 73) (τ 74) (τ 75) (τ 76) (τ 77) ∧
  Rprog (σ 0 13) (τ 67 10) (σ 33 4) (τ 67 9) (σ 33 5) (τ 67 55) (σ 34) (σ 35) (σ 36) (σ 38) (σ 39) (σ 40) (σ 41) (σ 42) (σ 43) (σ 37) (σ 44) (σ 45) (τ 71) (τ 72) (τ 73) (τ 74) (τ 75) (τ 76) (τ 77) (τ 78) (τ 80) (τ 79) ∧
  Rfirst (σ 46 5) (σ 46 10) (τ 67 29) (σ 48) (σ 49) (σ 50) (τ 84) (τ 85) (τ 86) ∧
  (Rmach 0 (σ 52) (σ 53) (σ 54) (σ 55) (σ 57) (τ 87) (τ 88) (τ 89) (τ 90) (τ 91) (τ 92) (τ 93) (τ 94) (τ 95) ∧ σ 52 4 = τ 67 39 ∧ σ 52 5 = 0) ∧
  (Rmach 1 (σ 58) (σ 59) (σ 60) (σ 61) (σ 63) (τ 87) (τ 88) (τ 89) (τ 90) (τ 91) (τ 92) (τ 93) (τ 94) (τ 95) ∧ (σ 58 6 = 1 → σ 58 4 = 0 ∧ σ 58 5 = τ 67 40) ∧ isB (σ 58 5))
theorem R_c {σ σ' τ τ' : St} (h1 : ∀ c, c < 67 → σ' c = σ c) (h2 : ∀ c, 67 ≤ c → c < 97 → τ' c = τ c) (h : R σ τ) : R σ' τ' := by
  unfold R at h ⊢
  simp only [h1 0 (by decide), h1 1 (by decide), h1 2 (by decide), h1 7 (by decide), h1 8 (by decide), h1 9 (by decide), h1 15 (by decide), h1 16 (by decide), h1 17 (by decide), h1 18 (by decide), h1 20 (by decide), h1 21 (by decide), h1 22 (by decide), h1 23 (by decide), h1 24 (by decide), h1 25 (by decide), h1 33 (by decide), h1 34 (by decide), h1 35 (by decide), h1 36 (by decide), h1 37 (by decide), h1 38 (by decide), h1 39 (by decide), h1 40 (by decide), h1 41 (by decide), h1 42 (by decide), h1 43 (by decide), h1 44 (by decide), h1 45 (by decide), h1 46 (by decide), h1 48 (by decide), h1 49 (by decide), h1 50 (by decide), h1 52 (by decide), h1 53 (by decide), h1 54 (by decide), h1 55 (by decide), h1 57 (by decide), h1 58 (by decide), h1 59 (by decide), h1 60 (by decide), h1 61 (by decide), h1 63 (by decide),
    h2 67 (by decide) (by decide), h2 68 (by decide) (by decide), h2 69 (by decide) (by decide), h2 70 (by decide) (by decide), h2 71 (by decide) (by decide), h2 72 (by decide) (by decide), h2 73 (by decide) (by decide), h2 74 (by decide) (by decide), h2 75 (by decide) (by decide), h2 76 (by decide) (by decide), h2 77 (by decide) (by decide), h2 78 (by decide) (by decide), h2 79 (by decide) (by decide), h2 80 (by decide) (by decide), h2 84 (by decide) (by decide), h2 85 (by decide) (by decide), h2 86 (by decide) (by decide), h2 87 (by decide) (by decide), h2 88 (by decide) (by decide), h2 89 (by decide) (by decide), h2 90 (by decide) (by decide), h2 91 (by decide) (by decide), h2 92 (by decide) (by decide), h2 93 (by decide) (by decide), h2 94 (by decide) (by decide), h2 95 (by decide) (by decide)]
  exact h
abbrev inC (c : Nat) : Prop := c < 67
abbrev inM (c : Nat) : Prop := 67 ≤ c ∧ c < 97
/-- one call on both sides -/
def TS (F G : St → Option (Int32 × St)) : Prop := ∀ σ τ, R σ τ → ∃ a σ' τ', F σ = some (a, σ') ∧ G τ = some (a, τ') ∧ R σ' τ'
theorem ts_one {F G : St → Option (Int32 × St)} (h : TS F G) (hF : ∀ σ r, F σ = some r → Fr inC σ r.2) (hG : ∀ σ r, G σ = some r → Fr inM σ r.2) {σ : St} (hR : R σ σ) : ∃ a σ1 σ2, F σ = some (a, σ1) ∧ G σ1 = some (a, σ2) ∧ R σ2 σ2 := by
  obtain ⟨a, σ1, _, e1, _, _⟩ := h σ σ hR
  have f1 := hF σ _ e1
  have hR1 : R σ σ1 := R_c (fun _ _ => rfl) (fun c h1 _ => f1 c (by show ¬ c < 67; omega)) hR
  obtain ⟨a', σ1', σ2, e1', e2, hR2⟩ := h σ σ1 hR1
  rw [e1] at e1'
  cases e1'
  have f2 := hG σ1 _ e2
  exact ⟨a, σ1, σ2, e1, e2, R_c (fun c h1 => f2 c (by show ¬ (67 ≤ c ∧ c < 97); omega)) (fun _ _ _ => rfl) hR2⟩
