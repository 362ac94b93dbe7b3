/-! ===== the BYTES of an ITEM ===== -/
def bt (v : Int32) : Int32 := v &&& 255
def four (v : Int32) : List Int32 := [bt v, bt (shr v 8), bt (shr v 16), bt (shr v 24)]
abbrev smI (v : Int32) : Prop := ¬ v < -128 ∧ ¬ 127 < v
/-- a row with a list in front -/
def pw (f : Nat → Int32) (L : List Int32) : Nat → Int32 := fun k => if k < L.length then L.getD k 0 else f k
theorem pw_nil (f : Nat → Int32) : pw f [] = f := by funext k; unfold pw; simp
theorem pw_snoc (f : Nat → Int32) (L : List Int32) (v : Int32) : upd (pw f L) L.length v = pw f (L ++ [v]) := by
  funext k
  rw [upd_at]; unfold pw
  by_cases h : k = L.length
  · subst h; simp
  · by_cases h2 : k < L.length
    · rw [if_neg h, if_pos h2, if_pos (by simp; omega)]
      simp [List.getD, List.getElem?_append_left h2]
    · rw [if_neg h, if_neg h2, if_neg (by simp; omega)]
/-- the class's piece -/
def cP (σ : St) (L : List Int32) : St := va_up (s2 σ 29 1 (nI L.length)) 30 (pw (σ 30) L)
theorem cP_row {σ : St} {L : List Int32} {c : Nat} (h1 : c ≠ 29) (h2 : c ≠ 30) : cP σ L c = σ c := by unfold cP; rw [up_ne h2, s2_ne h1]
theorem cP_n {σ : St} {L : List Int32} : cP σ L 29 1 = nI L.length := by unfold cP; rw [up_ne (by decide), s2_row, upd_s]
theorem cP_b {σ : St} {L : List Int32} : cP σ L 30 = pw (σ 30) L := by unfold cP; rw [up_row]
theorem cP_nil (σ : St) : s2 σ 29 1 0 = cP σ [] := by
  unfold cP
  rw [pw_nil]
  funext c j
  rw [up_at]
  by_cases h : c = 30
  · subst h; rw [if_pos rfl, s2_ne (by decide)]
  · rw [if_neg h]; rfl
theorem c_put {σ : St} {L : List Int32} (h : L.length < 16) (v : Int32) : Piece_put 29 v (cP σ L) = some (cP σ (L ++ [bt v])) := by
  unfold Piece_put
  rw [cP_n, if_neg (lf_nle 16 16 _ rfl h (by decide)), cc_29_0, sa_nI h (by decide), nm_of]
  congr 1
  funext c j
  have e1 : s2 (cP σ L) 30 L.length (v &&& 255) 29 1 = nI L.length := by rw [s2_ne (by decide), cP_n]
  rw [e1, nI_1]
  by_cases h1 : c = 29
  · subst h1
    rw [s2_row, s2_ne (by decide), upd_at]
    unfold cP
    rw [up_ne (by decide), up_ne (by decide), s2_row, s2_row, upd_at, upd_at]
    by_cases h2 : j = 1
    · rw [if_pos h2, if_pos h2]; simp
    · rw [if_neg h2, if_neg h2, if_neg h2]
  · rw [s2_ne h1]
    by_cases h2 : c = 30
    · subst h2
      rw [s2_row, cP_b, cP_b, ← pw_snoc]; rfl
    · rw [s2_ne h2, cP_row h1 h2, cP_row h1 h2]
theorem c_four {σ : St} {L : List Int32} (h : L.length ≤ 12) (v : Int32) : Piece_putFour 29 v (cP σ L) = some (cP σ (L ++ four v)) := by
  unfold Piece_putFour
  rw [c_put (by omega), cv_of, c_put (by simp; omega), cv_of, c_put (by simp; omega), cv_of, c_put (by simp; omega), cv_of]
  unfold four
  simp
/-- the reference's BYTES -/
def mP (τ : St) (L : List Int32) : St := va_up (s2 τ 67 25 (nI L.length)) 83 (pw (τ 83) L)
theorem mP_row {σ : St} {L : List Int32} {c : Nat} (h1 : c ≠ 67) (h2 : c ≠ 83) : mP σ L c = σ c := by unfold mP; rw [up_ne h2, s2_ne h1]
theorem mP_n {σ : St} {L : List Int32} : mP σ L 67 25 = nI L.length := by unfold mP; rw [up_ne (by decide), s2_row, upd_s]
theorem mP_f {σ : St} {L : List Int32} {k : Nat} (h : k ≠ 25) : mP σ L 67 k = σ 67 k := by unfold mP; rw [up_ne (by decide), s2_row, upd_ne h]
theorem mP_b {σ : St} {L : List Int32} : mP σ L 83 = pw (σ 83) L := by unfold mP; rw [up_row]
theorem mP_nil (σ : St) : s2 σ 67 25 0 = mP σ [] := by
  unfold mP
  rw [pw_nil]
  funext c j
  rw [up_at]
  by_cases h : c = 83
  · subst h; rw [if_pos rfl, s2_ne (by decide)]
  · rw [if_neg h]; rfl
theorem m_put {σ : St} {L : List Int32} (h : L.length < 16) (v : Int32) : Mo_put 67 v (mP σ L) = some (mP σ (L ++ [bt v])) := by
  unfold Mo_put
  rw [mP_n, cc_67_24, sa_nI h (by decide), nm_of]
  congr 1
  funext c j
  have e1 : s2 (mP σ L) 83 L.length (v &&& 255) 67 25 = nI L.length := by rw [s2_ne (by decide), mP_n]
  rw [e1, nI_1]
  by_cases h1 : c = 67
  · subst h1
    rw [s2_row, s2_ne (by decide), upd_at]
    unfold mP
    rw [up_ne (by decide), up_ne (by decide), s2_row, s2_row, upd_at, upd_at]
    by_cases h2 : j = 25
    · rw [if_pos h2, if_pos h2]; simp
    · rw [if_neg h2, if_neg h2, if_neg h2]
  · rw [s2_ne h1]
    by_cases h2 : c = 83
    · subst h2
      rw [s2_row, mP_b, mP_b, ← pw_snoc]; rfl
    · rw [s2_ne h2, mP_row h1 h2, mP_row h1 h2]
theorem m_four {σ : St} {L : List Int32} (h : L.length ≤ 12) (v : Int32) : Mo_putFour 67 v (mP σ L) = some (mP σ (L ++ four v)) := by
  unfold Mo_putFour
  rw [show FU = 19995 + 1 + 1 + 1 + 1 + 1 from rfl]
  rw [Mo_putFour_B2, if_neg (by decide), m_put (by omega), cv_of, nm_of]
  rw [Mo_putFour_B2, if_neg (by decide), m_put (by simp; omega), cv_of, nm_of]
  rw [Mo_putFour_B2, if_neg (by decide), m_put (by simp; omega), cv_of, nm_of]
  rw [Mo_putFour_B2, if_neg (by decide), m_put (by simp; omega), cv_of, nm_of]
  rw [Mo_putFour_B2, if_pos (by decide)]
  unfold four
  rw [show shr v 0 = v from sh_0 v, show (0 : Int32) + 8 = 8 from rfl, show (8 : Int32) + 8 = 16 from rfl, show (16 : Int32) + 8 = 24 from rfl]
  simp
theorem m_putR {σ : St} {L : List Int32} (h : L.length < 16) (k e : Int32) : Mo_putRegister 67 k e (mP σ L) = some (mP σ (L ++ [bt ((192 + 8 * k) + e)])) := by
  unfold Mo_putRegister; rw [m_put h, cv_of]
theorem cs_eq (v : Int32) (σ : St) : House_isSmall v σ = some (if smI v then 1 else 0, σ) := by
  unfold House_isSmall
  by_cases h1 : v < -128
  · rw [if_pos h1, if_neg (fun z => z.1 h1)]
  · rw [if_neg h1]
    by_cases h2 : 127 < v
    · rw [if_pos h2, if_neg (fun z => z.2 h2)]
    · rw [if_neg h2, if_pos ⟨h1, h2⟩]
theorem mes_eq (v : Int32) (σ : St) : Mo_isSmall v σ = some (if smI v then 1 else 0, σ) := cs_eq v σ
/-- the first BYTES, the k of /k, the BYTES of an operand, of I -/
def eLead (op fm r i : Int32) : List Int32 :=
  if op = 8 then [bt (if fm = 5 then 184 + r else if fm = 6 then 199 else if fm = 3 then 139 else 137)]
  else if op = 9 then [bt 133] else if op = 10 then [bt 141] else if op = 11 then [bt 15, bt 175]
  else if op = 12 ∨ op = 13 then [bt 247] else if op = 14 ∨ op = 15 ∨ op = 16 then [bt 193]
  else if op = 17 ∨ op = 18 ∨ op = 20 then [bt ((64 + 8 * (op - 17)) + r)]
  else if op = 19 then [bt (if fm = 1 then 80 + r else if smI i then 106 else 104)]
  else if op = 21 then [bt 144] else if op = 22 then [bt 244]
  else [bt (if fm = 5 ∨ fm = 6 then (if smI i then 131 else 129) else 8 * op + (if fm = 3 then 3 else 1))]
def eMid (op fm r x : Int32) : Int32 :=
  if fm = 2 then (if op = 11 then r else x) else if fm = 3 ∨ fm = 4 then r else if op = 8 then 0 else if op = 12 then 2 else if op = 13 then 3 else if op = 14 then 4 else if op = 15 then 5 else if op = 16 then 7 else op
def eMo (b d : Int32) : Int32 := if b = 8 ∨ (d = 0 ∧ ¬ b = 5) then 0 else if smI d then 1 else 2
def eMm (k b j s : Int32) (mo : Int32) : List Int32 :=
  if j = 8 ∧ ¬ b = 4 then [bt ((64 * mo + 8 * k) + (if b = 8 then 5 else b))] else [bt ((64 * mo + 8 * k) + 4), bt ((64 * s + 8 * (if j = 8 then 4 else j)) + (if b = 8 then 5 else b))]
def eMd (b mo d : Int32) : List Int32 := if b = 8 ∨ mo = 2 then four d else if mo = 1 then [bt d] else []
def eMem (k x d : Int32) : List Int32 := eMm k (x &&& 15) ((shr x 4) &&& 15) ((shr x 8) &&& 3) (eMo (x &&& 15) d) ++ eMd (x &&& 15) (eMo (x &&& 15) d) d
abbrev hsO (op fm : Int32) : Prop := (fm = 1 ∧ (op = 12 ∨ op = 13)) ∨ (¬ fm = 1 ∧ ¬ fm = 0 ∧ ¬ fm = 8 ∧ ¬ (fm = 5 ∧ op = 8))
def eOp (op fm r x d : Int32) : List Int32 :=
  if hsO op fm then (if memF fm then eMem (eMid op fm r x) x d else [bt ((192 + 8 * eMid op fm r x) + (if fm = 2 ∧ op = 11 then x else r))]) else []
abbrev isSh (op : Int32) : Prop := ¬ op < 14 ∧ ¬ 16 < op
def eVal (op fm i : Int32) : List Int32 := if fm = 5 ∨ fm = 6 ∨ fm = 8 then (if isSh op ∨ (¬ op = 8 ∧ smI i) then [bt i] else four i) else []
def enc (op fm r x d i : Int32) : List Int32 := (eLead op fm r i ++ eOp op fm r x d) ++ eVal op fm i
theorem itl {c : Prop} [Decidable c] {A B : List Int32} (h1 : A.length ≤ 2 ∧ 1 ≤ A.length) (h2 : B.length ≤ 2 ∧ 1 ≤ B.length) : (if c then A else B).length ≤ 2 ∧ 1 ≤ (if c then A else B).length := by split <;> assumption
theorem eLead_l (op fm r i : Int32) : (eLead op fm r i).length ≤ 2 ∧ 1 ≤ (eLead op fm r i).length := by
  unfold eLead
  repeat' (first | exact ⟨Nat.le_succ 1, Nat.le_refl 1⟩ | exact ⟨Nat.le_refl 2, Nat.le_succ 1⟩ | refine itl ?_ ?_)
theorem four_l (v : Int32) : (four v).length = 4 := rfl
theorem eMd_l (b mo d : Int32) : (eMd b mo d).length ≤ 4 := by
  unfold eMd; repeat' split
  all_goals simp [four]
theorem eMm_l (k b j s mo : Int32) : (eMm k b j s mo).length ≤ 2 ∧ 1 ≤ (eMm k b j s mo).length := by
  unfold eMm; split <;> simp
theorem eMem_l (k x d : Int32) : (eMem k x d).length ≤ 6 := by
  unfold eMem; rw [List.length_append]; have := (eMm_l k (x &&& 15) ((shr x 4) &&& 15) ((shr x 8) &&& 3) (eMo (x &&& 15) d)).1; have := eMd_l (x &&& 15) (eMo (x &&& 15) d) d; omega
theorem eOp_l (op fm r x d : Int32) : (eOp op fm r x d).length ≤ 6 := by
  unfold eOp
  by_cases h : hsO op fm
  · rw [if_pos h]
    by_cases h2 : memF fm
    · rw [if_pos h2]; exact eMem_l _ _ _
    · rw [if_neg h2]; show 1 ≤ 6; omega
  · rw [if_neg h]; show 0 ≤ 6; omega
theorem eVal_l (op fm i : Int32) : (eVal op fm i).length ≤ 4 := by
  unfold eVal; repeat' split
  all_goals simp [four]
theorem enc_l (op fm r x d i : Int32) : 1 ≤ (enc op fm r x d i).length ∧ (enc op fm r x d i).length ≤ 12 := by
  unfold enc; rw [List.length_append, List.length_append]
  have := eLead_l op fm r i; have := eOp_l op fm r x d; have := eVal_l op fm i; omega
