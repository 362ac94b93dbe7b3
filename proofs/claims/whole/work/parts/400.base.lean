/-! ===== the pure side: reading a store ===== -/
theorem s2_at (σ : St) (c k : Nat) (v : Int32) (c' k' : Nat) : s2 σ c k v c' k' = if c' = c then (if k' = k then v else σ c' k') else σ c' k' := by
  unfold s2 va_up upd
  by_cases h : c' = c
  · subst h; simp
  · simp [h]
theorem s2_ne {σ : St} {c k : Nat} {v : Int32} {c' : Nat} (h : c' ≠ c) : s2 σ c k v c' = σ c' := by
  unfold s2 va_up; simp [h]
theorem up_ne {σ : St} {c : Nat} {f : Nat → Int32} {c' : Nat} (h : c' ≠ c) : (va_up σ c f : St) c' = σ c' := by
  unfold va_up; simp [h]
theorem up_at (σ : St) (c : Nat) (f : Nat → Int32) (c' k' : Nat) : (va_up σ c f : St) c' k' = if c' = c then f k' else σ c' k' := by
  unfold va_up; by_cases h : c' = c <;> simp [h]
theorem s2_row (σ : St) (c k : Nat) (v : Int32) : s2 σ c k v c = upd (σ c) k v := by unfold s2 va_up; simp
theorem up_row (σ : St) (c : Nat) (f : Nat → Int32) : (va_up σ c f : St) c = f := by unfold va_up; simp
theorem upd_at (f : Nat → Int32) (k : Nat) (v : Int32) (j : Nat) : upd f k v j = if j = k then v else f j := rfl
/-! going through a method: it answers, and what holds behind it -/
def wp {α : Type} (x : Option (α × St)) (Q : α → St → Prop) : Prop := ∃ a σ, x = some (a, σ) ∧ Q a σ
def wv (x : Option St) (Q : St → Prop) : Prop := ∃ σ, x = some σ ∧ Q σ
theorem wp_mono {α : Type} {x : Option (α × St)} {Q R : α → St → Prop} (h : wp x Q) (k : ∀ a σ, Q a σ → R a σ) : wp x R := by
  obtain ⟨a, σ, e, q⟩ := h; exact ⟨a, σ, e, k a σ q⟩
theorem wv_mono {x : Option St} {Q R : St → Prop} (h : wv x Q) (k : ∀ σ, Q σ → R σ) : wv x R := by
  obtain ⟨σ, e, q⟩ := h; exact ⟨σ, e, k σ q⟩
theorem wp_some {α : Type} {a : α} {σ : St} {Q : α → St → Prop} : wp (some (a, σ)) Q ↔ Q a σ :=
  ⟨fun ⟨_, _, e, q⟩ => by cases e; exact q, fun q => ⟨a, σ, rfl, q⟩⟩
theorem wv_some {σ : St} {Q : St → Prop} : wv (some σ) Q ↔ Q σ :=
  ⟨fun ⟨_, e, q⟩ => by cases e; exact q, fun q => ⟨σ, rfl, q⟩⟩
theorem wp_nm {α γ : Type} {a : γ} {f : γ → Option (α × St)} {Q : α → St → Prop} : wp (nm a f) Q ↔ wp (f a) Q := Iff.rfl
theorem wv_nm {γ : Type} {a : γ} {f : γ → Option St} {Q : St → Prop} : wv (nm a f) Q ↔ wv (f a) Q := Iff.rfl
theorem wp_ite {α : Type} {c : Prop} [Decidable c] {A B : Option (α × St)} {Q : α → St → Prop} : wp (if c then A else B) Q ↔ (c → wp A Q) ∧ (¬ c → wp B Q) := by
  by_cases h : c <;> simp [h]
theorem wv_ite {c : Prop} [Decidable c] {A B : Option St} {Q : St → Prop} : wv (if c then A else B) Q ↔ (c → wv A Q) ∧ (¬ c → wv B Q) := by
  by_cases h : c <;> simp [h]
theorem wp_cl {α β : Type} {x : Option (β × St)} {f : β → St → Option (α × St)} {Q : α → St → Prop} : wp (cl x f) Q ↔ wp x (fun a σ => wp (f a σ) Q) := by
  unfold cl; cases x with
  | none => exact ⟨fun ⟨_, _, e, _⟩ => (by cases e), fun ⟨_, _, e, _⟩ => (by cases e)⟩
  | some q => exact (wp_some (a := q.1) (σ := q.2) (Q := fun a σ => wp (f a σ) Q)).symm
theorem wv_cl {β : Type} {x : Option (β × St)} {f : β → St → Option St} {Q : St → Prop} : wv (cl x f) Q ↔ wp x (fun a σ => wv (f a σ) Q) := by
  unfold cl; cases x with
  | none => exact ⟨fun ⟨_, e, _⟩ => (by cases e), fun ⟨_, _, e, _⟩ => (by cases e)⟩
  | some q => exact (wp_some (a := q.1) (σ := q.2) (Q := fun a σ => wv (f a σ) Q)).symm
theorem wp_cv {α : Type} {x : Option St} {f : St → Option (α × St)} {Q : α → St → Prop} : wp (cv x f) Q ↔ wv x (fun σ => wp (f σ) Q) := by
  unfold cv; cases x with
  | none => exact ⟨fun ⟨_, _, e, _⟩ => (by cases e), fun ⟨_, e, _⟩ => (by cases e)⟩
  | some q => exact (wv_some (σ := q) (Q := fun σ => wp (f σ) Q)).symm
theorem wv_cv {x : Option St} {f : St → Option St} {Q : St → Prop} : wv (cv x f) Q ↔ wv x (fun σ => wv (f σ) Q) := by
  unfold cv; cases x with
  | none => exact ⟨fun ⟨_, e, _⟩ => (by cases e), fun ⟨_, e, _⟩ => (by cases e)⟩
  | some q => exact (wv_some (σ := q) (Q := fun σ => wv (f σ) Q)).symm
/-! exact steps -/
theorem ld_in {β : Type} {σ : St} {c n : Nat} {i : Int32} {f : Int32 → Option β} (h : vp_in i n) : ld σ c n i f = f (σ c i.toNatClampNeg) := by unfold ld; rw [if_neg h]
theorem sa_in {β : Type} {σ : St} {c n : Nat} {i v : Int32} {f : St → Option β} (h : vp_in i n) : sa σ c n i v f = f (s2 σ c i.toNatClampNeg v) := by unfold sa; rw [if_neg h]
theorem ld_nI {β : Type} {σ : St} {c n k : Nat} {f : Int32 → Option β} (h : k < n) (hn : n < 2 ^ 31) : ld σ c n (nI k) f = f (σ c k) := by
  rw [ld_in (vp_in_nI h hn), nI_clamp (by omega)]
theorem sa_nI {β : Type} {σ : St} {c n k : Nat} {v : Int32} {f : St → Option β} (h : k < n) (hn : n < 2 ^ 31) : sa σ c n (nI k) v f = f (s2 σ c k v) := by
  rw [sa_in (vp_in_nI h hn), nI_clamp (by omega)]
theorem lr_in {β : Type} {σ : St} {c : Nat} {i : Int32} {f : Int32 → Option β} (hk : kd c = 900) (h : vp_in i (al c)) : lr σ c i f = f (σ c i.toNatClampNeg) := by unfold lr; rw [if_pos hk, ld_in h]
theorem sr_in {β : Type} {σ : St} {c : Nat} {i v : Int32} {f : St → Option β} (hk : kd c = 900) (h : vp_in i (al c)) : sr σ c i v f = f (s2 σ c i.toNatClampNeg v) := by unfold sr; rw [if_pos hk, sa_in h]
theorem zb_ok {β : Type} {v : Int32} {x : Option β} (h : v = 0 ∨ v = 1) : zb v x = x := by unfold zb; rw [if_pos h]
theorem zb_0 {β : Type} {x : Option β} : zb 0 x = x := zb_ok (Or.inl rfl)
theorem zb_1 {β : Type} {x : Option β} : zb 1 x = x := zb_ok (Or.inr rfl)
theorem cl_of {α β : Type} {a : α} {σ : St} {f : α → St → Option β} : cl (some (a, σ)) f = f a σ := rfl
theorem cv_of {β : Type} {σ : St} {f : St → Option β} : cv (some σ) f = f σ := rfl
theorem nm_of {α β : Type} {a : α} {f : α → β} : nm a f = f a := rfl
