def Fr (P : Nat → Prop) (σ σ1 : St) : Prop := ∀ c, ¬ P c → σ1 c = σ c
theorem Fr.refl {P : Nat → Prop} {σ : St} : Fr P σ σ := fun _ _ => rfl
theorem Fr.trans {P : Nat → Prop} {σ σ1 σ2 : St} (h : Fr P σ σ1) (k : Fr P σ1 σ2) : Fr P σ σ2 := fun c hc => (k c hc).trans (h c hc)
theorem Fr.s2 {P : Nat → Prop} {σ σ1 : St} {c k : Nat} {v : Int32} (w : P c) (h : Fr P σ σ1) : Fr P σ (s2 σ1 c k v) := fun d hd => (s2_ne (fun e => hd (by subst e; exact w))).trans (h d hd)
theorem Fr.up {P : Nat → Prop} {σ σ1 : St} {c : Nat} {f : Nat → Int32} (w : P c) (h : Fr P σ σ1) : Fr P σ (va_up σ1 c f) := fun d hd => (up_ne (fun e => hd (by subst e; exact w))).trans (h d hd)
theorem ite_some {c : Prop} [d : Decidable c] {α : Type} {A B : Option α} {r : α} (h : (if c then A else B) = some r) : (c ∧ A = some r) ∨ (¬ c ∧ B = some r) := by
  by_cases q : c
  · rw [if_pos q] at h; exact Or.inl ⟨q, h⟩
  · rw [if_neg q] at h; exact Or.inr ⟨q, h⟩
theorem nm_some {α β : Type} {a : α} {f : α → Option β} {r : β} (h : nm a f = some r) : f a = some r := h
theorem lr_two {β : Type} {σ : St} {c : Nat} {i : Int32} {f : Int32 → Option β} {r : β} (h : lr σ c i f = some r) : kd c = 900 ∧ f (σ c i.toNatClampNeg) = some r := ⟨(lr_some h).1, (ld_some (lr_some h).2).2⟩
theorem sr_two {β : Type} {σ : St} {c : Nat} {i v : Int32} {f : St → Option β} {r : β} (h : sr σ c i v f = some r) : kd c = 900 ∧ f (s2 σ c i.toNatClampNeg v) = some r := ⟨(sr_some h).1, (sa_some (sr_some h).2).2⟩
theorem fr_Strip_addFour_B3 {P : Nat → Prop} : ∀ (n : Nat) (v0 : Nat) (v1 : Int32) (v2 : Int32) (σ : St) (r : St), P v0 → P (ch v0 0) → Strip_addFour_B3 n v0 v1 v2 σ = some r → Fr P σ r := by
  intro n
  induction n with
  | zero => intro v0 v1 v2 σ r w0 w1 h; unfold Strip_addFour_B3 at h; cases h
  | succ n ih =>
    intro v0 v1 v2 σ r w0 w1 h
    unfold Strip_addFour_B3 at h
    rcases ite_some h with ⟨_, h⟩ | ⟨_, h⟩
    · rw [← Option.some.inj h]; exact Fr.refl
    · rcases ite_some h with ⟨_, h⟩ | ⟨_, h⟩
      · replace h := nm_some h
        exact Fr.trans Fr.refl (ih _ _ _ _ _ w0 w1 h)
      · replace h := (sa_some h).2
        replace h := nm_some h
        replace h := nm_some h
        exact Fr.trans (Fr.s2 w0 (Fr.s2 w1 Fr.refl)) (ih _ _ _ _ _ w0 w1 h)
theorem fr_Strip_addFour {P : Nat → Prop} {v0 : Nat} {v1 : Int32} {σ : St} {r : St} (w0 : P v0) (w1 : P (ch v0 0)) (h : Strip_addFour v0 v1 σ = some r) : Fr P σ r := by
  unfold Strip_addFour at h
  exact Fr.trans Fr.refl (fr_Strip_addFour_B3  _ _ _ _ _ _ w0 w1 h)
theorem fr_Strip_byteAt {P : Nat → Prop} {v0 : Nat} {v1 : Int32} {σ : St} {r : Int32 × St} (h : Strip_byteAt v0 v1 σ = some r) : Fr P σ r.2 := by
  unfold Strip_byteAt at h
  rcases ite_some h with ⟨_, h⟩ | ⟨_, h⟩
  · rw [← Option.some.inj h]; exact Fr.refl
  · rcases ite_some h with ⟨_, h⟩ | ⟨_, h⟩
    · replace h := (ld_some h).2
      rw [← Option.some.inj h]; exact Fr.refl
    · rw [← Option.some.inj h]; exact Fr.refl
theorem fr_Strip_putPiece_B2 {P : Nat → Prop} : ∀ (n : Nat) (v0 : Nat) (v1 : Int32) (v2 : Nat) (v3 : Int32) (σ : St) (r : St), P (ch v0 0) → Strip_putPiece_B2 n v0 v1 v2 v3 σ = some r → Fr P σ r := by
  intro n
  induction n with
  | zero => intro v0 v1 v2 v3 σ r w0 h; unfold Strip_putPiece_B2 at h; cases h
  | succ n ih =>
    intro v0 v1 v2 v3 σ r w0 h
    unfold Strip_putPiece_B2 at h
    rcases ite_some h with ⟨_, h⟩ | ⟨_, h⟩
    · rw [← Option.some.inj h]; exact Fr.refl
    · rcases ite_some h with ⟨_, h⟩ | ⟨_, h⟩
      · replace h := nm_some h
        exact Fr.trans Fr.refl (ih _ _ _ _ _ _ w0 h)
      · rcases ite_some h with ⟨_, h⟩ | ⟨_, h⟩
        · replace h := nm_some h
          exact Fr.trans Fr.refl (ih _ _ _ _ _ _ w0 h)
        · replace h := (ld_some h).2
          replace h := (sa_some h).2
          replace h := nm_some h
          exact Fr.trans (Fr.s2 w0 Fr.refl) (ih _ _ _ _ _ _ w0 h)
theorem fr_Strip_putPiece {P : Nat → Prop} {v0 : Nat} {v1 : Int32} {v2 : Nat} {σ : St} {r : St} (w0 : P (ch v0 0)) (h : Strip_putPiece v0 v1 v2 σ = some r) : Fr P σ r := by
  unfold Strip_putPiece at h
  exact Fr.trans Fr.refl (fr_Strip_putPiece_B2  _ _ _ _ _ _ _ w0 h)
theorem fr_Strip_becomeFilling_B17 {P : Nat → Prop} : ∀ (n : Nat) (v0 : Nat) (v2 : Int32) (v3 : Int32) (σ : St) (r : St), P (ch v0 0) → Strip_becomeFilling_B17 n v0 v2 v3 σ = some r → Fr P σ r := by
  intro n
  induction n with
  | zero => intro v0 v2 v3 σ r w0 h; unfold Strip_becomeFilling_B17 at h; cases h
  | succ n ih =>
    intro v0 v2 v3 σ r w0 h
    unfold Strip_becomeFilling_B17 at h
    rcases ite_some h with ⟨_, h⟩ | ⟨_, h⟩
    · rw [← Option.some.inj h]; exact Fr.refl
    · rcases ite_some h with ⟨_, h⟩ | ⟨_, h⟩
      · replace h := (sa_some h).2
        replace h := nm_some h
        exact Fr.trans (Fr.s2 w0 Fr.refl) (ih _ _ _ _ _ w0 h)
      · replace h := (sa_some h).2
        replace h := nm_some h
        exact Fr.trans (Fr.s2 w0 Fr.refl) (ih _ _ _ _ _ w0 h)
theorem fr_Strip_becomeFilling {P : Nat → Prop} {v0 : Nat} {v1 : Int32} {v2 : Int32} {σ : St} {r : St} (w0 : P v0) (w1 : P (ch v0 0)) (h : Strip_becomeFilling v0 v1 v2 σ = some r) : Fr P σ r := by
  unfold Strip_becomeFilling at h
  replace h := nm_some h
  exact Fr.trans (Fr.s2 w0 Fr.refl) (fr_Strip_becomeFilling_B17  _ _ _ _ _ _ w1 h)
theorem fr_Strip_markAt {P : Nat → Prop} {v0 : Nat} {v1 : Int32} {σ : St} {r : Int32 × St} (h : Strip_markAt v0 v1 σ = some r) : Fr P σ r.2 := by
  unfold Strip_markAt at h
  rcases ite_some h with ⟨_, h⟩ | ⟨_, h⟩
  · rw [← Option.some.inj h]; exact Fr.refl
  · rcases ite_some h with ⟨_, h⟩ | ⟨_, h⟩
    · replace h := (ld_some h).2
      rw [← Option.some.inj h]; exact Fr.refl
    · rw [← Option.some.inj h]; exact Fr.refl
theorem fr_Strip_mark {P : Nat → Prop} {v0 : Nat} {v1 : Int32} {v2 : Int32} {σ : St} {r : St} (w0 : P (ch v0 1)) (h : Strip_mark v0 v1 v2 σ = some r) : Fr P σ r := by
  unfold Strip_mark at h
  rcases ite_some h with ⟨_, h⟩ | ⟨_, h⟩
  · rw [← Option.some.inj h]; exact Fr.refl
  · rcases ite_some h with ⟨_, h⟩ | ⟨_, h⟩
    · rw [← Option.some.inj h]; exact Fr.refl
    · replace h := (sa_some h).2
      rw [← Option.some.inj h]; exact (Fr.s2 w0 Fr.refl)
theorem fr_Strip_dropMarks_B2 {P : Nat → Prop} : ∀ (n : Nat) (v0 : Nat) (v1 : Int32) (σ : St) (r : St), P (ch v0 1) → Strip_dropMarks_B2 n v0 v1 σ = some r → Fr P σ r := by
  intro n
  induction n with
  | zero => intro v0 v1 σ r w0 h; unfold Strip_dropMarks_B2 at h; cases h
  | succ n ih =>
    intro v0 v1 σ r w0 h
    unfold Strip_dropMarks_B2 at h
    rcases ite_some h with ⟨_, h⟩ | ⟨_, h⟩
    · rw [← Option.some.inj h]; exact Fr.refl
    · replace h := (sa_some h).2
      replace h := nm_some h
      exact Fr.trans (Fr.s2 w0 Fr.refl) (ih _ _ _ _ w0 h)
theorem fr_Strip_dropMarks {P : Nat → Prop} {v0 : Nat} {σ : St} {r : St} (w0 : P (ch v0 1)) (h : Strip_dropMarks v0 σ = some r) : Fr P σ r := by
  unfold Strip_dropMarks at h
  exact Fr.trans Fr.refl (fr_Strip_dropMarks_B2  _ _ _ _ _ w0 h)
theorem fr_Strip_copyFrom {P : Nat → Prop} {v0 : Nat} {v1 : Nat} {σ : St} {r : St} (w0 : P v0) (w1 : P (ch v0 0)) (w2 : P (ch v0 1)) (h : Strip_copyFrom v0 v1 σ = some r) : Fr P σ r := by
  unfold Strip_copyFrom at h
  replace h := (cp_some h).2
  replace h := (cp_some h).2
  replace h := nm_some h
  rw [← Option.some.inj h]; exact (Fr.s2 w0 (Fr.up w2 (Fr.up w1 Fr.refl)))
theorem fr_Instruction_fill {P : Nat → Prop} {v0 : Nat} {v1 : Int32} {v2 : Int32} {v3 : Int32} {v4 : Int32} {v5 : Int32} {v6 : Int32} {σ : St} {r : St} (w0 : P v0) (h : Instruction_fill v0 v1 v2 v3 v4 v5 v6 σ = some r) : Fr P σ r := by
  unfold Instruction_fill at h
  replace h := nm_some h
  replace h := nm_some h
  replace h := nm_some h
  replace h := nm_some h
  replace h := nm_some h
  replace h := nm_some h
  rw [← Option.some.inj h]; exact (Fr.s2 w0 (Fr.s2 w0 (Fr.s2 w0 (Fr.s2 w0 (Fr.s2 w0 (Fr.s2 w0 Fr.refl))))))
theorem fr_Instruction_base {P : Nat → Prop} {v0 : Nat} {σ : St} {r : Int32 × St} (h : Instruction_base v0 σ = some r) : Fr P σ r.2 := by
  unfold Instruction_base at h
  rw [← Option.some.inj h]; exact Fr.refl
theorem fr_Instruction_index {P : Nat → Prop} {v0 : Nat} {σ : St} {r : Int32 × St} (h : Instruction_index v0 σ = some r) : Fr P σ r.2 := by
  unfold Instruction_index at h
  rw [← Option.some.inj h]; exact Fr.refl
theorem fr_Instruction_scale {P : Nat → Prop} {v0 : Nat} {σ : St} {r : Int32 × St} (h : Instruction_scale v0 σ = some r) : Fr P σ r.2 := by
  unfold Instruction_scale at h
  rw [← Option.some.inj h]; exact Fr.refl
theorem fr_Instruction_part {P : Nat → Prop} {v0 : Nat} {v1 : Int32} {σ : St} {r : Int32 × St} (h : Instruction_part v0 v1 σ = some r) : Fr P σ r.2 := by
  unfold Instruction_part at h
  rcases ite_some h with ⟨_, h⟩ | ⟨_, h⟩
  · rw [← Option.some.inj h]; exact Fr.refl
  · rcases ite_some h with ⟨_, h⟩ | ⟨_, h⟩
    · rw [← Option.some.inj h]; exact Fr.refl
    · rcases ite_some h with ⟨_, h⟩ | ⟨_, h⟩
      · rw [← Option.some.inj h]; exact Fr.refl
      · rcases ite_some h with ⟨_, h⟩ | ⟨_, h⟩
        · rw [← Option.some.inj h]; exact Fr.refl
        · rcases ite_some h with ⟨_, h⟩ | ⟨_, h⟩
          · rw [← Option.some.inj h]; exact Fr.refl
          · rcases ite_some h with ⟨_, h⟩ | ⟨_, h⟩
            · rw [← Option.some.inj h]; exact Fr.refl
            · rw [← Option.some.inj h]; exact Fr.refl
theorem fr_Reader_groupOp {P : Nat → Prop} {v0 : Nat} {v1 : Int32} {σ : St} {r : Int32 × St} (h : Reader_groupOp v0 v1 σ = some r) : Fr P σ r.2 := by
  unfold Reader_groupOp at h
  rcases ite_some h with ⟨_, h⟩ | ⟨_, h⟩
  · rcases ite_some h with ⟨_, h⟩ | ⟨_, h⟩
    · rw [← Option.some.inj h]; exact Fr.refl
    · rcases ite_some h with ⟨_, h⟩ | ⟨_, h⟩
      · rcases ite_some h with ⟨_, h⟩ | ⟨_, h⟩
        · rw [← Option.some.inj h]; exact Fr.refl
        · rw [← Option.some.inj h]; exact Fr.refl
      · rw [← Option.some.inj h]; exact Fr.refl
  · rcases ite_some h with ⟨_, h⟩ | ⟨_, h⟩
    · rcases ite_some h with ⟨_, h⟩ | ⟨_, h⟩
      · rw [← Option.some.inj h]; exact Fr.refl
      · rw [← Option.some.inj h]; exact Fr.refl
    · rcases ite_some h with ⟨_, h⟩ | ⟨_, h⟩
      · rcases ite_some h with ⟨_, h⟩ | ⟨_, h⟩
        · rw [← Option.some.inj h]; exact Fr.refl
        · rcases ite_some h with ⟨_, h⟩ | ⟨_, h⟩
          · rw [← Option.some.inj h]; exact Fr.refl
          · rw [← Option.some.inj h]; exact Fr.refl
      · rcases ite_some h with ⟨_, h⟩ | ⟨_, h⟩
        · rcases ite_some h with ⟨_, h⟩ | ⟨_, h⟩
          · rcases ite_some h with ⟨_, h⟩ | ⟨_, h⟩
            · rcases ite_some h with ⟨_, h⟩ | ⟨_, h⟩
              · rw [← Option.some.inj h]; exact Fr.refl
              · rw [← Option.some.inj h]; exact Fr.refl
            · rw [← Option.some.inj h]; exact Fr.refl
          · rw [← Option.some.inj h]; exact Fr.refl
        · rw [← Option.some.inj h]; exact Fr.refl
theorem fr_Reader_giveForm_B49 {P : Nat → Prop} {v0 : Nat} {t0 : Nat} {t1 : Int32} {σ : St} {r : St} (w0 : P t0) (w1 : P (ch v0 0)) (h : Reader_giveForm_B49 v0 t0 t1 σ = some r) : Fr P σ r := by
  unfold Reader_giveForm_B49 at h
  replace h := nm_some h
  rcases ite_some h with ⟨_, h⟩ | ⟨_, h⟩
  · replace h := nm_some h
    rw [← Option.some.inj h]; exact (Fr.s2 w1 (Fr.s2 w0 Fr.refl))
  · replace h := nm_some h
    rw [← Option.some.inj h]; exact (Fr.s2 w1 (Fr.s2 w0 Fr.refl))
theorem fr_Reader_giveForm_B24 {P : Nat → Prop} {v0 : Nat} {t0 : Nat} {t1 : Int32} {σ : St} {r : St} (w0 : P t0) (w1 : P (ch v0 0)) (h : Reader_giveForm_B24 v0 t0 t1 σ = some r) : Fr P σ r := by
  unfold Reader_giveForm_B24 at h
  replace h := nm_some h
  rcases ite_some h with ⟨_, h⟩ | ⟨_, h⟩
  · exact Fr.trans (Fr.s2 w0 Fr.refl) (fr_Reader_giveForm_B49  w1 w1 h)
  · exact Fr.trans (Fr.s2 w0 Fr.refl) (fr_Reader_giveForm_B49  w1 w1 h)
theorem fr_Reader_giveForm_B142 {P : Nat → Prop} {v0 : Nat} {t0 : Nat} {t1 : Int32} {σ : St} {r : St} (w0 : P t0) (w1 : P (ch v0 0)) (h : Reader_giveForm_B142 v0 t0 t1 σ = some r) : Fr P σ r := by
  unfold Reader_giveForm_B142 at h
  replace h := nm_some h
  replace h := nm_some h
  rcases ite_some h with ⟨_, h⟩ | ⟨_, h⟩
  · replace h := nm_some h
    rw [← Option.some.inj h]; exact (Fr.s2 w1 (Fr.s2 w1 (Fr.s2 w0 Fr.refl)))
  · replace h := nm_some h
    rw [← Option.some.inj h]; exact (Fr.s2 w1 (Fr.s2 w1 (Fr.s2 w0 Fr.refl)))
theorem fr_Reader_giveForm_B123 {P : Nat → Prop} {v0 : Nat} {t0 : Nat} {t1 : Int32} {σ : St} {r : St} (w0 : P t0) (w1 : P (ch v0 0)) (h : Reader_giveForm_B123 v0 t0 t1 σ = some r) : Fr P σ r := by
  unfold Reader_giveForm_B123 at h
  replace h := (zb_some h).2
  replace h := nm_some h
  rcases ite_some h with ⟨_, h⟩ | ⟨_, h⟩
  · exact Fr.trans (Fr.s2 w0 Fr.refl) (fr_Reader_giveForm_B142  w1 w1 h)
  · exact Fr.trans (Fr.s2 w0 Fr.refl) (fr_Reader_giveForm_B142  w1 w1 h)
theorem fr_Reader_giveForm_B270 {P : Nat → Prop} {v0 : Nat} {t0 : Nat} {t1 : Int32} {σ : St} {r : St} (w0 : P t0) (w1 : P (ch v0 0)) (h : Reader_giveForm_B270 v0 t0 t1 σ = some r) : Fr P σ r := by
  unfold Reader_giveForm_B270 at h
  replace h := nm_some h
  rcases ite_some h with ⟨_, h⟩ | ⟨_, h⟩
  · replace h := nm_some h
    rw [← Option.some.inj h]; exact (Fr.s2 w1 (Fr.s2 w0 Fr.refl))
  · replace h := nm_some h
    rw [← Option.some.inj h]; exact (Fr.s2 w1 (Fr.s2 w0 Fr.refl))
theorem fr_Reader_giveForm_B253 {P : Nat → Prop} {v0 : Nat} {v2 : Int32} {t0 : Int32} {σ : St} {r : St} (w0 : P (ch v0 0)) (h : Reader_giveForm_B253 v0 v2 t0 σ = some r) : Fr P σ r := by
  unfold Reader_giveForm_B253 at h
  rcases ite_some h with ⟨_, h⟩ | ⟨_, h⟩
  · exact Fr.trans Fr.refl (fr_Reader_giveForm_B270  w0 w0 h)
  · exact Fr.trans Fr.refl (fr_Reader_giveForm_B270  w0 w0 h)
theorem fr_Reader_giveForm {P : Nat → Prop} {v0 : Nat} {v1 : Int32} {σ : St} {r : St} (w0 : P v0) (w1 : P (ch v0 0)) (h : Reader_giveForm v0 v1 σ = some r) : Fr P σ r := by
  unfold Reader_giveForm at h
  rcases ite_some h with ⟨_, h⟩ | ⟨_, h⟩
  · rcases ite_some h with ⟨_, h⟩ | ⟨_, h⟩
    · obtain ⟨_, σ1, e1, h⟩ := cl_some h
      have f1 : Fr P _ _ := Fr.trans Fr.refl (fr_Reader_groupOp   e1)
      replace h := nm_some h
      rcases ite_some h with ⟨_, h⟩ | ⟨_, h⟩
      · replace h := nm_some h
        rcases ite_some h with ⟨_, h⟩ | ⟨_, h⟩
        · rcases ite_some h with ⟨_, h⟩ | ⟨_, h⟩
          · exact Fr.trans (Fr.s2 w0 (Fr.s2 w1 f1)) (fr_Reader_giveForm_B253  w1 h)
          · exact Fr.trans (Fr.s2 w0 (Fr.s2 w1 f1)) (fr_Reader_giveForm_B253  w1 h)
        · rcases ite_some h with ⟨_, h⟩ | ⟨_, h⟩
          · exact Fr.trans (Fr.s2 w0 (Fr.s2 w1 f1)) (fr_Reader_giveForm_B253  w1 h)
          · exact Fr.trans (Fr.s2 w0 (Fr.s2 w1 f1)) (fr_Reader_giveForm_B253  w1 h)
      · rcases ite_some h with ⟨_, h⟩ | ⟨_, h⟩
        · replace h := nm_some h
          rcases ite_some h with ⟨_, h⟩ | ⟨_, h⟩
          · rcases ite_some h with ⟨_, h⟩ | ⟨_, h⟩
            · exact Fr.trans (Fr.s2 w0 (Fr.s2 w1 f1)) (fr_Reader_giveForm_B253  w1 h)
            · exact Fr.trans (Fr.s2 w0 (Fr.s2 w1 f1)) (fr_Reader_giveForm_B253  w1 h)
          · rcases ite_some h with ⟨_, h⟩ | ⟨_, h⟩
            · exact Fr.trans (Fr.s2 w0 (Fr.s2 w1 f1)) (fr_Reader_giveForm_B253  w1 h)
            · exact Fr.trans (Fr.s2 w0 (Fr.s2 w1 f1)) (fr_Reader_giveForm_B253  w1 h)
        · replace h := nm_some h
          rcases ite_some h with ⟨_, h⟩ | ⟨_, h⟩
          · rcases ite_some h with ⟨_, h⟩ | ⟨_, h⟩
            · exact Fr.trans (Fr.s2 w0 (Fr.s2 w1 f1)) (fr_Reader_giveForm_B253  w1 h)
            · exact Fr.trans (Fr.s2 w0 (Fr.s2 w1 f1)) (fr_Reader_giveForm_B253  w1 h)
          · rcases ite_some h with ⟨_, h⟩ | ⟨_, h⟩
            · exact Fr.trans (Fr.s2 w0 (Fr.s2 w1 f1)) (fr_Reader_giveForm_B253  w1 h)
            · exact Fr.trans (Fr.s2 w0 (Fr.s2 w1 f1)) (fr_Reader_giveForm_B253  w1 h)
    · rcases ite_some h with ⟨_, h⟩ | ⟨_, h⟩
      · exact Fr.trans Fr.refl (fr_Reader_giveForm_B123  w0 w1 h)
      · rcases ite_some h with ⟨_, h⟩ | ⟨_, h⟩
        · exact Fr.trans Fr.refl (fr_Reader_giveForm_B123  w0 w1 h)
        · rcases ite_some h with ⟨_, h⟩ | ⟨_, h⟩
          · exact Fr.trans Fr.refl (fr_Reader_giveForm_B123  w0 w1 h)
          · exact Fr.trans Fr.refl (fr_Reader_giveForm_B123  w0 w1 h)
  · rcases ite_some h with ⟨_, h⟩ | ⟨_, h⟩
    · exact Fr.trans Fr.refl (fr_Reader_giveForm_B24  w1 w1 h)
    · exact Fr.trans Fr.refl (fr_Reader_giveForm_B24  w1 w1 h)
theorem fr_Reader_expect {P : Nat → Prop} {v0 : Nat} {v1 : Int32} {v2 : Int32} {v3 : Int32} {v4 : Int32} {σ : St} {r : St} (w0 : P v0) (w1 : P (ch v0 0)) (h : Reader_expect v0 v1 v2 v3 v4 σ = some r) : Fr P σ r := by
  unfold Reader_expect at h
  replace h := nm_some h
  replace h := nm_some h
  replace h := nm_some h
  replace h := nm_some h
  rw [← Option.some.inj h]; exact (Fr.s2 w0 (Fr.s2 w1 (Fr.s2 w1 (Fr.s2 w1 Fr.refl))))
theorem fr_House_isCondition {P : Nat → Prop} {v0 : Int32} {σ : St} {r : Int32 × St} (h : House_isCondition v0 σ = some r) : Fr P σ r.2 := by
  unfold House_isCondition at h
  rcases ite_some h with ⟨_, h⟩ | ⟨_, h⟩
  · rw [← Option.some.inj h]; exact Fr.refl
  · rcases ite_some h with ⟨_, h⟩ | ⟨_, h⟩
    · rw [← Option.some.inj h]; exact Fr.refl
    · rcases ite_some h with ⟨_, h⟩ | ⟨_, h⟩
      · rw [← Option.some.inj h]; exact Fr.refl
      · rcases ite_some h with ⟨_, h⟩ | ⟨_, h⟩
        · rw [← Option.some.inj h]; exact Fr.refl
        · rw [← Option.some.inj h]; exact Fr.refl
theorem fr_Reader_expectBranch_B20 {P : Nat → Prop} {v0 : Nat} {v1 : Int32} {v2 : Int32} {t0 : Nat} {t1 : Int32} {σ : St} {r : St} (w0 : P t0) (w1 : P v0) (w2 : P (ch v0 0)) (h : Reader_expectBranch_B20 v0 v1 v2 t0 t1 σ = some r) : Fr P σ r := by
  unfold Reader_expectBranch_B20 at h
  replace h := (zb_some h).2
  replace h := nm_some h
  obtain ⟨σ2, e2, h⟩ := cv_some h
  have f2 : Fr P _ _ := Fr.trans (Fr.s2 w0 Fr.refl) (fr_Reader_expect  w1 w2 e2)
  rw [← Option.some.inj h]; exact f2
theorem fr_Reader_expectBranch {P : Nat → Prop} {v0 : Nat} {v1 : Int32} {v2 : Int32} {σ : St} {r : St} (w0 : P v0) (w1 : P (ch v0 0)) (h : Reader_expectBranch v0 v1 v2 σ = some r) : Fr P σ r := by
  unfold Reader_expectBranch at h
  rcases ite_some h with ⟨_, h⟩ | ⟨_, h⟩
  · exact Fr.trans Fr.refl (fr_Reader_expectBranch_B20  w0 w0 w1 h)
  · obtain ⟨_, σ1, e1, h⟩ := cl_some h
    have f1 : Fr P _ _ := Fr.trans Fr.refl (fr_House_isCondition   e1)
    rcases ite_some h with ⟨_, h⟩ | ⟨_, h⟩
    · exact Fr.trans f1 (fr_Reader_expectBranch_B20  w0 w0 w1 h)
    · exact Fr.trans f1 (fr_Reader_expectBranch_B20  w0 w0 w1 h)
theorem fr_Reader_expectOperand {P : Nat → Prop} {v0 : Nat} {v1 : Int32} {v2 : Int32} {v3 : Int32} {σ : St} {r : St} (w0 : P v0) (w1 : P (ch v0 0)) (h : Reader_expectOperand v0 v1 v2 v3 σ = some r) : Fr P σ r := by
  unfold Reader_expectOperand at h
  replace h := nm_some h
  replace h := nm_some h
  replace h := nm_some h
  rw [← Option.some.inj h]; exact (Fr.s2 w0 (Fr.s2 w1 (Fr.s2 w0 Fr.refl)))
theorem fr_Reader_shapeArithmetic {P : Nat → Prop} {v0 : Nat} {v1 : Int32} {σ : St} {r : St} (w0 : P v0) (w1 : P (ch v0 0)) (h : Reader_shapeArithmetic v0 v1 σ = some r) : Fr P σ r := by
  unfold Reader_shapeArithmetic at h
  rcases ite_some h with ⟨_, h⟩ | ⟨_, h⟩
  · rcases ite_some h with ⟨_, h⟩ | ⟨_, h⟩
    · replace h := nm_some h
      rw [← Option.some.inj h]; exact (Fr.s2 w0 Fr.refl)
    · obtain ⟨σ2, e2, h⟩ := cv_some h
      have f2 : Fr P _ _ := Fr.trans Fr.refl (fr_Reader_expectOperand  w0 w1 e2)
      rw [← Option.some.inj h]; exact f2
  · obtain ⟨σ3, e3, h⟩ := cv_some h
    have f3 : Fr P _ _ := Fr.trans Fr.refl (fr_Reader_expectOperand  w0 w1 e3)
    rw [← Option.some.inj h]; exact f3
theorem fr_Reader_shapeOther {P : Nat → Prop} {v0 : Nat} {v1 : Int32} {σ : St} {r : St} (w0 : P v0) (w1 : P (ch v0 0)) (h : Reader_shapeOther v0 v1 σ = some r) : Fr P σ r := by
  unfold Reader_shapeOther at h
  rcases ite_some h with ⟨_, h⟩ | ⟨_, h⟩
  · obtain ⟨σ1, e1, h⟩ := cv_some h
    have f1 : Fr P _ _ := Fr.trans Fr.refl (fr_Reader_expect  w0 w1 e1)
    rw [← Option.some.inj h]; exact f1
  · rcases ite_some h with ⟨_, h⟩ | ⟨_, h⟩
    · obtain ⟨σ2, e2, h⟩ := cv_some h
      have f2 : Fr P _ _ := Fr.trans Fr.refl (fr_Reader_expect  w0 w1 e2)
      rw [← Option.some.inj h]; exact f2
    · rcases ite_some h with ⟨_, h⟩ | ⟨_, h⟩
      · obtain ⟨σ3, e3, h⟩ := cv_some h
        have f3 : Fr P _ _ := Fr.trans Fr.refl (fr_Reader_expectOperand  w0 w1 e3)
        rw [← Option.some.inj h]; exact f3
      · rcases ite_some h with ⟨_, h⟩ | ⟨_, h⟩
        · obtain ⟨σ4, e4, h⟩ := cv_some h
          have f4 : Fr P _ _ := Fr.trans Fr.refl (fr_Reader_expectOperand  w0 w1 e4)
          rw [← Option.some.inj h]; exact f4
        · rcases ite_some h with ⟨_, h⟩ | ⟨_, h⟩
          · obtain ⟨σ5, e5, h⟩ := cv_some h
            have f5 : Fr P _ _ := Fr.trans Fr.refl (fr_Reader_expectOperand  w0 w1 e5)
            rw [← Option.some.inj h]; exact f5
          · rcases ite_some h with ⟨_, h⟩ | ⟨_, h⟩
            · obtain ⟨σ6, e6, h⟩ := cv_some h
              have f6 : Fr P _ _ := Fr.trans Fr.refl (fr_Reader_expectOperand  w0 w1 e6)
              rw [← Option.some.inj h]; exact f6
            · rcases ite_some h with ⟨_, h⟩ | ⟨_, h⟩
              · obtain ⟨σ7, e7, h⟩ := cv_some h
                have f7 : Fr P _ _ := Fr.trans Fr.refl (fr_Reader_expectOperand  w0 w1 e7)
                rw [← Option.some.inj h]; exact f7
              · rcases ite_some h with ⟨_, h⟩ | ⟨_, h⟩
                · obtain ⟨σ8, e8, h⟩ := cv_some h
                  have f8 : Fr P _ _ := Fr.trans Fr.refl (fr_Reader_expectOperand  w0 w1 e8)
                  rw [← Option.some.inj h]; exact f8
                · rcases ite_some h with ⟨_, h⟩ | ⟨_, h⟩
                  · obtain ⟨σ9, e9, h⟩ := cv_some h
                    have f9 : Fr P _ _ := Fr.trans Fr.refl (fr_Reader_expect  w0 w1 e9)
                    rw [← Option.some.inj h]; exact f9
                  · rcases ite_some h with ⟨_, h⟩ | ⟨_, h⟩
                    · obtain ⟨σ10, e10, h⟩ := cv_some h
                      have f10 : Fr P _ _ := Fr.trans Fr.refl (fr_Reader_expectOperand  w0 w1 e10)
                      rw [← Option.some.inj h]; exact f10
                    · rcases ite_some h with ⟨_, h⟩ | ⟨_, h⟩
                      · obtain ⟨σ11, e11, h⟩ := cv_some h
                        have f11 : Fr P _ _ := Fr.trans Fr.refl (fr_Reader_expect  w0 w1 e11)
                        rw [← Option.some.inj h]; exact f11
                      · rcases ite_some h with ⟨_, h⟩ | ⟨_, h⟩
                        · obtain ⟨σ12, e12, h⟩ := cv_some h
                          have f12 : Fr P _ _ := Fr.trans Fr.refl (fr_Reader_expectOperand  w0 w1 e12)
                          rw [← Option.some.inj h]; exact f12
                        · rcases ite_some h with ⟨_, h⟩ | ⟨_, h⟩
                          · obtain ⟨σ13, e13, h⟩ := cv_some h
                            have f13 : Fr P _ _ := Fr.trans Fr.refl (fr_Reader_expect  w0 w1 e13)
                            rw [← Option.some.inj h]; exact f13
                          · rcases ite_some h with ⟨_, h⟩ | ⟨_, h⟩
                            · obtain ⟨σ14, e14, h⟩ := cv_some h
                              have f14 : Fr P _ _ := Fr.trans Fr.refl (fr_Reader_expect  w0 w1 e14)
                              rw [← Option.some.inj h]; exact f14
                            · rcases ite_some h with ⟨_, h⟩ | ⟨_, h⟩
                              · obtain ⟨σ15, e15, h⟩ := cv_some h
                                have f15 : Fr P _ _ := Fr.trans Fr.refl (fr_Reader_expect  w0 w1 e15)
                                rw [← Option.some.inj h]; exact f15
                              · rcases ite_some h with ⟨_, h⟩ | ⟨_, h⟩
                                · obtain ⟨σ16, e16, h⟩ := cv_some h
                                  have f16 : Fr P _ _ := Fr.trans Fr.refl (fr_Reader_expect  w0 w1 e16)
                                  rw [← Option.some.inj h]; exact f16
                                · rcases ite_some h with ⟨_, h⟩ | ⟨_, h⟩
                                  · obtain ⟨σ17, e17, h⟩ := cv_some h
                                    have f17 : Fr P _ _ := Fr.trans Fr.refl (fr_Reader_expectOperand  w0 w1 e17)
                                    rw [← Option.some.inj h]; exact f17
                                  · rcases ite_some h with ⟨_, h⟩ | ⟨_, h⟩
                                    · obtain ⟨σ18, e18, h⟩ := cv_some h
                                      have f18 : Fr P _ _ := Fr.trans Fr.refl (fr_Reader_expectOperand  w0 w1 e18)
                                      rw [← Option.some.inj h]; exact f18
                                    · replace h := nm_some h
                                      rw [← Option.some.inj h]; exact (Fr.s2 w0 Fr.refl)
theorem fr_Reader_shape_B68 {P : Nat → Prop} {v0 : Nat} {v1 : Int32} {σ : St} {r : St} (w0 : P v0) (w1 : P (ch v0 0)) (h : Reader_shape_B68 v0 v1 σ = some r) : Fr P σ r := by
  unfold Reader_shape_B68 at h
  rcases ite_some h with ⟨_, h⟩ | ⟨_, h⟩
  · obtain ⟨σ1, e1, h⟩ := cv_some h
    have f1 : Fr P _ _ := Fr.trans Fr.refl (fr_Reader_shapeOther  w0 w1 e1)
    rw [← Option.some.inj h]; exact f1
  · rcases ite_some h with ⟨_, h⟩ | ⟨_, h⟩
    · obtain ⟨σ2, e2, h⟩ := cv_some h
      have f2 : Fr P _ _ := Fr.trans Fr.refl (fr_Reader_shapeOther  w0 w1 e2)
      rw [← Option.some.inj h]; exact f2
    · obtain ⟨σ3, e3, h⟩ := cv_some h
      have f3 : Fr P _ _ := Fr.trans Fr.refl (fr_Reader_expect  w0 w1 e3)
      rw [← Option.some.inj h]; exact f3
theorem fr_Reader_shape {P : Nat → Prop} {v0 : Nat} {v1 : Int32} {σ : St} {r : St} (w0 : P v0) (w1 : P (ch v0 0)) (h : Reader_shape v0 v1 σ = some r) : Fr P σ r := by
  unfold Reader_shape at h
  rcases ite_some h with ⟨_, h⟩ | ⟨_, h⟩
  · rcases ite_some h with ⟨_, h⟩ | ⟨_, h⟩
    · rcases ite_some h with ⟨_, h⟩ | ⟨_, h⟩
      · exact Fr.trans Fr.refl (fr_Reader_shape_B68  w0 w1 h)
      · rcases ite_some h with ⟨_, h⟩ | ⟨_, h⟩
        · exact Fr.trans Fr.refl (fr_Reader_shape_B68  w0 w1 h)
        · obtain ⟨σ1, e1, h⟩ := cv_some h
          have f1 : Fr P _ _ := Fr.trans Fr.refl (fr_Reader_expectBranch  w0 w1 e1)
          rw [← Option.some.inj h]; exact f1
    · obtain ⟨σ2, e2, h⟩ := cv_some h
      have f2 : Fr P _ _ := Fr.trans Fr.refl (fr_Reader_expect  w0 w1 e2)
      rw [← Option.some.inj h]; exact f2
  · obtain ⟨σ3, e3, h⟩ := cv_some h
    have f3 : Fr P _ _ := Fr.trans Fr.refl (fr_Reader_shapeArithmetic  w0 w1 e3)
    rw [← Option.some.inj h]; exact f3
theorem fr_Reader_shapeBehind15 {P : Nat → Prop} {v0 : Nat} {v1 : Int32} {σ : St} {r : St} (w0 : P v0) (w1 : P (ch v0 0)) (h : Reader_shapeBehind15 v0 v1 σ = some r) : Fr P σ r := by
  unfold Reader_shapeBehind15 at h
  rcases ite_some h with ⟨_, h⟩ | ⟨_, h⟩
  · rcases ite_some h with ⟨_, h⟩ | ⟨_, h⟩
    · replace h := nm_some h
      rw [← Option.some.inj h]; exact (Fr.s2 w0 Fr.refl)
    · rcases ite_some h with ⟨_, h⟩ | ⟨_, h⟩
      · replace h := nm_some h
        rw [← Option.some.inj h]; exact (Fr.s2 w0 Fr.refl)
      · obtain ⟨σ3, e3, h⟩ := cv_some h
        have f3 : Fr P _ _ := Fr.trans Fr.refl (fr_Reader_expectBranch  w0 w1 e3)
        rw [← Option.some.inj h]; exact f3
  · obtain ⟨σ4, e4, h⟩ := cv_some h
    have f4 : Fr P _ _ := Fr.trans Fr.refl (fr_Reader_expectOperand  w0 w1 e4)
    rw [← Option.some.inj h]; exact f4
theorem fr_Reader_take {P : Nat → Prop} {v0 : Nat} {σ : St} {r : Int32 × St} (w0 : P v0) (h : Reader_take v0 σ = some r) : Fr P σ r.2 := by
  unfold Reader_take at h
  replace h := nm_some h
  replace h := nm_some h
  rcases ite_some h with ⟨_, h⟩ | ⟨_, h⟩
  · replace h := nm_some h
    rw [← Option.some.inj h]; exact (Fr.s2 w0 (Fr.s2 w0 Fr.refl))
  · rcases ite_some h with ⟨_, h⟩ | ⟨_, h⟩
    · replace h := (ld_some h).2
      rw [← Option.some.inj h]; exact (Fr.s2 w0 Fr.refl)
    · replace h := nm_some h
      rw [← Option.some.inj h]; exact (Fr.s2 w0 (Fr.s2 w0 Fr.refl))
theorem fr_Reader_takeNumber {P : Nat → Prop} {v0 : Nat} {v1 : Int32} {σ : St} {r : Int32 × St} (w0 : P v0) (h : Reader_takeNumber v0 v1 σ = some r) : Fr P σ r.2 := by
  unfold Reader_takeNumber at h
  rcases ite_some h with ⟨_, h⟩ | ⟨_, h⟩
  · obtain ⟨_, σ1, e1, h⟩ := cl_some h
    have f1 : Fr P _ _ := Fr.trans Fr.refl (fr_Reader_take  w0 e1)
    rcases ite_some h with ⟨_, h⟩ | ⟨_, h⟩
    · rcases ite_some h with ⟨_, h⟩ | ⟨_, h⟩
      · rw [← Option.some.inj h]; exact f1
      · obtain ⟨_, σ3, e3, h⟩ := cl_some h
        have f3 : Fr P _ _ := Fr.trans f1 (fr_Reader_take  w0 e3)
        replace h := nm_some h
        obtain ⟨_, σ6, e6, h⟩ := cl_some h
        have f6 : Fr P _ _ := Fr.trans f3 (fr_Reader_take  w0 e6)
        replace h := nm_some h
        obtain ⟨_, σ9, e9, h⟩ := cl_some h
        have f9 : Fr P _ _ := Fr.trans f6 (fr_Reader_take  w0 e9)
        replace h := nm_some h
        rw [← Option.some.inj h]; exact f9
    · rw [← Option.some.inj h]; exact f1
  · rw [← Option.some.inj h]; exact Fr.refl
theorem fr_Reader_takeOperand_B145 {P : Nat → Prop} {v0 : Nat} {v2 : Int32} {v4 : Int32} {v5 : Int32} {v6 : Int32} {t0 : Nat} {t1 : Int32} {σ : St} {r : St} (w0 : P t0) (w1 : P v0) (h : Reader_takeOperand_B145 v0 v2 v4 v5 v6 t0 t1 σ = some r) : Fr P σ r := by
  unfold Reader_takeOperand_B145 at h
  replace h := nm_some h
  rcases ite_some h with ⟨_, h⟩ | ⟨_, h⟩
  · rcases ite_some h with ⟨_, h⟩ | ⟨_, h⟩
    · replace h := nm_some h
      rw [← Option.some.inj h]; exact (Fr.s2 w1 (Fr.s2 w0 Fr.refl))
    · replace h := nm_some h
      rw [← Option.some.inj h]; exact (Fr.s2 w1 (Fr.s2 w0 Fr.refl))
  · rcases ite_some h with ⟨_, h⟩ | ⟨_, h⟩
    · rw [← Option.some.inj h]; exact (Fr.s2 w0 Fr.refl)
    · rcases ite_some h with ⟨_, h⟩ | ⟨_, h⟩
      · replace h := nm_some h
        rw [← Option.some.inj h]; exact (Fr.s2 w1 (Fr.s2 w0 Fr.refl))
      · replace h := nm_some h
        rw [← Option.some.inj h]; exact (Fr.s2 w1 (Fr.s2 w0 Fr.refl))
theorem fr_Reader_takeOperand_B39 {P : Nat → Prop} {v0 : Nat} {v2 : Int32} {t0 : Nat} {t1 : Int32} {σ : St} {r : St} (w0 : P t0) (w1 : P v0) (w2 : P (ch v0 0)) (h : Reader_takeOperand_B39 v0 v2 t0 t1 σ = some r) : Fr P σ r := by
  unfold Reader_takeOperand_B39 at h
  replace h := (zb_some h).2
  replace h := nm_some h
  replace h := nm_some h
  rcases ite_some h with ⟨_, h⟩ | ⟨_, h⟩
  · replace h := nm_some h
    rcases ite_some h with ⟨_, h⟩ | ⟨_, h⟩
    · rcases ite_some h with ⟨_, h⟩ | ⟨_, h⟩
      · exact Fr.trans (Fr.s2 w1 (Fr.s2 w0 Fr.refl)) (fr_Reader_takeOperand_B145  w2 w1 h)
      · rcases ite_some h with ⟨_, h⟩ | ⟨_, h⟩
        · exact Fr.trans (Fr.s2 w1 (Fr.s2 w0 Fr.refl)) (fr_Reader_takeOperand_B145  w2 w1 h)
        · exact Fr.trans (Fr.s2 w1 (Fr.s2 w0 Fr.refl)) (fr_Reader_takeOperand_B145  w2 w1 h)
    · obtain ⟨_, σ4, e4, h⟩ := cl_some h
      have f4 : Fr P _ _ := Fr.trans (Fr.s2 w1 (Fr.s2 w0 Fr.refl)) (fr_Reader_take  w1 e4)
      replace h := nm_some h
      rcases ite_some h with ⟨_, h⟩ | ⟨_, h⟩
      · rcases ite_some h with ⟨_, h⟩ | ⟨_, h⟩
        · exact Fr.trans f4 (fr_Reader_takeOperand_B145  w2 w1 h)
        · rcases ite_some h with ⟨_, h⟩ | ⟨_, h⟩
          · exact Fr.trans f4 (fr_Reader_takeOperand_B145  w2 w1 h)
          · exact Fr.trans f4 (fr_Reader_takeOperand_B145  w2 w1 h)
      · replace h := nm_some h
        replace h := nm_some h
        rcases ite_some h with ⟨_, h⟩ | ⟨_, h⟩
        · exact Fr.trans f4 (fr_Reader_takeOperand_B145  w2 w1 h)
        · rcases ite_some h with ⟨_, h⟩ | ⟨_, h⟩
          · exact Fr.trans f4 (fr_Reader_takeOperand_B145  w2 w1 h)
          · exact Fr.trans f4 (fr_Reader_takeOperand_B145  w2 w1 h)
  · rw [← Option.some.inj h]; exact (Fr.s2 w1 (Fr.s2 w0 Fr.refl))
theorem fr_Reader_takeOperand {P : Nat → Prop} {v0 : Nat} {σ : St} {r : St} (w0 : P v0) (w1 : P (ch v0 0)) (h : Reader_takeOperand v0 σ = some r) : Fr P σ r := by
  unfold Reader_takeOperand at h
  obtain ⟨_, σ1, e1, h⟩ := cl_some h
  have f1 : Fr P _ _ := Fr.trans Fr.refl (fr_Reader_take  w0 e1)
  replace h := nm_some h
  replace h := nm_some h
  replace h := nm_some h
  rcases ite_some h with ⟨_, h⟩ | ⟨_, h⟩
  · exact Fr.trans (Fr.s2 w0 (Fr.s2 w0 f1)) (fr_Reader_takeOperand_B39  w0 w0 w1 h)
  · exact Fr.trans (Fr.s2 w0 (Fr.s2 w0 f1)) (fr_Reader_takeOperand_B39  w0 w0 w1 h)
theorem fr_Reader_read_B91 {P : Nat → Prop} {v0 : Nat} {v1 : Int32} {σ : St} {r : Int32 × St} (w0 : P v0) (w1 : P (ch v0 0)) (h : Reader_read_B91 v0 v1 σ = some r) : Fr P σ r.2 := by
  unfold Reader_read_B91 at h
  obtain ⟨_, σ1, e1, h⟩ := cl_some h
  have f1 : Fr P _ _ := Fr.trans Fr.refl (fr_Reader_takeNumber  w0 e1)
  replace h := nm_some h
  replace h := nm_some h
  replace h := (zb_some h).2
  rw [← Option.some.inj h]; exact (Fr.s2 w1 (Fr.s2 w1 f1))
theorem fr_Reader_read_B60 {P : Nat → Prop} {v0 : Nat} {v1 : Int32} {v2 : Int32} {σ : St} {r : Int32 × St} (w0 : P v0) (w1 : P (ch v0 0)) (h : Reader_read_B60 v0 v1 v2 σ = some r) : Fr P σ r.2 := by
  unfold Reader_read_B60 at h
  rcases ite_some h with ⟨_, h⟩ | ⟨_, h⟩
  · exact Fr.trans Fr.refl (fr_Reader_read_B91  w0 w1 h)
  · obtain ⟨σ1, e1, h⟩ := cv_some h
    have f1 : Fr P _ _ := Fr.trans Fr.refl (fr_Reader_takeOperand  w0 w1 e1)
    obtain ⟨σ2, e2, h⟩ := cv_some h
    have f2 : Fr P _ _ := Fr.trans f1 (fr_Reader_giveForm  w0 w1 e2)
    obtain ⟨_, σ3, e3, h⟩ := cl_some h
    have f3 : Fr P _ _ := Fr.trans f2 (fr_Reader_takeNumber  w0 e3)
    replace h := nm_some h
    exact Fr.trans (Fr.s2 w1 f3) (fr_Reader_read_B91  w0 w1 h)
theorem fr_Reader_read {P : Nat → Prop} {v0 : Nat} {v1 : Int32} {σ : St} {r : Int32 × St} (w0 : P v0) (w1 : P (ch v0 0)) (h : Reader_read v0 v1 σ = some r) : Fr P σ r.2 := by
  unfold Reader_read at h
  replace h := nm_some h
  replace h := nm_some h
  replace h := nm_some h
  replace h := nm_some h
  obtain ⟨σ5, e5, h⟩ := cv_some h
  have f5 : Fr P _ _ := Fr.trans (Fr.s2 w0 (Fr.s2 w0 (Fr.s2 w0 (Fr.s2 w0 Fr.refl)))) (fr_Instruction_fill  w1 e5)
  obtain ⟨_, σ6, e6, h⟩ := cl_some h
  have f6 : Fr P _ _ := Fr.trans f5 (fr_Reader_take  w0 e6)
  rcases ite_some h with ⟨_, h⟩ | ⟨_, h⟩
  · obtain ⟨σ8, e8, h⟩ := cv_some h
    have f8 : Fr P _ _ := Fr.trans f6 (fr_Reader_shape  w0 w1 e8)
    exact Fr.trans f8 (fr_Reader_read_B60  w0 w1 h)
  · obtain ⟨_, σ9, e9, h⟩ := cl_some h
    have f9 : Fr P _ _ := Fr.trans f6 (fr_Reader_take  w0 e9)
    obtain ⟨σ11, e11, h⟩ := cv_some h
    have f11 : Fr P _ _ := Fr.trans f9 (fr_Reader_shapeBehind15  w0 w1 e11)
    exact Fr.trans f11 (fr_Reader_read_B60  w0 w1 h)
theorem fr_Policy_faultOfFound_B57 {P : Nat → Prop} {v0 : Nat} {v2 : Int32} {v3 : Int32} {v4 : Int32} {v5 : Int32} {σ : St} {r : Int32 × St} (h : Policy_faultOfFound_B57 v0 v2 v3 v4 v5 σ = some r) : Fr P σ r.2 := by
  unfold Policy_faultOfFound_B57 at h
  rcases ite_some h with ⟨_, h⟩ | ⟨_, h⟩
  · rcases ite_some h with ⟨_, h⟩ | ⟨_, h⟩
    · rcases ite_some h with ⟨_, h⟩ | ⟨_, h⟩
      · rw [← Option.some.inj h]; exact Fr.refl
      · rw [← Option.some.inj h]; exact Fr.refl
    · rcases ite_some h with ⟨_, h⟩ | ⟨_, h⟩
      · rw [← Option.some.inj h]; exact Fr.refl
      · rcases ite_some h with ⟨_, h⟩ | ⟨_, h⟩
        · rw [← Option.some.inj h]; exact Fr.refl
        · rw [← Option.some.inj h]; exact Fr.refl
  · rw [← Option.some.inj h]; exact Fr.refl
theorem fr_Policy_faultOfFound {P : Nat → Prop} {v0 : Nat} {v1 : Int32} {v2 : Int32} {v3 : Int32} {σ : St} {r : Int32 × St} (h : Policy_faultOfFound v0 v1 v2 v3 σ = some r) : Fr P σ r.2 := by
  unfold Policy_faultOfFound at h
  replace h := nm_some h
  rcases ite_some h with ⟨_, h⟩ | ⟨_, h⟩
  · replace h := nm_some h
    rcases ite_some h with ⟨_, h⟩ | ⟨_, h⟩
    · rcases ite_some h with ⟨_, h⟩ | ⟨_, h⟩
      · exact Fr.trans Fr.refl (fr_Policy_faultOfFound_B57   h)
      · rcases ite_some h with ⟨_, h⟩ | ⟨_, h⟩
        · rcases ite_some h with ⟨_, h⟩ | ⟨_, h⟩
          · rcases ite_some h with ⟨_, h⟩ | ⟨_, h⟩
            · rw [← Option.some.inj h]; exact Fr.refl
            · rw [← Option.some.inj h]; exact Fr.refl
          · rcases ite_some h with ⟨_, h⟩ | ⟨_, h⟩
            · rw [← Option.some.inj h]; exact Fr.refl
            · rcases ite_some h with ⟨_, h⟩ | ⟨_, h⟩
              · rw [← Option.some.inj h]; exact Fr.refl
              · rw [← Option.some.inj h]; exact Fr.refl
        · exact Fr.trans Fr.refl (fr_Policy_faultOfFound_B57   h)
    · rw [← Option.some.inj h]; exact Fr.refl
  · rw [← Option.some.inj h]; exact Fr.refl
theorem fr_Policy_maskedRegister {P : Nat → Prop} {v0 : Nat} {v1 : Int32} {σ : St} {r : Int32 × St} (h : Policy_maskedRegister v0 v1 σ = some r) : Fr P σ r.2 := by
  unfold Policy_maskedRegister at h
  obtain ⟨_, σ1, e1, h⟩ := cl_some h
  have f1 : Fr P _ _ := Fr.trans Fr.refl (fr_Strip_byteAt   e1)
  rcases ite_some h with ⟨_, h⟩ | ⟨_, h⟩
  · rw [← Option.some.inj h]; exact f1
  · rcases ite_some h with ⟨_, h⟩ | ⟨_, h⟩
    · rw [← Option.some.inj h]; exact f1
    · rcases ite_some h with ⟨_, h⟩ | ⟨_, h⟩
      · rw [← Option.some.inj h]; exact f1
      · rcases ite_some h with ⟨_, h⟩ | ⟨_, h⟩
        · rw [← Option.some.inj h]; exact f1
        · rw [← Option.some.inj h]; exact f1
theorem fr_Policy_bundleFault_B114 {P : Nat → Prop} {K7 : Nat → Int32 → Int32 → Int32 → Int32 → St → Option (Int32 × St)} (hK7 : ∀ (v0 : Nat) (v1 : Int32) (v2 : Int32) (v3 : Int32) (v4 : Int32) (σ : St) (r : Int32 × St), P v0 → P (ch (ch v0 1) 1) → P (ch v0 2) → P (ch (ch v0 2) 0) → K7 v0 v1 v2 v3 v4 σ = some r → Fr P σ r.2) {v0 : Nat} {v1 : Int32} {v2 : Int32} {v4 : Int32} {t0 : Nat} {t1 : Int32} {t2 : Int32} {σ : St} {r : Int32 × St} (w0 : P (ch t0 1)) (w1 : P v0) (w2 : P (ch (ch v0 1) 1)) (w3 : P (ch v0 2)) (w4 : P (ch (ch v0 2) 0)) (h : Policy_bundleFault_B114 K7 v0 v1 v2 v4 t0 t1 t2 σ = some r) : Fr P σ r.2 := by
  unfold Policy_bundleFault_B114 at h
  obtain ⟨σ1, e1, h⟩ := cv_some h
  have f1 : Fr P _ _ := Fr.trans Fr.refl (fr_Strip_mark  w0 e1)
  obtain ⟨_, σ2, e2, h⟩ := cl_some h
  have f2 : Fr P _ _ := Fr.trans f1 (fr_Policy_maskedRegister   e2)
  replace h := nm_some h
  replace h := nm_some h
  exact Fr.trans f2 (hK7 _ _ _ _ _ _ _ w1 w2 w3 w4 h)
theorem fr_Policy_bundleFault_B97 {P : Nat → Prop} {K7 : Nat → Int32 → Int32 → Int32 → Int32 → St → Option (Int32 × St)} (hK7 : ∀ (v0 : Nat) (v1 : Int32) (v2 : Int32) (v3 : Int32) (v4 : Int32) (σ : St) (r : Int32 × St), P v0 → P (ch (ch v0 1) 1) → P (ch v0 2) → P (ch (ch v0 2) 0) → K7 v0 v1 v2 v3 v4 σ = some r → Fr P σ r.2) {v0 : Nat} {v1 : Int32} {v2 : Int32} {v4 : Int32} {t0 : Int32} {σ : St} {r : Int32 × St} (w0 : P v0) (w1 : P (ch (ch v0 1) 1)) (w2 : P (ch v0 2)) (w3 : P (ch (ch v0 2) 0)) (h : Policy_bundleFault_B97 K7 v0 v1 v2 v4 t0 σ = some r) : Fr P σ r.2 := by
  unfold Policy_bundleFault_B97 at h
  rcases ite_some h with ⟨_, h⟩ | ⟨_, h⟩
  · exact Fr.trans Fr.refl (fr_Policy_bundleFault_B114 hK7 w1 w0 w1 w2 w3 h)
  · exact Fr.trans Fr.refl (fr_Policy_bundleFault_B114 hK7 w1 w0 w1 w2 w3 h)
theorem fr_Policy_bundleFault_B47 {P : Nat → Prop} {K7 : Nat → Int32 → Int32 → Int32 → Int32 → St → Option (Int32 × St)} (hK7 : ∀ (v0 : Nat) (v1 : Int32) (v2 : Int32) (v3 : Int32) (v4 : Int32) (σ : St) (r : Int32 × St), P v0 → P (ch (ch v0 1) 1) → P (ch v0 2) → P (ch (ch v0 2) 0) → K7 v0 v1 v2 v3 v4 σ = some r → Fr P σ r.2) {v0 : Nat} {v1 : Int32} {v2 : Int32} {v4 : Int32} {t0 : Int32} {σ : St} {r : Int32 × St} (w0 : P v0) (w1 : P (ch (ch v0 1) 1)) (w2 : P (ch v0 2)) (w3 : P (ch (ch v0 2) 0)) (h : Policy_bundleFault_B47 K7 v0 v1 v2 v4 t0 σ = some r) : Fr P σ r.2 := by
  unfold Policy_bundleFault_B47 at h
  rcases ite_some h with ⟨_, h⟩ | ⟨_, h⟩
  · rcases ite_some h with ⟨_, h⟩ | ⟨_, h⟩
    · exact Fr.trans Fr.refl (fr_Policy_bundleFault_B97 hK7 w0 w1 w2 w3 h)
    · rcases ite_some h with ⟨_, h⟩ | ⟨_, h⟩
      · exact Fr.trans Fr.refl (fr_Policy_bundleFault_B97 hK7 w0 w1 w2 w3 h)
      · exact Fr.trans Fr.refl (fr_Policy_bundleFault_B97 hK7 w0 w1 w2 w3 h)
  · replace h := nm_some h
    rw [← Option.some.inj h]; exact (Fr.s2 w0 Fr.refl)
theorem fr_Policy_bundleFault_B7 {P : Nat → Prop} : ∀ (n : Nat) (v0 : Nat) (v1 : Int32) (v2 : Int32) (v3 : Int32) (v4 : Int32) (σ : St) (r : Int32 × St), P v0 → P (ch (ch v0 1) 1) → P (ch v0 2) → P (ch (ch v0 2) 0) → Policy_bundleFault_B7 n v0 v1 v2 v3 v4 σ = some r → Fr P σ r.2 := by
  intro n
  induction n with
  | zero => intro v0 v1 v2 v3 v4 σ r w0 w1 w2 w3 h; unfold Policy_bundleFault_B7 at h; cases h
  | succ n ih =>
    intro v0 v1 v2 v3 v4 σ r w0 w1 w2 w3 h
    unfold Policy_bundleFault_B7 at h
    rcases ite_some h with ⟨_, h⟩ | ⟨_, h⟩
    · rw [← Option.some.inj h]; exact Fr.refl
    · rcases ite_some h with ⟨_, h⟩ | ⟨_, h⟩
      · rw [← Option.some.inj h]; exact Fr.refl
      · obtain ⟨_, σ1, e1, h⟩ := cl_some h
        have f1 : Fr P _ _ := Fr.trans Fr.refl (fr_Reader_read  w2 w3 e1)
        rcases ite_some h with ⟨_, h⟩ | ⟨_, h⟩
        · exact Fr.trans f1 (fr_Policy_bundleFault_B47 ih w0 w1 w2 w3 h)
        · obtain ⟨_, σ3, e3, h⟩ := cl_some h
          have f3 : Fr P _ _ := Fr.trans f1 (fr_Policy_faultOfFound   e3)
          exact Fr.trans f3 (fr_Policy_bundleFault_B47 ih w0 w1 w2 w3 h)
theorem fr_Policy_bundleFault {P : Nat → Prop} {v0 : Nat} {v1 : Int32} {σ : St} {r : Int32 × St} (w0 : P v0) (w1 : P (ch (ch v0 1) 1)) (w2 : P (ch v0 2)) (w3 : P (ch (ch v0 2) 0)) (h : Policy_bundleFault v0 v1 σ = some r) : Fr P σ r.2 := by
  unfold Policy_bundleFault at h
  exact Fr.trans Fr.refl (fr_Policy_bundleFault_B7  _ _ _ _ _ _ _ _ w0 w1 w2 w3 h)
theorem fr_House_isService {P : Nat → Prop} {v0 : Int32} {σ : St} {r : Int32 × St} (h : House_isService v0 σ = some r) : Fr P σ r.2 := by
  unfold House_isService at h
  rcases ite_some h with ⟨_, h⟩ | ⟨_, h⟩
  · rw [← Option.some.inj h]; exact Fr.refl
  · rcases ite_some h with ⟨_, h⟩ | ⟨_, h⟩
    · rw [← Option.some.inj h]; exact Fr.refl
    · rcases ite_some h with ⟨_, h⟩ | ⟨_, h⟩
      · rw [← Option.some.inj h]; exact Fr.refl
      · rw [← Option.some.inj h]; exact Fr.refl
theorem fr_Policy_isAstray_B31 {P : Nat → Prop} {v0 : Nat} {v1 : Int32} {σ : St} {r : Int32 × St} (h : Policy_isAstray_B31 v0 v1 σ = some r) : Fr P σ r.2 := by
  unfold Policy_isAstray_B31 at h
  replace h := nm_some h
  obtain ⟨_, σ2, e2, h⟩ := cl_some h
  have f2 : Fr P _ _ := Fr.trans Fr.refl (fr_House_isService   e2)
  rcases ite_some h with ⟨_, h⟩ | ⟨_, h⟩
  · rw [← Option.some.inj h]; exact f2
  · obtain ⟨_, σ4, e4, h⟩ := cl_some h
    have f4 : Fr P _ _ := Fr.trans f2 (fr_Strip_markAt   e4)
    rcases ite_some h with ⟨_, h⟩ | ⟨_, h⟩
    · rw [← Option.some.inj h]; exact f4
    · rw [← Option.some.inj h]; exact f4
theorem fr_Policy_isAstray {P : Nat → Prop} {v0 : Nat} {v1 : Int32} {σ : St} {r : Int32 × St} (h : Policy_isAstray v0 v1 σ = some r) : Fr P σ r.2 := by
  unfold Policy_isAstray at h
  replace h := nm_some h
  rcases ite_some h with ⟨_, h⟩ | ⟨_, h⟩
  · exact Fr.trans Fr.refl (fr_Policy_isAstray_B31   h)
  · rcases ite_some h with ⟨_, h⟩ | ⟨_, h⟩
    · exact Fr.trans Fr.refl (fr_Policy_isAstray_B31   h)
    · rcases ite_some h with ⟨_, h⟩ | ⟨_, h⟩
      · exact Fr.trans Fr.refl (fr_Policy_isAstray_B31   h)
      · rw [← Option.some.inj h]; exact Fr.refl
theorem fr_Policy_targetFault_B2 {P : Nat → Prop} : ∀ (n : Nat) (v0 : Nat) (v1 : Int32) (σ : St) (r : Int32 × St), P v0 → P (ch v0 2) → P (ch (ch v0 2) 0) → Policy_targetFault_B2 n v0 v1 σ = some r → Fr P σ r.2 := by
  intro n
  induction n with
  | zero => intro v0 v1 σ r w0 w1 w2 h; unfold Policy_targetFault_B2 at h; cases h
  | succ n ih =>
    intro v0 v1 σ r w0 w1 w2 h
    unfold Policy_targetFault_B2 at h
    rcases ite_some h with ⟨_, h⟩ | ⟨_, h⟩
    · rw [← Option.some.inj h]; exact Fr.refl
    · obtain ⟨_, σ1, e1, h⟩ := cl_some h
      have f1 : Fr P _ _ := Fr.trans Fr.refl (fr_Strip_markAt   e1)
      rcases ite_some h with ⟨_, h⟩ | ⟨_, h⟩
      · replace h := nm_some h
        exact Fr.trans f1 (ih _ _ _ _ w0 w1 w2 h)
      · obtain ⟨_, σ4, e4, h⟩ := cl_some h
        have f4 : Fr P _ _ := Fr.trans f1 (fr_Reader_read  w1 w2 e4)
        rcases ite_some h with ⟨_, h⟩ | ⟨_, h⟩
        · replace h := nm_some h
          exact Fr.trans f4 (ih _ _ _ _ w0 w1 w2 h)
        · obtain ⟨_, σ7, e7, h⟩ := cl_some h
          have f7 : Fr P _ _ := Fr.trans f4 (fr_Policy_isAstray   e7)
          rcases ite_some h with ⟨_, h⟩ | ⟨_, h⟩
          · replace h := nm_some h
            exact Fr.trans f7 (ih _ _ _ _ w0 w1 w2 h)
          · replace h := nm_some h
            rw [← Option.some.inj h]; exact (Fr.s2 w0 f7)
theorem fr_Policy_targetFault {P : Nat → Prop} {v0 : Nat} {σ : St} {r : Int32 × St} (w0 : P v0) (w1 : P (ch v0 2)) (w2 : P (ch (ch v0 2) 0)) (h : Policy_targetFault v0 σ = some r) : Fr P σ r.2 := by
  unfold Policy_targetFault at h
  exact Fr.trans Fr.refl (fr_Policy_targetFault_B2  _ _ _ _ _ w0 w1 w2 h)
theorem fr_Policy_findFault_B49 {P : Nat → Prop} : ∀ (n : Nat) (v0 : Nat) (v1 : Int32) (v2 : Int32) (σ : St) (r : Int32 × St), P v0 → P (ch (ch v0 1) 1) → P (ch v0 2) → P (ch (ch v0 2) 0) → Policy_findFault_B49 n v0 v1 v2 σ = some r → Fr P σ r.2 := by
  intro n
  induction n with
  | zero => intro v0 v1 v2 σ r w0 w1 w2 w3 h; unfold Policy_findFault_B49 at h; cases h
  | succ n ih =>
    intro v0 v1 v2 σ r w0 w1 w2 w3 h
    unfold Policy_findFault_B49 at h
    rcases ite_some h with ⟨_, h⟩ | ⟨_, h⟩
    · obtain ⟨_, σ1, e1, h⟩ := cl_some h
      have f1 : Fr P _ _ := Fr.trans Fr.refl (fr_Policy_targetFault  w0 w2 w3 e1)
      rw [← Option.some.inj h]; exact f1
    · obtain ⟨_, σ3, e3, h⟩ := cl_some h
      have f3 : Fr P _ _ := Fr.trans Fr.refl (fr_Policy_bundleFault  w0 w1 w2 w3 e3)
      rcases ite_some h with ⟨_, h⟩ | ⟨_, h⟩
      · replace h := nm_some h
        exact Fr.trans f3 (ih _ _ _ _ _ w0 w1 w2 w3 h)
      · rw [← Option.some.inj h]; exact f3
theorem fr_Policy_findFault {P : Nat → Prop} {v0 : Nat} {σ : St} {r : Int32 × St} (w0 : P v0) (w1 : P (ch (ch v0 1) 1)) (w2 : P (ch v0 2)) (w3 : P (ch (ch v0 2) 0)) (h : Policy_findFault v0 σ = some r) : Fr P σ r.2 := by
  unfold Policy_findFault at h
  replace h := nm_some h
  replace h := nm_some h
  rcases ite_some h with ⟨_, h⟩ | ⟨_, h⟩
  · replace h := nm_some h
    rw [← Option.some.inj h]; exact (Fr.s2 w0 (Fr.s2 w0 Fr.refl))
  · rcases ite_some h with ⟨_, h⟩ | ⟨_, h⟩
    · replace h := nm_some h
      rw [← Option.some.inj h]; exact (Fr.s2 w0 (Fr.s2 w0 Fr.refl))
    · rcases ite_some h with ⟨_, h⟩ | ⟨_, h⟩
      · obtain ⟨σ5, e5, h⟩ := cv_some h
        have f5 : Fr P _ _ := Fr.trans (Fr.s2 w0 Fr.refl) (fr_Strip_dropMarks  w1 e5)
        exact Fr.trans f5 (fr_Policy_findFault_B49  _ _ _ _ _ _ w0 w1 w2 w3 h)
      · replace h := nm_some h
        rw [← Option.some.inj h]; exact (Fr.s2 w0 (Fr.s2 w0 Fr.refl))
theorem fr_Program_isFull {P : Nat → Prop} {v0 : Nat} {σ : St} {r : Int32 × St} (h : Program_isFull v0 σ = some r) : Fr P σ r.2 := by
  unfold Program_isFull at h
  rcases ite_some h with ⟨_, h⟩ | ⟨_, h⟩
  · rw [← Option.some.inj h]; exact Fr.refl
  · rw [← Option.some.inj h]; exact Fr.refl
theorem fr_Program_addPlain {P : Nat → Prop} {v0 : Nat} {v1 : Int32} {v2 : Int32} {v3 : Int32} {v4 : Int32} {v5 : Int32} {v6 : Int32} {σ : St} {r : St} (w0 : P v0) (w1 : P (ch v0 0)) (w2 : P (ch v0 6)) (w3 : P (ch v0 7)) (w4 : P (ch v0 8)) (w5 : P (ch v0 9)) (w6 : P (ch v0 10)) (w7 : P (ch v0 11)) (h : Program_addPlain v0 v1 v2 v3 v4 v5 v6 σ = some r) : Fr P σ r := by
  unfold Program_addPlain at h
  obtain ⟨_, σ1, e1, h⟩ := cl_some h
  have f1 : Fr P _ _ := Fr.trans Fr.refl (fr_Program_isFull   e1)
  rcases ite_some h with ⟨_, h⟩ | ⟨_, h⟩
  · replace h := (sa_some h).2
    replace h := (sa_some h).2
    replace h := (sa_some h).2
    replace h := (sa_some h).2
    replace h := (sa_some h).2
    replace h := (sa_some h).2
    replace h := (sa_some h).2
    replace h := nm_some h
    rw [← Option.some.inj h]; exact (Fr.s2 w0 (Fr.s2 w7 (Fr.s2 w6 (Fr.s2 w5 (Fr.s2 w4 (Fr.s2 w3 (Fr.s2 w2 (Fr.s2 w1 f1))))))))
  · rw [← Option.some.inj h]; exact f1
theorem fr_Program_addFlow {P : Nat → Prop} {v0 : Nat} {v1 : Int32} {v2 : Int32} {v3 : Int32} {σ : St} {r : St} (w0 : P v0) (w1 : P (ch v0 0)) (w2 : P (ch v0 1)) (w3 : P (ch v0 2)) (h : Program_addFlow v0 v1 v2 v3 σ = some r) : Fr P σ r := by
  unfold Program_addFlow at h
  obtain ⟨_, σ1, e1, h⟩ := cl_some h
  have f1 : Fr P _ _ := Fr.trans Fr.refl (fr_Program_isFull   e1)
  rcases ite_some h with ⟨_, h⟩ | ⟨_, h⟩
  · replace h := (sa_some h).2
    replace h := (sa_some h).2
    replace h := (sa_some h).2
    replace h := nm_some h
    rw [← Option.some.inj h]; exact (Fr.s2 w0 (Fr.s2 w3 (Fr.s2 w2 (Fr.s2 w1 f1))))
  · rw [← Option.some.inj h]; exact f1
theorem fr_Program_copyFrom {P : Nat → Prop} {v0 : Nat} {v1 : Nat} {σ : St} {r : St} (w0 : P v0) (w1 : P (ch v0 0)) (w2 : P (ch v0 1)) (w3 : P (ch v0 2)) (w4 : P (ch v0 3)) (w5 : P (ch v0 6)) (w6 : P (ch v0 7)) (w7 : P (ch v0 8)) (w8 : P (ch v0 9)) (w9 : P (ch v0 10)) (w10 : P (ch v0 11)) (w11 : P (ch v0 12)) (w12 : P (ch v0 13)) (h : Program_copyFrom v0 v1 σ = some r) : Fr P σ r := by
  unfold Program_copyFrom at h
  replace h := (cp_some h).2
  replace h := (cp_some h).2
  replace h := (cp_some h).2
  replace h := (cp_some h).2
  replace h := (cp_some h).2
  replace h := (cp_some h).2
  replace h := (cp_some h).2
  replace h := (cp_some h).2
  replace h := (cp_some h).2
  replace h := (cp_some h).2
  replace h := (cp_some h).2
  replace h := (cp_some h).2
  replace h := nm_some h
  replace h := nm_some h
  rw [← Option.some.inj h]; exact (Fr.s2 w0 (Fr.s2 w0 (Fr.up w12 (Fr.up w11 (Fr.up w4 (Fr.up w10 (Fr.up w9 (Fr.up w8 (Fr.up w7 (Fr.up w6 (Fr.up w5 (Fr.up w3 (Fr.up w2 (Fr.up w1 Fr.refl))))))))))))))
theorem fr_Program_hasItem {P : Nat → Prop} {v0 : Nat} {v1 : Int32} {σ : St} {r : Int32 × St} (h : Program_hasItem v0 v1 σ = some r) : Fr P σ r.2 := by
  unfold Program_hasItem at h
  rcases ite_some h with ⟨_, h⟩ | ⟨_, h⟩
  · rw [← Option.some.inj h]; exact Fr.refl
  · rcases ite_some h with ⟨_, h⟩ | ⟨_, h⟩
    · rw [← Option.some.inj h]; exact Fr.refl
    · rcases ite_some h with ⟨_, h⟩ | ⟨_, h⟩
      · rw [← Option.some.inj h]; exact Fr.refl
      · rw [← Option.some.inj h]; exact Fr.refl
theorem fr_Program_loadItem {P : Nat → Prop} {v0 : Nat} {v1 : Int32} {v2 : Nat} {σ : St} {r : St} (w0 : P v2) (h : Program_loadItem v0 v1 v2 σ = some r) : Fr P σ r := by
  unfold Program_loadItem at h
  obtain ⟨_, σ1, e1, h⟩ := cl_some h
  have f1 : Fr P _ _ := Fr.trans Fr.refl (fr_Program_hasItem   e1)
  rcases ite_some h with ⟨_, h⟩ | ⟨_, h⟩
  · rw [← Option.some.inj h]; exact f1
  · replace h := (ld_some h).2
    replace h := (ld_some h).2
    replace h := (ld_some h).2
    replace h := (ld_some h).2
    replace h := (ld_some h).2
    replace h := (ld_some h).2
    obtain ⟨σ9, e9, h⟩ := cv_some h
    have f9 : Fr P _ _ := Fr.trans f1 (fr_Instruction_fill  w0 e9)
    rw [← Option.some.inj h]; exact f9
theorem fr_Program_itemPlace {P : Nat → Prop} {v0 : Nat} {v1 : Int32} {σ : St} {r : Int32 × St} (h : Program_itemPlace v0 v1 σ = some r) : Fr P σ r.2 := by
  unfold Program_itemPlace at h
  obtain ⟨_, σ1, e1, h⟩ := cl_some h
  have f1 : Fr P _ _ := Fr.trans Fr.refl (fr_Program_hasItem   e1)
  rcases ite_some h with ⟨_, h⟩ | ⟨_, h⟩
  · rw [← Option.some.inj h]; exact f1
  · replace h := (ld_some h).2
    rw [← Option.some.inj h]; exact f1
theorem fr_House_isLabel {P : Nat → Prop} {v0 : Int32} {σ : St} {r : Int32 × St} (h : House_isLabel v0 σ = some r) : Fr P σ r.2 := by
  unfold House_isLabel at h
  rcases ite_some h with ⟨_, h⟩ | ⟨_, h⟩
  · rw [← Option.some.inj h]; exact Fr.refl
  · rcases ite_some h with ⟨_, h⟩ | ⟨_, h⟩
    · rw [← Option.some.inj h]; exact Fr.refl
    · rw [← Option.some.inj h]; exact Fr.refl
theorem fr_Program_labelItem {P : Nat → Prop} {v0 : Nat} {v1 : Int32} {σ : St} {r : Int32 × St} (h : Program_labelItem v0 v1 σ = some r) : Fr P σ r.2 := by
  unfold Program_labelItem at h
  obtain ⟨_, σ1, e1, h⟩ := cl_some h
  have f1 : Fr P _ _ := Fr.trans Fr.refl (fr_House_isLabel   e1)
  rcases ite_some h with ⟨_, h⟩ | ⟨_, h⟩
  · rw [← Option.some.inj h]; exact f1
  · replace h := (ld_some h).2
    rw [← Option.some.inj h]; exact f1
theorem fr_Program_isMarked {P : Nat → Prop} {v0 : Nat} {v1 : Int32} {σ : St} {r : Int32 × St} (h : Program_isMarked v0 v1 σ = some r) : Fr P σ r.2 := by
  unfold Program_isMarked at h
  obtain ⟨_, σ1, e1, h⟩ := cl_some h
  have f1 : Fr P _ _ := Fr.trans Fr.refl (fr_Program_hasItem   e1)
  rcases ite_some h with ⟨_, h⟩ | ⟨_, h⟩
  · rw [← Option.some.inj h]; exact f1
  · replace h := (ld_some h).2
    rcases ite_some h with ⟨_, h⟩ | ⟨_, h⟩
    · rw [← Option.some.inj h]; exact f1
    · replace h := (ld_some h).2
      rcases ite_some h with ⟨_, h⟩ | ⟨_, h⟩
      · rw [← Option.some.inj h]; exact f1
      · rw [← Option.some.inj h]; exact f1
theorem fr_Program_pushes {P : Nat → Prop} {v0 : Nat} {v1 : Int32} {σ : St} {r : Int32 × St} (h : Program_pushes v0 v1 σ = some r) : Fr P σ r.2 := by
  unfold Program_pushes at h
  obtain ⟨_, σ1, e1, h⟩ := cl_some h
  have f1 : Fr P _ _ := Fr.trans Fr.refl (fr_Program_hasItem   e1)
  rcases ite_some h with ⟨_, h⟩ | ⟨_, h⟩
  · rw [← Option.some.inj h]; exact f1
  · replace h := (ld_some h).2
    rcases ite_some h with ⟨_, h⟩ | ⟨_, h⟩
    · rw [← Option.some.inj h]; exact f1
    · replace h := (ld_some h).2
      rcases ite_some h with ⟨_, h⟩ | ⟨_, h⟩
      · rw [← Option.some.inj h]; exact f1
      · replace h := (ld_some h).2
        rcases ite_some h with ⟨_, h⟩ | ⟨_, h⟩
        · rw [← Option.some.inj h]; exact f1
        · rw [← Option.some.inj h]; exact f1
theorem fr_Program_findLabels_B23 {P : Nat → Prop} : ∀ (n : Nat) (v0 : Nat) (v1 : Int32) (σ : St) (r : St), P (ch v0 12) → Program_findLabels_B23 n v0 v1 σ = some r → Fr P σ r := by
  intro n
  induction n with
  | zero => intro v0 v1 σ r w0 h; unfold Program_findLabels_B23 at h; cases h
  | succ n ih =>
    intro v0 v1 σ r w0 h
    unfold Program_findLabels_B23 at h
    rcases ite_some h with ⟨_, h⟩ | ⟨_, h⟩
    · rw [← Option.some.inj h]; exact Fr.refl
    · obtain ⟨_, σ1, e1, h⟩ := cl_some h
      have f1 : Fr P _ _ := Fr.trans Fr.refl (fr_Program_hasItem   e1)
      rcases ite_some h with ⟨_, h⟩ | ⟨_, h⟩
      · replace h := nm_some h
        exact Fr.trans f1 (ih _ _ _ _ w0 h)
      · replace h := (ld_some h).2
        rcases ite_some h with ⟨_, h⟩ | ⟨_, h⟩
        · replace h := nm_some h
          exact Fr.trans f1 (ih _ _ _ _ w0 h)
        · replace h := (ld_some h).2
          obtain ⟨_, σ7, e7, h⟩ := cl_some h
          have f7 : Fr P _ _ := Fr.trans f1 (fr_House_isLabel   e7)
          rcases ite_some h with ⟨_, h⟩ | ⟨_, h⟩
          · replace h := nm_some h
            exact Fr.trans f7 (ih _ _ _ _ w0 h)
          · replace h := (ld_some h).2
            replace h := (ld_some h).2
            rcases ite_some h with ⟨_, h⟩ | ⟨_, h⟩
            · replace h := nm_some h
              exact Fr.trans f7 (ih _ _ _ _ w0 h)
            · replace h := (ld_some h).2
              replace h := (sa_some h).2
              replace h := nm_some h
              exact Fr.trans (Fr.s2 w0 f7) (ih _ _ _ _ w0 h)
theorem fr_Program_findLabels_B2 {P : Nat → Prop} : ∀ (n : Nat) (v0 : Nat) (v1 : Int32) (σ : St) (r : St), P (ch v0 12) → Program_findLabels_B2 n v0 v1 σ = some r → Fr P σ r := by
  intro n
  induction n with
  | zero => intro v0 v1 σ r w0 h; unfold Program_findLabels_B2 at h; cases h
  | succ n ih =>
    intro v0 v1 σ r w0 h
    unfold Program_findLabels_B2 at h
    rcases ite_some h with ⟨_, h⟩ | ⟨_, h⟩
    · exact Fr.trans Fr.refl (fr_Program_findLabels_B23  _ _ _ _ _ w0 h)
    · replace h := (sa_some h).2
      replace h := nm_some h
      exact Fr.trans (Fr.s2 w0 Fr.refl) (ih _ _ _ _ w0 h)
theorem fr_Program_findLabels {P : Nat → Prop} {v0 : Nat} {σ : St} {r : St} (w0 : P (ch v0 12)) (h : Program_findLabels v0 σ = some r) : Fr P σ r := by
  unfold Program_findLabels at h
  exact Fr.trans Fr.refl (fr_Program_findLabels_B2  _ _ _ _ _ w0 h)
theorem fr_Program_giveLanding {P : Nat → Prop} {v0 : Nat} {v1 : Int32} {v2 : Int32} {σ : St} {r : St} (w0 : P (ch v0 13)) (h : Program_giveLanding v0 v1 v2 σ = some r) : Fr P σ r := by
  unfold Program_giveLanding at h
  replace h := nm_some h
  rcases ite_some h with ⟨_, h⟩ | ⟨_, h⟩
  · rw [← Option.some.inj h]; exact Fr.refl
  · rcases ite_some h with ⟨_, h⟩ | ⟨_, h⟩
    · rw [← Option.some.inj h]; exact Fr.refl
    · replace h := (sa_some h).2
      rw [← Option.some.inj h]; exact (Fr.s2 w0 Fr.refl)
theorem fr_Program_findLandings_B24 {P : Nat → Prop} : ∀ (n : Nat) (v0 : Nat) (v1 : Int32) (σ : St) (r : St), P (ch v0 13) → Program_findLandings_B24 n v0 v1 σ = some r → Fr P σ r := by
  intro n
  induction n with
  | zero => intro v0 v1 σ r w0 h; unfold Program_findLandings_B24 at h; cases h
  | succ n ih =>
    intro v0 v1 σ r w0 h
    unfold Program_findLandings_B24 at h
    rcases ite_some h with ⟨_, h⟩ | ⟨_, h⟩
    · rw [← Option.some.inj h]; exact Fr.refl
    · obtain ⟨_, σ1, e1, h⟩ := cl_some h
      have f1 : Fr P _ _ := Fr.trans Fr.refl (fr_Program_isMarked   e1)
      rcases ite_some h with ⟨_, h⟩ | ⟨_, h⟩
      · obtain ⟨_, σ3, e3, h⟩ := cl_some h
        have f3 : Fr P _ _ := Fr.trans f1 (fr_Program_pushes   e3)
        rcases ite_some h with ⟨_, h⟩ | ⟨_, h⟩
        · replace h := nm_some h
          exact Fr.trans f3 (ih _ _ _ _ w0 h)
        · obtain ⟨_, σ6, e6, h⟩ := cl_some h
          have f6 : Fr P _ _ := Fr.trans f3 (fr_Program_itemPlace   e6)
          obtain ⟨σ8, e8, h⟩ := cv_some h
          have f8 : Fr P _ _ := Fr.trans f6 (fr_Program_giveLanding  w0 e8)
          replace h := nm_some h
          exact Fr.trans f8 (ih _ _ _ _ w0 h)
      · obtain ⟨_, σ10, e10, h⟩ := cl_some h
        have f10 : Fr P _ _ := Fr.trans f1 (fr_Program_itemPlace   e10)
        obtain ⟨σ12, e12, h⟩ := cv_some h
        have f12 : Fr P _ _ := Fr.trans f10 (fr_Program_giveLanding  w0 e12)
        replace h := nm_some h
        exact Fr.trans f12 (ih _ _ _ _ w0 h)
theorem fr_Program_findLandings_B2 {P : Nat → Prop} : ∀ (n : Nat) (v0 : Nat) (v1 : Int32) (σ : St) (r : St), P (ch v0 13) → Program_findLandings_B2 n v0 v1 σ = some r → Fr P σ r := by
  intro n
  induction n with
  | zero => intro v0 v1 σ r w0 h; unfold Program_findLandings_B2 at h; cases h
  | succ n ih =>
    intro v0 v1 σ r w0 h
    unfold Program_findLandings_B2 at h
    rcases ite_some h with ⟨_, h⟩ | ⟨_, h⟩
    · exact Fr.trans Fr.refl (fr_Program_findLandings_B24  _ _ _ _ _ w0 h)
    · replace h := (sa_some h).2
      replace h := nm_some h
      exact Fr.trans (Fr.s2 w0 Fr.refl) (ih _ _ _ _ w0 h)
theorem fr_Program_findLandings {P : Nat → Prop} {v0 : Nat} {σ : St} {r : St} (w0 : P (ch v0 13)) (h : Program_findLandings v0 σ = some r) : Fr P σ r := by
  unfold Program_findLandings at h
  exact Fr.trans Fr.refl (fr_Program_findLandings_B2  _ _ _ _ _ w0 h)
theorem fr_Program_landingAt {P : Nat → Prop} {v0 : Nat} {v1 : Int32} {σ : St} {r : Int32 × St} (h : Program_landingAt v0 v1 σ = some r) : Fr P σ r.2 := by
  unfold Program_landingAt at h
  obtain ⟨_, σ1, e1, h⟩ := cl_some h
  have f1 : Fr P _ _ := Fr.trans Fr.refl (fr_House_isService   e1)
  rcases ite_some h with ⟨_, h⟩ | ⟨_, h⟩
  · replace h := nm_some h
    rcases ite_some h with ⟨_, h⟩ | ⟨_, h⟩
    · rw [← Option.some.inj h]; exact f1
    · rcases ite_some h with ⟨_, h⟩ | ⟨_, h⟩
      · rw [← Option.some.inj h]; exact f1
      · rcases ite_some h with ⟨_, h⟩ | ⟨_, h⟩
        · rw [← Option.some.inj h]; exact f1
        · rcases ite_some h with ⟨_, h⟩ | ⟨_, h⟩
          · replace h := (ld_some h).2
            rw [← Option.some.inj h]; exact f1
          · rw [← Option.some.inj h]; exact f1
  · rw [← Option.some.inj h]; exact f1
theorem fr_Program_pastLabels_B6 {P : Nat → Prop} : ∀ (n : Nat) (v0 : Nat) (v2 : Int32) (σ : St) (r : Int32 × St), Program_pastLabels_B6 n v0 v2 σ = some r → Fr P σ r.2 := by
  intro n
  induction n with
  | zero => intro v0 v2 σ r  h; unfold Program_pastLabels_B6 at h; cases h
  | succ n ih =>
    intro v0 v2 σ r  h
    unfold Program_pastLabels_B6 at h
    rcases ite_some h with ⟨_, h⟩ | ⟨_, h⟩
    · rw [← Option.some.inj h]; exact Fr.refl
    · rcases ite_some h with ⟨_, h⟩ | ⟨_, h⟩
      · rw [← Option.some.inj h]; exact Fr.refl
      · replace h := (ld_some h).2
        rcases ite_some h with ⟨_, h⟩ | ⟨_, h⟩
        · rw [← Option.some.inj h]; exact Fr.refl
        · replace h := nm_some h
          exact Fr.trans Fr.refl (ih _ _ _ _  h)
theorem fr_Program_pastLabels {P : Nat → Prop} {v0 : Nat} {v1 : Int32} {σ : St} {r : Int32 × St} (h : Program_pastLabels v0 v1 σ = some r) : Fr P σ r.2 := by
  unfold Program_pastLabels at h
  replace h := nm_some h
  exact Fr.trans Fr.refl (fr_Program_pastLabels_B6  _ _ _ _ _  h)
theorem fr_Program_addressOf {P : Nat → Prop} {v0 : Nat} {v1 : Int32} {σ : St} {r : Int32 × St} (h : Program_addressOf v0 v1 σ = some r) : Fr P σ r.2 := by
  unfold Program_addressOf at h
  rcases ite_some h with ⟨_, h⟩ | ⟨_, h⟩
  · obtain ⟨_, σ1, e1, h⟩ := cl_some h
    have f1 : Fr P _ _ := Fr.trans Fr.refl (fr_Program_hasItem   e1)
    rcases ite_some h with ⟨_, h⟩ | ⟨_, h⟩
    · rw [← Option.some.inj h]; exact f1
    · replace h := (ld_some h).2
      rw [← Option.some.inj h]; exact f1
  · rw [← Option.some.inj h]; exact Fr.refl
theorem fr_Piece_put {P : Nat → Prop} {v0 : Nat} {v1 : Int32} {σ : St} {r : St} (w0 : P v0) (w1 : P (ch v0 0)) (h : Piece_put v0 v1 σ = some r) : Fr P σ r := by
  unfold Piece_put at h
  rcases ite_some h with ⟨_, h⟩ | ⟨_, h⟩
  · rw [← Option.some.inj h]; exact Fr.refl
  · replace h := (sa_some h).2
    replace h := nm_some h
    rw [← Option.some.inj h]; exact (Fr.s2 w0 (Fr.s2 w1 Fr.refl))
theorem fr_Piece_putFour {P : Nat → Prop} {v0 : Nat} {v1 : Int32} {σ : St} {r : St} (w0 : P v0) (w1 : P (ch v0 0)) (h : Piece_putFour v0 v1 σ = some r) : Fr P σ r := by
  unfold Piece_putFour at h
  obtain ⟨σ1, e1, h⟩ := cv_some h
  have f1 : Fr P _ _ := Fr.trans Fr.refl (fr_Piece_put  w0 w1 e1)
  obtain ⟨σ2, e2, h⟩ := cv_some h
  have f2 : Fr P _ _ := Fr.trans f1 (fr_Piece_put  w0 w1 e2)
  obtain ⟨σ3, e3, h⟩ := cv_some h
  have f3 : Fr P _ _ := Fr.trans f2 (fr_Piece_put  w0 w1 e3)
  obtain ⟨σ4, e4, h⟩ := cv_some h
  have f4 : Fr P _ _ := Fr.trans f3 (fr_Piece_put  w0 w1 e4)
  rw [← Option.some.inj h]; exact f4
theorem fr_Piece_hasOperand {P : Nat → Prop} {v0 : Nat} {σ : St} {r : Int32 × St} (h : Piece_hasOperand v0 σ = some r) : Fr P σ r.2 := by
  unfold Piece_hasOperand at h
  rcases ite_some h with ⟨_, h⟩ | ⟨_, h⟩
  · rcases ite_some h with ⟨_, h⟩ | ⟨_, h⟩
    · rw [← Option.some.inj h]; exact Fr.refl
    · rcases ite_some h with ⟨_, h⟩ | ⟨_, h⟩
      · rw [← Option.some.inj h]; exact Fr.refl
      · rcases ite_some h with ⟨_, h⟩ | ⟨_, h⟩
        · rw [← Option.some.inj h]; exact Fr.refl
        · rcases ite_some h with ⟨_, h⟩ | ⟨_, h⟩
          · rw [← Option.some.inj h]; exact Fr.refl
          · rw [← Option.some.inj h]; exact Fr.refl
  · rcases ite_some h with ⟨_, h⟩ | ⟨_, h⟩
    · rw [← Option.some.inj h]; exact Fr.refl
    · rcases ite_some h with ⟨_, h⟩ | ⟨_, h⟩
      · rw [← Option.some.inj h]; exact Fr.refl
      · rw [← Option.some.inj h]; exact Fr.refl
theorem fr_House_isSmall {P : Nat → Prop} {v0 : Int32} {σ : St} {r : Int32 × St} (h : House_isSmall v0 σ = some r) : Fr P σ r.2 := by
  unfold House_isSmall at h
  rcases ite_some h with ⟨_, h⟩ | ⟨_, h⟩
  · rw [← Option.some.inj h]; exact Fr.refl
  · rcases ite_some h with ⟨_, h⟩ | ⟨_, h⟩
    · rw [← Option.some.inj h]; exact Fr.refl
    · rw [← Option.some.inj h]; exact Fr.refl
theorem fr_Piece_putArithmeticLead_B17 {P : Nat → Prop} {v0 : Nat} {v1 : Nat} {σ : St} {r : St} (w0 : P v0) (w1 : P (ch v0 0)) (h : Piece_putArithmeticLead_B17 v0 v1 σ = some r) : Fr P σ r := by
  unfold Piece_putArithmeticLead_B17 at h
  obtain ⟨_, σ1, e1, h⟩ := cl_some h
  have f1 : Fr P _ _ := Fr.trans Fr.refl (fr_House_isSmall   e1)
  rcases ite_some h with ⟨_, h⟩ | ⟨_, h⟩
  · obtain ⟨σ3, e3, h⟩ := cv_some h
    have f3 : Fr P _ _ := Fr.trans f1 (fr_Piece_put  w0 w1 e3)
    rw [← Option.some.inj h]; exact f3
  · obtain ⟨σ4, e4, h⟩ := cv_some h
    have f4 : Fr P _ _ := Fr.trans f1 (fr_Piece_put  w0 w1 e4)
    rw [← Option.some.inj h]; exact f4
theorem fr_Piece_putArithmeticLead {P : Nat → Prop} {v0 : Nat} {v1 : Nat} {σ : St} {r : St} (w0 : P v0) (w1 : P (ch v0 0)) (h : Piece_putArithmeticLead v0 v1 σ = some r) : Fr P σ r := by
  unfold Piece_putArithmeticLead at h
  rcases ite_some h with ⟨_, h⟩ | ⟨_, h⟩
  · exact Fr.trans Fr.refl (fr_Piece_putArithmeticLead_B17  w0 w1 h)
  · rcases ite_some h with ⟨_, h⟩ | ⟨_, h⟩
    · rcases ite_some h with ⟨_, h⟩ | ⟨_, h⟩
      · obtain ⟨σ1, e1, h⟩ := cv_some h
        have f1 : Fr P _ _ := Fr.trans Fr.refl (fr_Piece_put  w0 w1 e1)
        rw [← Option.some.inj h]; exact f1
      · obtain ⟨σ2, e2, h⟩ := cv_some h
        have f2 : Fr P _ _ := Fr.trans Fr.refl (fr_Piece_put  w0 w1 e2)
        rw [← Option.some.inj h]; exact f2
    · exact Fr.trans Fr.refl (fr_Piece_putArithmeticLead_B17  w0 w1 h)
theorem fr_Piece_putMovLead {P : Nat → Prop} {v0 : Nat} {v1 : Nat} {σ : St} {r : St} (w0 : P v0) (w1 : P (ch v0 0)) (h : Piece_putMovLead v0 v1 σ = some r) : Fr P σ r := by
  unfold Piece_putMovLead at h
  rcases ite_some h with ⟨_, h⟩ | ⟨_, h⟩
  · rcases ite_some h with ⟨_, h⟩ | ⟨_, h⟩
    · rcases ite_some h with ⟨_, h⟩ | ⟨_, h⟩
      · obtain ⟨σ1, e1, h⟩ := cv_some h
        have f1 : Fr P _ _ := Fr.trans Fr.refl (fr_Piece_put  w0 w1 e1)
        rw [← Option.some.inj h]; exact f1
      · obtain ⟨σ2, e2, h⟩ := cv_some h
        have f2 : Fr P _ _ := Fr.trans Fr.refl (fr_Piece_put  w0 w1 e2)
        rw [← Option.some.inj h]; exact f2
    · obtain ⟨σ3, e3, h⟩ := cv_some h
      have f3 : Fr P _ _ := Fr.trans Fr.refl (fr_Piece_put  w0 w1 e3)
      rw [← Option.some.inj h]; exact f3
  · obtain ⟨σ4, e4, h⟩ := cv_some h
    have f4 : Fr P _ _ := Fr.trans Fr.refl (fr_Piece_put  w0 w1 e4)
    rw [← Option.some.inj h]; exact f4
theorem fr_Piece_putLead_B144 {P : Nat → Prop} {v0 : Nat} {v1 : Nat} {σ : St} {r : St} (w0 : P v0) (w1 : P (ch v0 0)) (h : Piece_putLead_B144 v0 v1 σ = some r) : Fr P σ r := by
  unfold Piece_putLead_B144 at h
  obtain ⟨σ1, e1, h⟩ := cv_some h
  have f1 : Fr P _ _ := Fr.trans Fr.refl (fr_Piece_put  w0 w1 e1)
  rw [← Option.some.inj h]; exact f1
theorem fr_Piece_putLead {P : Nat → Prop} {v0 : Nat} {v1 : Nat} {σ : St} {r : St} (w0 : P v0) (w1 : P (ch v0 0)) (h : Piece_putLead v0 v1 σ = some r) : Fr P σ r := by
  unfold Piece_putLead at h
  replace h := nm_some h
  rcases ite_some h with ⟨_, h⟩ | ⟨_, h⟩
  · obtain ⟨σ2, e2, h⟩ := cv_some h
    have f2 : Fr P _ _ := Fr.trans Fr.refl (fr_Piece_putMovLead  w0 w1 e2)
    rw [← Option.some.inj h]; exact f2
  · rcases ite_some h with ⟨_, h⟩ | ⟨_, h⟩
    · obtain ⟨σ3, e3, h⟩ := cv_some h
      have f3 : Fr P _ _ := Fr.trans Fr.refl (fr_Piece_put  w0 w1 e3)
      rw [← Option.some.inj h]; exact f3
    · rcases ite_some h with ⟨_, h⟩ | ⟨_, h⟩
      · obtain ⟨σ4, e4, h⟩ := cv_some h
        have f4 : Fr P _ _ := Fr.trans Fr.refl (fr_Piece_put  w0 w1 e4)
        rw [← Option.some.inj h]; exact f4
      · rcases ite_some h with ⟨_, h⟩ | ⟨_, h⟩
        · obtain ⟨σ5, e5, h⟩ := cv_some h
          have f5 : Fr P _ _ := Fr.trans Fr.refl (fr_Piece_put  w0 w1 e5)
          obtain ⟨σ6, e6, h⟩ := cv_some h
          have f6 : Fr P _ _ := Fr.trans f5 (fr_Piece_put  w0 w1 e6)
          rw [← Option.some.inj h]; exact f6
        · rcases ite_some h with ⟨_, h⟩ | ⟨_, h⟩
          · obtain ⟨σ7, e7, h⟩ := cv_some h
            have f7 : Fr P _ _ := Fr.trans Fr.refl (fr_Piece_put  w0 w1 e7)
            rw [← Option.some.inj h]; exact f7
          · rcases ite_some h with ⟨_, h⟩ | ⟨_, h⟩
            · obtain ⟨σ8, e8, h⟩ := cv_some h
              have f8 : Fr P _ _ := Fr.trans Fr.refl (fr_Piece_put  w0 w1 e8)
              rw [← Option.some.inj h]; exact f8
            · rcases ite_some h with ⟨_, h⟩ | ⟨_, h⟩
              · obtain ⟨σ9, e9, h⟩ := cv_some h
                have f9 : Fr P _ _ := Fr.trans Fr.refl (fr_Piece_put  w0 w1 e9)
                rw [← Option.some.inj h]; exact f9
              · rcases ite_some h with ⟨_, h⟩ | ⟨_, h⟩
                · obtain ⟨σ10, e10, h⟩ := cv_some h
                  have f10 : Fr P _ _ := Fr.trans Fr.refl (fr_Piece_put  w0 w1 e10)
                  rw [← Option.some.inj h]; exact f10
                · rcases ite_some h with ⟨_, h⟩ | ⟨_, h⟩
                  · obtain ⟨σ11, e11, h⟩ := cv_some h
                    have f11 : Fr P _ _ := Fr.trans Fr.refl (fr_Piece_put  w0 w1 e11)
                    rw [← Option.some.inj h]; exact f11
                  · rcases ite_some h with ⟨_, h⟩ | ⟨_, h⟩
                    · exact Fr.trans Fr.refl (fr_Piece_putLead_B144  w0 w1 h)
                    · rcases ite_some h with ⟨_, h⟩ | ⟨_, h⟩
                      · exact Fr.trans Fr.refl (fr_Piece_putLead_B144  w0 w1 h)
                      · rcases ite_some h with ⟨_, h⟩ | ⟨_, h⟩
                        · rcases ite_some h with ⟨_, h⟩ | ⟨_, h⟩
                          · obtain ⟨_, σ12, e12, h⟩ := cl_some h
                            have f12 : Fr P _ _ := Fr.trans Fr.refl (fr_House_isSmall   e12)
                            rcases ite_some h with ⟨_, h⟩ | ⟨_, h⟩
                            · obtain ⟨σ14, e14, h⟩ := cv_some h
                              have f14 : Fr P _ _ := Fr.trans f12 (fr_Piece_put  w0 w1 e14)
                              rw [← Option.some.inj h]; exact f14
                            · obtain ⟨σ15, e15, h⟩ := cv_some h
                              have f15 : Fr P _ _ := Fr.trans f12 (fr_Piece_put  w0 w1 e15)
                              rw [← Option.some.inj h]; exact f15
                          · obtain ⟨σ16, e16, h⟩ := cv_some h
                            have f16 : Fr P _ _ := Fr.trans Fr.refl (fr_Piece_put  w0 w1 e16)
                            rw [← Option.some.inj h]; exact f16
                        · rcases ite_some h with ⟨_, h⟩ | ⟨_, h⟩
                          · exact Fr.trans Fr.refl (fr_Piece_putLead_B144  w0 w1 h)
                          · rcases ite_some h with ⟨_, h⟩ | ⟨_, h⟩
                            · obtain ⟨σ17, e17, h⟩ := cv_some h
                              have f17 : Fr P _ _ := Fr.trans Fr.refl (fr_Piece_put  w0 w1 e17)
                              rw [← Option.some.inj h]; exact f17
                            · rcases ite_some h with ⟨_, h⟩ | ⟨_, h⟩
                              · obtain ⟨σ18, e18, h⟩ := cv_some h
                                have f18 : Fr P _ _ := Fr.trans Fr.refl (fr_Piece_put  w0 w1 e18)
                                rw [← Option.some.inj h]; exact f18
                              · obtain ⟨σ19, e19, h⟩ := cv_some h
                                have f19 : Fr P _ _ := Fr.trans Fr.refl (fr_Piece_putArithmeticLead  w0 w1 e19)
                                rw [← Option.some.inj h]; exact f19
theorem fr_House_isMemoryForm {P : Nat → Prop} {v0 : Int32} {σ : St} {r : Int32 × St} (h : House_isMemoryForm v0 σ = some r) : Fr P σ r.2 := by
  unfold House_isMemoryForm at h
  rcases ite_some h with ⟨_, h⟩ | ⟨_, h⟩
  · rw [← Option.some.inj h]; exact Fr.refl
  · rcases ite_some h with ⟨_, h⟩ | ⟨_, h⟩
    · rw [← Option.some.inj h]; exact Fr.refl
    · rcases ite_some h with ⟨_, h⟩ | ⟨_, h⟩
      · rw [← Option.some.inj h]; exact Fr.refl
      · rcases ite_some h with ⟨_, h⟩ | ⟨_, h⟩
        · rw [← Option.some.inj h]; exact Fr.refl
        · rw [← Option.some.inj h]; exact Fr.refl
theorem fr_Piece_middleOf {P : Nat → Prop} {v0 : Nat} {σ : St} {r : Int32 × St} (h : Piece_middleOf v0 σ = some r) : Fr P σ r.2 := by
  unfold Piece_middleOf at h
  rcases ite_some h with ⟨_, h⟩ | ⟨_, h⟩
  · rcases ite_some h with ⟨_, h⟩ | ⟨_, h⟩
    · rw [← Option.some.inj h]; exact Fr.refl
    · rcases ite_some h with ⟨_, h⟩ | ⟨_, h⟩
      · replace h := nm_some h
        rcases ite_some h with ⟨_, h⟩ | ⟨_, h⟩
        · rw [← Option.some.inj h]; exact Fr.refl
        · rcases ite_some h with ⟨_, h⟩ | ⟨_, h⟩
          · rw [← Option.some.inj h]; exact Fr.refl
          · rcases ite_some h with ⟨_, h⟩ | ⟨_, h⟩
            · rw [← Option.some.inj h]; exact Fr.refl
            · rcases ite_some h with ⟨_, h⟩ | ⟨_, h⟩
              · rw [← Option.some.inj h]; exact Fr.refl
              · rcases ite_some h with ⟨_, h⟩ | ⟨_, h⟩
                · rw [← Option.some.inj h]; exact Fr.refl
                · rcases ite_some h with ⟨_, h⟩ | ⟨_, h⟩
                  · rw [← Option.some.inj h]; exact Fr.refl
                  · rcases ite_some h with ⟨_, h⟩ | ⟨_, h⟩
                    · rw [← Option.some.inj h]; exact Fr.refl
                    · rcases ite_some h with ⟨_, h⟩ | ⟨_, h⟩
                      · rw [← Option.some.inj h]; exact Fr.refl
                      · rcases ite_some h with ⟨_, h⟩ | ⟨_, h⟩
                        · rw [← Option.some.inj h]; exact Fr.refl
                        · rw [← Option.some.inj h]; exact Fr.refl
      · rw [← Option.some.inj h]; exact Fr.refl
  · rcases ite_some h with ⟨_, h⟩ | ⟨_, h⟩
    · rw [← Option.some.inj h]; exact Fr.refl
    · rw [← Option.some.inj h]; exact Fr.refl
theorem fr_Piece_putOperand_B215 {P : Nat → Prop} {v0 : Nat} {v1 : Nat} {v4 : Int32} {v6 : Int32} {σ : St} {r : St} (w0 : P v0) (w1 : P (ch v0 0)) (h : Piece_putOperand_B215 v0 v1 v4 v6 σ = some r) : Fr P σ r := by
  unfold Piece_putOperand_B215 at h
  rcases ite_some h with ⟨_, h⟩ | ⟨_, h⟩
  · obtain ⟨σ1, e1, h⟩ := cv_some h
    have f1 : Fr P _ _ := Fr.trans Fr.refl (fr_Piece_putFour  w0 w1 e1)
    rw [← Option.some.inj h]; exact f1
  · rcases ite_some h with ⟨_, h⟩ | ⟨_, h⟩
    · rcases ite_some h with ⟨_, h⟩ | ⟨_, h⟩
      · rw [← Option.some.inj h]; exact Fr.refl
      · obtain ⟨σ2, e2, h⟩ := cv_some h
        have f2 : Fr P _ _ := Fr.trans Fr.refl (fr_Piece_put  w0 w1 e2)
        rw [← Option.some.inj h]; exact f2
    · obtain ⟨σ3, e3, h⟩ := cv_some h
      have f3 : Fr P _ _ := Fr.trans Fr.refl (fr_Piece_putFour  w0 w1 e3)
      rw [← Option.some.inj h]; exact f3
theorem fr_Piece_putOperand_B163 {P : Nat → Prop} {v0 : Nat} {v1 : Nat} {v2 : Int32} {v3 : Int32} {v4 : Int32} {v5 : Int32} {v6 : Int32} {σ : St} {r : St} (w0 : P v0) (w1 : P (ch v0 0)) (h : Piece_putOperand_B163 v0 v1 v2 v3 v4 v5 v6 σ = some r) : Fr P σ r := by
  unfold Piece_putOperand_B163 at h
  obtain ⟨σ1, e1, h⟩ := cv_some h
  have f1 : Fr P _ _ := Fr.trans Fr.refl (fr_Piece_put  w0 w1 e1)
  obtain ⟨_, σ2, e2, h⟩ := cl_some h
  have f2 : Fr P _ _ := Fr.trans f1 (fr_Instruction_scale   e2)
  rcases ite_some h with ⟨_, h⟩ | ⟨_, h⟩
  · obtain ⟨_, σ4, e4, h⟩ := cl_some h
    have f4 : Fr P _ _ := Fr.trans f2 (fr_Instruction_index   e4)
    rcases ite_some h with ⟨_, h⟩ | ⟨_, h⟩
    · obtain ⟨σ6, e6, h⟩ := cv_some h
      have f6 : Fr P _ _ := Fr.trans f4 (fr_Piece_put  w0 w1 e6)
      exact Fr.trans f6 (fr_Piece_putOperand_B215  w0 w1 h)
    · obtain ⟨σ7, e7, h⟩ := cv_some h
      have f7 : Fr P _ _ := Fr.trans f4 (fr_Piece_put  w0 w1 e7)
      exact Fr.trans f7 (fr_Piece_putOperand_B215  w0 w1 h)
  · rcases ite_some h with ⟨_, h⟩ | ⟨_, h⟩
    · obtain ⟨σ8, e8, h⟩ := cv_some h
      have f8 : Fr P _ _ := Fr.trans f2 (fr_Piece_put  w0 w1 e8)
      exact Fr.trans f8 (fr_Piece_putOperand_B215  w0 w1 h)
    · obtain ⟨σ9, e9, h⟩ := cv_some h
      have f9 : Fr P _ _ := Fr.trans f2 (fr_Piece_put  w0 w1 e9)
      exact Fr.trans f9 (fr_Piece_putOperand_B215  w0 w1 h)
theorem fr_Piece_putOperand_B128 {P : Nat → Prop} {v0 : Nat} {v1 : Nat} {v2 : Int32} {v3 : Int32} {v4 : Int32} {v5 : Int32} {v6 : Int32} {σ : St} {r : St} (w0 : P v0) (w1 : P (ch v0 0)) (h : Piece_putOperand_B128 v0 v1 v2 v3 v4 v5 v6 σ = some r) : Fr P σ r := by
  unfold Piece_putOperand_B128 at h
  rcases ite_some h with ⟨_, h⟩ | ⟨_, h⟩
  · exact Fr.trans Fr.refl (fr_Piece_putOperand_B163  w0 w1 h)
  · rcases ite_some h with ⟨_, h⟩ | ⟨_, h⟩
    · exact Fr.trans Fr.refl (fr_Piece_putOperand_B163  w0 w1 h)
    · rcases ite_some h with ⟨_, h⟩ | ⟨_, h⟩
      · obtain ⟨σ1, e1, h⟩ := cv_some h
        have f1 : Fr P _ _ := Fr.trans Fr.refl (fr_Piece_put  w0 w1 e1)
        exact Fr.trans f1 (fr_Piece_putOperand_B215  w0 w1 h)
      · obtain ⟨σ2, e2, h⟩ := cv_some h
        have f2 : Fr P _ _ := Fr.trans Fr.refl (fr_Piece_put  w0 w1 e2)
        exact Fr.trans f2 (fr_Piece_putOperand_B215  w0 w1 h)
theorem fr_Piece_putOperand_B106 {P : Nat → Prop} {v0 : Nat} {v1 : Nat} {v2 : Int32} {v3 : Int32} {v4 : Int32} {v5 : Int32} {t0 : Int32} {σ : St} {r : St} (w0 : P v0) (w1 : P (ch v0 0)) (h : Piece_putOperand_B106 v0 v1 v2 v3 v4 v5 t0 σ = some r) : Fr P σ r := by
  unfold Piece_putOperand_B106 at h
  rcases ite_some h with ⟨_, h⟩ | ⟨_, h⟩
  · exact Fr.trans Fr.refl (fr_Piece_putOperand_B128  w0 w1 h)
  · rcases ite_some h with ⟨_, h⟩ | ⟨_, h⟩
    · exact Fr.trans Fr.refl (fr_Piece_putOperand_B128  w0 w1 h)
    · rcases ite_some h with ⟨_, h⟩ | ⟨_, h⟩
      · exact Fr.trans Fr.refl (fr_Piece_putOperand_B128  w0 w1 h)
      · exact Fr.trans Fr.refl (fr_Piece_putOperand_B128  w0 w1 h)
theorem fr_Piece_putOperand_B89 {P : Nat → Prop} {v0 : Nat} {v1 : Nat} {v2 : Int32} {v3 : Int32} {v4 : Int32} {t0 : Int32} {σ : St} {r : St} (w0 : P v0) (w1 : P (ch v0 0)) (h : Piece_putOperand_B89 v0 v1 v2 v3 v4 t0 σ = some r) : Fr P σ r := by
  unfold Piece_putOperand_B89 at h
  obtain ⟨_, σ1, e1, h⟩ := cl_some h
  have f1 : Fr P _ _ := Fr.trans Fr.refl (fr_House_isSmall   e1)
  rcases ite_some h with ⟨_, h⟩ | ⟨_, h⟩
  · exact Fr.trans f1 (fr_Piece_putOperand_B106  w0 w1 h)
  · exact Fr.trans f1 (fr_Piece_putOperand_B106  w0 w1 h)
theorem fr_Piece_putOperand_B73 {P : Nat → Prop} {v0 : Nat} {v1 : Nat} {v2 : Int32} {v3 : Int32} {t0 : Int32} {σ : St} {r : St} (w0 : P v0) (w1 : P (ch v0 0)) (h : Piece_putOperand_B73 v0 v1 v2 v3 t0 σ = some r) : Fr P σ r := by
  unfold Piece_putOperand_B73 at h
  obtain ⟨_, σ1, e1, h⟩ := cl_some h
  have f1 : Fr P _ _ := Fr.trans Fr.refl (fr_Instruction_index   e1)
  rcases ite_some h with ⟨_, h⟩ | ⟨_, h⟩
  · exact Fr.trans f1 (fr_Piece_putOperand_B89  w0 w1 h)
  · exact Fr.trans f1 (fr_Piece_putOperand_B89  w0 w1 h)
theorem fr_Piece_putOperand {P : Nat → Prop} {v0 : Nat} {v1 : Nat} {σ : St} {r : St} (w0 : P v0) (w1 : P (ch v0 0)) (h : Piece_putOperand v0 v1 σ = some r) : Fr P σ r := by
  unfold Piece_putOperand at h
  obtain ⟨_, σ1, e1, h⟩ := cl_some h
  have f1 : Fr P _ _ := Fr.trans Fr.refl (fr_Piece_middleOf   e1)
  replace h := nm_some h
  obtain ⟨_, σ4, e4, h⟩ := cl_some h
  have f4 : Fr P _ _ := Fr.trans f1 (fr_House_isMemoryForm   e4)
  rcases ite_some h with ⟨_, h⟩ | ⟨_, h⟩
  · obtain ⟨_, σ6, e6, h⟩ := cl_some h
    have f6 : Fr P _ _ := Fr.trans f4 (fr_Instruction_base   e6)
    rcases ite_some h with ⟨_, h⟩ | ⟨_, h⟩
    · exact Fr.trans f6 (fr_Piece_putOperand_B73  w0 w1 h)
    · exact Fr.trans f6 (fr_Piece_putOperand_B73  w0 w1 h)
  · rcases ite_some h with ⟨_, h⟩ | ⟨_, h⟩
    · obtain ⟨σ8, e8, h⟩ := cv_some h
      have f8 : Fr P _ _ := Fr.trans f4 (fr_Piece_put  w0 w1 e8)
      rw [← Option.some.inj h]; exact f8
    · rcases ite_some h with ⟨_, h⟩ | ⟨_, h⟩
      · obtain ⟨σ9, e9, h⟩ := cv_some h
        have f9 : Fr P _ _ := Fr.trans f4 (fr_Piece_put  w0 w1 e9)
        rw [← Option.some.inj h]; exact f9
      · obtain ⟨σ10, e10, h⟩ := cv_some h
        have f10 : Fr P _ _ := Fr.trans f4 (fr_Piece_put  w0 w1 e10)
        rw [← Option.some.inj h]; exact f10
theorem fr_House_isShift {P : Nat → Prop} {v0 : Int32} {σ : St} {r : Int32 × St} (h : House_isShift v0 σ = some r) : Fr P σ r.2 := by
  unfold House_isShift at h
  rcases ite_some h with ⟨_, h⟩ | ⟨_, h⟩
  · rw [← Option.some.inj h]; exact Fr.refl
  · rcases ite_some h with ⟨_, h⟩ | ⟨_, h⟩
    · rw [← Option.some.inj h]; exact Fr.refl
    · rw [← Option.some.inj h]; exact Fr.refl
theorem fr_Piece_putValue_B27 {P : Nat → Prop} {v0 : Nat} {v1 : Nat} {σ : St} {r : St} (w0 : P v0) (w1 : P (ch v0 0)) (h : Piece_putValue_B27 v0 v1 σ = some r) : Fr P σ r := by
  unfold Piece_putValue_B27 at h
  obtain ⟨_, σ1, e1, h⟩ := cl_some h
  have f1 : Fr P _ _ := Fr.trans Fr.refl (fr_House_isShift   e1)
  rcases ite_some h with ⟨_, h⟩ | ⟨_, h⟩
  · obtain ⟨σ3, e3, h⟩ := cv_some h
    have f3 : Fr P _ _ := Fr.trans f1 (fr_Piece_put  w0 w1 e3)
    rw [← Option.some.inj h]; exact f3
  · rcases ite_some h with ⟨_, h⟩ | ⟨_, h⟩
    · obtain ⟨σ4, e4, h⟩ := cv_some h
      have f4 : Fr P _ _ := Fr.trans f1 (fr_Piece_putFour  w0 w1 e4)
      rw [← Option.some.inj h]; exact f4
    · obtain ⟨_, σ5, e5, h⟩ := cl_some h
      have f5 : Fr P _ _ := Fr.trans f1 (fr_House_isSmall   e5)
      rcases ite_some h with ⟨_, h⟩ | ⟨_, h⟩
      · obtain ⟨σ7, e7, h⟩ := cv_some h
        have f7 : Fr P _ _ := Fr.trans f5 (fr_Piece_putFour  w0 w1 e7)
        rw [← Option.some.inj h]; exact f7
      · obtain ⟨σ8, e8, h⟩ := cv_some h
        have f8 : Fr P _ _ := Fr.trans f5 (fr_Piece_put  w0 w1 e8)
        rw [← Option.some.inj h]; exact f8
theorem fr_Piece_putValue {P : Nat → Prop} {v0 : Nat} {v1 : Nat} {σ : St} {r : St} (w0 : P v0) (w1 : P (ch v0 0)) (h : Piece_putValue v0 v1 σ = some r) : Fr P σ r := by
  unfold Piece_putValue at h
  rcases ite_some h with ⟨_, h⟩ | ⟨_, h⟩
  · exact Fr.trans Fr.refl (fr_Piece_putValue_B27  w0 w1 h)
  · rcases ite_some h with ⟨_, h⟩ | ⟨_, h⟩
    · exact Fr.trans Fr.refl (fr_Piece_putValue_B27  w0 w1 h)
    · rcases ite_some h with ⟨_, h⟩ | ⟨_, h⟩
      · exact Fr.trans Fr.refl (fr_Piece_putValue_B27  w0 w1 h)
      · rw [← Option.some.inj h]; exact Fr.refl
theorem fr_Piece_become {P : Nat → Prop} {v0 : Nat} {v1 : Nat} {σ : St} {r : St} (w0 : P v0) (w1 : P (ch v0 0)) (h : Piece_become v0 v1 σ = some r) : Fr P σ r := by
  unfold Piece_become at h
  replace h := nm_some h
  obtain ⟨σ2, e2, h⟩ := cv_some h
  have f2 : Fr P _ _ := Fr.trans (Fr.s2 w0 Fr.refl) (fr_Piece_putLead  w0 w1 e2)
  obtain ⟨_, σ3, e3, h⟩ := cl_some h
  have f3 : Fr P _ _ := Fr.trans f2 (fr_Piece_hasOperand   e3)
  rcases ite_some h with ⟨_, h⟩ | ⟨_, h⟩
  · obtain ⟨σ5, e5, h⟩ := cv_some h
    have f5 : Fr P _ _ := Fr.trans f3 (fr_Piece_putValue  w0 w1 e5)
    rw [← Option.some.inj h]; exact f5
  · obtain ⟨σ6, e6, h⟩ := cv_some h
    have f6 : Fr P _ _ := Fr.trans f3 (fr_Piece_putOperand  w0 w1 e6)
    obtain ⟨σ7, e7, h⟩ := cv_some h
    have f7 : Fr P _ _ := Fr.trans f6 (fr_Piece_putValue  w0 w1 e7)
    rw [← Option.some.inj h]; exact f7
theorem fr_Piece_becomeRegisterOp {P : Nat → Prop} {v0 : Nat} {v1 : Int32} {v2 : Int32} {σ : St} {r : St} (w0 : P v0) (w1 : P (ch v0 0)) (h : Piece_becomeRegisterOp v0 v1 v2 σ = some r) : Fr P σ r := by
  unfold Piece_becomeRegisterOp at h
  replace h := nm_some h
  obtain ⟨σ2, e2, h⟩ := cv_some h
  have f2 : Fr P _ _ := Fr.trans (Fr.s2 w0 Fr.refl) (fr_Piece_put  w0 w1 e2)
  rw [← Option.some.inj h]; exact f2
theorem fr_Piece_becomePair {P : Nat → Prop} {v0 : Nat} {v1 : Int32} {v2 : Int32} {σ : St} {r : St} (w0 : P v0) (w1 : P (ch v0 0)) (h : Piece_becomePair v0 v1 v2 σ = some r) : Fr P σ r := by
  unfold Piece_becomePair at h
  replace h := nm_some h
  obtain ⟨σ2, e2, h⟩ := cv_some h
  have f2 : Fr P _ _ := Fr.trans (Fr.s2 w0 Fr.refl) (fr_Piece_put  w0 w1 e2)
  obtain ⟨σ3, e3, h⟩ := cv_some h
  have f3 : Fr P _ _ := Fr.trans f2 (fr_Piece_put  w0 w1 e3)
  obtain ⟨σ4, e4, h⟩ := cv_some h
  have f4 : Fr P _ _ := Fr.trans f3 (fr_Piece_put  w0 w1 e4)
  obtain ⟨σ5, e5, h⟩ := cv_some h
  have f5 : Fr P _ _ := Fr.trans f4 (fr_Piece_put  w0 w1 e5)
  rcases ite_some h with ⟨_, h⟩ | ⟨_, h⟩
  · obtain ⟨σ6, e6, h⟩ := cv_some h
    have f6 : Fr P _ _ := Fr.trans f5 (fr_Piece_put  w0 w1 e6)
    rw [← Option.some.inj h]; exact f6
  · obtain ⟨σ7, e7, h⟩ := cv_some h
    have f7 : Fr P _ _ := Fr.trans f5 (fr_Piece_put  w0 w1 e7)
    rw [← Option.some.inj h]; exact f7
theorem fr_Piece_becomeWithFour {P : Nat → Prop} {v0 : Nat} {v1 : Int32} {v2 : Int32} {σ : St} {r : St} (w0 : P v0) (w1 : P (ch v0 0)) (h : Piece_becomeWithFour v0 v1 v2 σ = some r) : Fr P σ r := by
  unfold Piece_becomeWithFour at h
  replace h := nm_some h
  obtain ⟨σ2, e2, h⟩ := cv_some h
  have f2 : Fr P _ _ := Fr.trans (Fr.s2 w0 Fr.refl) (fr_Piece_put  w0 w1 e2)
  obtain ⟨σ3, e3, h⟩ := cv_some h
  have f3 : Fr P _ _ := Fr.trans f2 (fr_Piece_putFour  w0 w1 e3)
  rw [← Option.some.inj h]; exact f3
theorem fr_Piece_becomeShort {P : Nat → Prop} {v0 : Nat} {v1 : Int32} {v2 : Int32} {σ : St} {r : St} (w0 : P v0) (w1 : P (ch v0 0)) (h : Piece_becomeShort v0 v1 v2 σ = some r) : Fr P σ r := by
  unfold Piece_becomeShort at h
  replace h := nm_some h
  obtain ⟨σ2, e2, h⟩ := cv_some h
  have f2 : Fr P _ _ := Fr.trans (Fr.s2 w0 Fr.refl) (fr_Piece_put  w0 w1 e2)
  obtain ⟨σ3, e3, h⟩ := cv_some h
  have f3 : Fr P _ _ := Fr.trans f2 (fr_Piece_put  w0 w1 e3)
  rw [← Option.some.inj h]; exact f3
theorem fr_Piece_becomeLongBranch {P : Nat → Prop} {v0 : Nat} {v1 : Int32} {v2 : Int32} {σ : St} {r : St} (w0 : P v0) (w1 : P (ch v0 0)) (h : Piece_becomeLongBranch v0 v1 v2 σ = some r) : Fr P σ r := by
  unfold Piece_becomeLongBranch at h
  replace h := nm_some h
  obtain ⟨σ2, e2, h⟩ := cv_some h
  have f2 : Fr P _ _ := Fr.trans (Fr.s2 w0 Fr.refl) (fr_Piece_put  w0 w1 e2)
  obtain ⟨σ3, e3, h⟩ := cv_some h
  have f3 : Fr P _ _ := Fr.trans f2 (fr_Piece_put  w0 w1 e3)
  obtain ⟨σ4, e4, h⟩ := cv_some h
  have f4 : Fr P _ _ := Fr.trans f3 (fr_Piece_putFour  w0 w1 e4)
  rw [← Option.some.inj h]; exact f4
theorem fr_Builder_faultOf {P : Nat → Prop} {v0 : Nat} {v1 : Int32} {σ : St} {r : Int32 × St} (h : Builder_faultOf v0 v1 σ = some r) : Fr P σ r.2 := by
  unfold Builder_faultOf at h
  obtain ⟨_, σ1, e1, h⟩ := cl_some h
  have f1 : Fr P _ _ := Fr.trans Fr.refl (fr_Program_hasItem   e1)
  rcases ite_some h with ⟨_, h⟩ | ⟨_, h⟩
  · replace h := (ld_some h).2
    obtain ⟨_, σ4, e4, h⟩ := cl_some h
    have f4 : Fr P _ _ := Fr.trans f1 (fr_Program_labelItem   e4)
    replace h := (ld_some h).2
    rcases ite_some h with ⟨_, h⟩ | ⟨_, h⟩
    · rcases ite_some h with ⟨_, h⟩ | ⟨_, h⟩
      · rw [← Option.some.inj h]; exact f4
      · rw [← Option.some.inj h]; exact f4
    · rcases ite_some h with ⟨_, h⟩ | ⟨_, h⟩
      · rcases ite_some h with ⟨_, h⟩ | ⟨_, h⟩
        · rw [← Option.some.inj h]; exact f4
        · rw [← Option.some.inj h]; exact f4
      · rcases ite_some h with ⟨_, h⟩ | ⟨_, h⟩
        · rcases ite_some h with ⟨_, h⟩ | ⟨_, h⟩
          · rw [← Option.some.inj h]; exact f4
          · rw [← Option.some.inj h]; exact f4
        · rcases ite_some h with ⟨_, h⟩ | ⟨_, h⟩
          · rcases ite_some h with ⟨_, h⟩ | ⟨_, h⟩
            · rw [← Option.some.inj h]; exact f4
            · rw [← Option.some.inj h]; exact f4
          · rcases ite_some h with ⟨_, h⟩ | ⟨_, h⟩
            · rw [← Option.some.inj h]; exact f4
            · rcases ite_some h with ⟨_, h⟩ | ⟨_, h⟩
              · rw [← Option.some.inj h]; exact f4
              · rcases ite_some h with ⟨_, h⟩ | ⟨_, h⟩
                · rw [← Option.some.inj h]; exact f4
                · rcases ite_some h with ⟨_, h⟩ | ⟨_, h⟩
                  · rw [← Option.some.inj h]; exact f4
                  · rcases ite_some h with ⟨_, h⟩ | ⟨_, h⟩
                    · rcases ite_some h with ⟨_, h⟩ | ⟨_, h⟩
                      · obtain ⟨_, σ7, e7, h⟩ := cl_some h
                        have f7 : Fr P _ _ := Fr.trans f4 (fr_Program_isMarked   e7)
                        rcases ite_some h with ⟨_, h⟩ | ⟨_, h⟩
                        · rw [← Option.some.inj h]; exact f7
                        · rw [← Option.some.inj h]; exact f7
                      · rw [← Option.some.inj h]; exact f4
                    · rw [← Option.some.inj h]; exact f4
  · rw [← Option.some.inj h]; exact f1
theorem fr_Builder_leftInBundle {P : Nat → Prop} {v0 : Nat} {σ : St} {r : Int32 × St} (h : Builder_leftInBundle v0 σ = some r) : Fr P σ r.2 := by
  unfold Builder_leftInBundle at h
  rw [← Option.some.inj h]; exact Fr.refl
theorem fr_Builder_layLast_B21 {P : Nat → Prop} {v0 : Nat} {v1 : Int32} {σ : St} {r : Int32 × St} (w0 : P v0) (h : Builder_layLast_B21 v0 v1 σ = some r) : Fr P σ r.2 := by
  unfold Builder_layLast_B21 at h
  obtain ⟨_, σ1, e1, h⟩ := cl_some h
  have f1 : Fr P _ _ := Fr.trans Fr.refl (fr_Builder_leftInBundle   e1)
  replace h := nm_some h
  rw [← Option.some.inj h]; exact (Fr.s2 w0 f1)
theorem fr_Builder_layLast {P : Nat → Prop} {v0 : Nat} {v1 : Int32} {σ : St} {r : Int32 × St} (w0 : P v0) (h : Builder_layLast v0 v1 σ = some r) : Fr P σ r.2 := by
  unfold Builder_layLast at h
  obtain ⟨_, σ1, e1, h⟩ := cl_some h
  have f1 : Fr P _ _ := Fr.trans Fr.refl (fr_Builder_leftInBundle   e1)
  rcases ite_some h with ⟨_, h⟩ | ⟨_, h⟩
  · exact Fr.trans f1 (fr_Builder_layLast_B21  w0 h)
  · obtain ⟨_, σ3, e3, h⟩ := cl_some h
    have f3 : Fr P _ _ := Fr.trans f1 (fr_Builder_leftInBundle   e3)
    replace h := nm_some h
    exact Fr.trans (Fr.s2 w0 f3) (fr_Builder_layLast_B21  w0 h)
theorem fr_Builder_layPiece_B21 {P : Nat → Prop} {v0 : Nat} {v1 : Int32} {σ : St} {r : Int32 × St} (w0 : P v0) (h : Builder_layPiece_B21 v0 v1 σ = some r) : Fr P σ r.2 := by
  unfold Builder_layPiece_B21 at h
  replace h := nm_some h
  replace h := nm_some h
  rw [← Option.some.inj h]; exact (Fr.s2 w0 Fr.refl)
theorem fr_Builder_layPiece {P : Nat → Prop} {v0 : Nat} {v1 : Int32} {σ : St} {r : Int32 × St} (w0 : P v0) (h : Builder_layPiece v0 v1 σ = some r) : Fr P σ r.2 := by
  unfold Builder_layPiece at h
  obtain ⟨_, σ1, e1, h⟩ := cl_some h
  have f1 : Fr P _ _ := Fr.trans Fr.refl (fr_Builder_leftInBundle   e1)
  rcases ite_some h with ⟨_, h⟩ | ⟨_, h⟩
  · exact Fr.trans f1 (fr_Builder_layPiece_B21  w0 h)
  · obtain ⟨_, σ3, e3, h⟩ := cl_some h
    have f3 : Fr P _ _ := Fr.trans f1 (fr_Builder_leftInBundle   e3)
    replace h := nm_some h
    exact Fr.trans (Fr.s2 w0 f3) (fr_Builder_layPiece_B21  w0 h)
theorem fr_Builder_layItem_B52 {P : Nat → Prop} {v0 : Nat} {v1 : Int32} {σ : St} {r : Int32 × St} (w0 : P v0) (h : Builder_layItem_B52 v0 v1 σ = some r) : Fr P σ r.2 := by
  unfold Builder_layItem_B52 at h
  replace h := (ld_some h).2
  obtain ⟨_, σ2, e2, h⟩ := cl_some h
  have f2 : Fr P _ _ := Fr.trans Fr.refl (fr_Builder_layPiece  w0 e2)
  replace h := (ld_some h).2
  rcases ite_some h with ⟨_, h⟩ | ⟨_, h⟩
  · rw [← Option.some.inj h]; exact f2
  · obtain ⟨_, σ5, e5, h⟩ := cl_some h
    have f5 : Fr P _ _ := Fr.trans f2 (fr_Builder_layPiece  w0 e5)
    rw [← Option.some.inj h]; exact f5
theorem fr_Builder_layItem {P : Nat → Prop} {v0 : Nat} {v1 : Int32} {σ : St} {r : Int32 × St} (w0 : P v0) (h : Builder_layItem v0 v1 σ = some r) : Fr P σ r.2 := by
  unfold Builder_layItem at h
  obtain ⟨_, σ1, e1, h⟩ := cl_some h
  have f1 : Fr P _ _ := Fr.trans Fr.refl (fr_Program_pushes   e1)
  rcases ite_some h with ⟨_, h⟩ | ⟨_, h⟩
  · obtain ⟨_, σ3, e3, h⟩ := cl_some h
    have f3 : Fr P _ _ := Fr.trans f1 (fr_Program_isMarked   e3)
    rcases ite_some h with ⟨_, h⟩ | ⟨_, h⟩
    · exact Fr.trans f3 (fr_Builder_layItem_B52  w0 h)
    · replace h := nm_some h
      exact Fr.trans (Fr.s2 w0 f3) (fr_Builder_layItem_B52  w0 h)
  · replace h := (ld_some h).2
    obtain ⟨_, σ7, e7, h⟩ := cl_some h
    have f7 : Fr P _ _ := Fr.trans f1 (fr_Builder_layLast  w0 e7)
    rw [← Option.some.inj h]; exact f7
theorem fr_Builder_layAll_B7 {P : Nat → Prop} : ∀ (n : Nat) (v0 : Nat) (v1 : Int32) (σ : St) (r : St), P v0 → P (ch v0 1) → P (ch (ch v0 1) 3) → Builder_layAll_B7 n v0 v1 σ = some r → Fr P σ r := by
  intro n
  induction n with
  | zero => intro v0 v1 σ r w0 w1 w2 h; unfold Builder_layAll_B7 at h; cases h
  | succ n ih =>
    intro v0 v1 σ r w0 w1 w2 h
    unfold Builder_layAll_B7 at h
    rcases ite_some h with ⟨_, h⟩ | ⟨_, h⟩
    · replace h := nm_some h
      rw [← Option.some.inj h]; exact (Fr.s2 w1 Fr.refl)
    · rcases ite_some h with ⟨_, h⟩ | ⟨_, h⟩
      · replace h := nm_some h
        rw [← Option.some.inj h]; exact (Fr.s2 w1 Fr.refl)
      · obtain ⟨_, σ3, e3, h⟩ := cl_some h
        have f3 : Fr P _ _ := Fr.trans Fr.refl (fr_Builder_layItem  w0 e3)
        replace h := (sa_some h).2
        replace h := nm_some h
        exact Fr.trans (Fr.s2 w2 f3) (ih _ _ _ _ w0 w1 w2 h)
theorem fr_Builder_layAll {P : Nat → Prop} {v0 : Nat} {σ : St} {r : St} (w0 : P v0) (w1 : P (ch v0 1)) (w2 : P (ch (ch v0 1) 3)) (h : Builder_layAll v0 σ = some r) : Fr P σ r := by
  unfold Builder_layAll at h
  replace h := nm_some h
  exact Fr.trans (Fr.s2 w0 Fr.refl) (fr_Builder_layAll_B7  _ _ _ _ _ w0 w1 w2 h)
theorem fr_Builder_labelPlace {P : Nat → Prop} {v0 : Nat} {v1 : Int32} {σ : St} {r : Int32 × St} (h : Builder_labelPlace v0 v1 σ = some r) : Fr P σ r.2 := by
  unfold Builder_labelPlace at h
  replace h := (ld_some h).2
  obtain ⟨_, σ2, e2, h⟩ := cl_some h
  have f2 : Fr P _ _ := Fr.trans Fr.refl (fr_Program_labelItem   e2)
  obtain ⟨_, σ4, e4, h⟩ := cl_some h
  have f4 : Fr P _ _ := Fr.trans f2 (fr_Program_itemPlace   e4)
  rw [← Option.some.inj h]; exact f4
theorem fr_Builder_distance {P : Nat → Prop} {v0 : Nat} {v1 : Int32} {σ : St} {r : Int32 × St} (h : Builder_distance v0 v1 σ = some r) : Fr P σ r.2 := by
  unfold Builder_distance at h
  obtain ⟨_, σ1, e1, h⟩ := cl_some h
  have f1 : Fr P _ _ := Fr.trans Fr.refl (fr_Builder_labelPlace   e1)
  replace h := (ld_some h).2
  replace h := (ld_some h).2
  rw [← Option.some.inj h]; exact f1
theorem fr_Builder_lengthen_B52 {P : Nat → Prop} {K4 : Nat → Int32 → Int32 → St → Option (Int32 × St)} (hK4 : ∀ (v0 : Nat) (v1 : Int32) (v2 : Int32) (σ : St) (r : Int32 × St), P (ch v0 5) → K4 v0 v1 v2 σ = some r → Fr P σ r.2) {v0 : Nat} {v1 : Int32} {v2 : Int32} {t0 : Int32} {σ : St} {r : Int32 × St} (w0 : P (ch v0 5)) (h : Builder_lengthen_B52 K4 v0 v1 v2 t0 σ = some r) : Fr P σ r.2 := by
  unfold Builder_lengthen_B52 at h
  rcases ite_some h with ⟨_, h⟩ | ⟨_, h⟩
  · replace h := nm_some h
    exact Fr.trans Fr.refl (hK4 _ _ _ _ _ w0 h)
  · replace h := (ld_some h).2
    rcases ite_some h with ⟨_, h⟩ | ⟨_, h⟩
    · replace h := nm_some h
      exact Fr.trans Fr.refl (hK4 _ _ _ _ _ w0 h)
    · obtain ⟨_, σ4, e4, h⟩ := cl_some h
      have f4 : Fr P _ _ := Fr.trans Fr.refl (fr_Builder_distance   e4)
      obtain ⟨_, σ6, e6, h⟩ := cl_some h
      have f6 : Fr P _ _ := Fr.trans f4 (fr_House_isSmall   e6)
      rcases ite_some h with ⟨_, h⟩ | ⟨_, h⟩
      · replace h := nm_some h
        exact Fr.trans f6 (hK4 _ _ _ _ _ w0 h)
      · replace h := (ld_some h).2
        rcases ite_some h with ⟨_, h⟩ | ⟨_, h⟩
        · replace h := (sa_some h).2
          replace h := nm_some h
          exact Fr.trans (Fr.s2 w0 f6) (hK4 _ _ _ _ _ w0 h)
        · replace h := (sa_some h).2
          replace h := nm_some h
          exact Fr.trans (Fr.s2 w0 f6) (hK4 _ _ _ _ _ w0 h)
theorem fr_Builder_lengthen_B4 {P : Nat → Prop} : ∀ (n : Nat) (v0 : Nat) (v1 : Int32) (v2 : Int32) (σ : St) (r : Int32 × St), P (ch v0 5) → Builder_lengthen_B4 n v0 v1 v2 σ = some r → Fr P σ r.2 := by
  intro n
  induction n with
  | zero => intro v0 v1 v2 σ r w0 h; unfold Builder_lengthen_B4 at h; cases h
  | succ n ih =>
    intro v0 v1 v2 σ r w0 h
    unfold Builder_lengthen_B4 at h
    rcases ite_some h with ⟨_, h⟩ | ⟨_, h⟩
    · replace h := (zb_some h).2
      rw [← Option.some.inj h]; exact Fr.refl
    · rcases ite_some h with ⟨_, h⟩ | ⟨_, h⟩
      · replace h := (zb_some h).2
        rw [← Option.some.inj h]; exact Fr.refl
      · replace h := (ld_some h).2
        rcases ite_some h with ⟨_, h⟩ | ⟨_, h⟩
        · exact Fr.trans Fr.refl (fr_Builder_lengthen_B52 ih w0 h)
        · replace h := (ld_some h).2
          rcases ite_some h with ⟨_, h⟩ | ⟨_, h⟩
          · exact Fr.trans Fr.refl (fr_Builder_lengthen_B52 ih w0 h)
          · exact Fr.trans Fr.refl (fr_Builder_lengthen_B52 ih w0 h)
theorem fr_Builder_lengthen {P : Nat → Prop} {v0 : Nat} {σ : St} {r : Int32 × St} (w0 : P (ch v0 5)) (h : Builder_lengthen v0 σ = some r) : Fr P σ r.2 := by
  unfold Builder_lengthen at h
  exact Fr.trans Fr.refl (fr_Builder_lengthen_B4  _ _ _ _ _ _ w0 h)
theorem fr_Builder_measure_B2 {P : Nat → Prop} : ∀ (n : Nat) (v0 : Nat) (v1 : Int32) (σ : St) (r : St), P (ch v0 3) → P (ch (ch v0 3) 0) → P (ch v0 4) → P (ch v0 5) → Builder_measure_B2 n v0 v1 σ = some r → Fr P σ r := by
  intro n
  induction n with
  | zero => intro v0 v1 σ r w0 w1 w2 w3 h; unfold Builder_measure_B2 at h; cases h
  | succ n ih =>
    intro v0 v1 σ r w0 w1 w2 w3 h
    unfold Builder_measure_B2 at h
    rcases ite_some h with ⟨_, h⟩ | ⟨_, h⟩
    · rw [← Option.some.inj h]; exact Fr.refl
    · rcases ite_some h with ⟨_, h⟩ | ⟨_, h⟩
      · rw [← Option.some.inj h]; exact Fr.refl
      · replace h := (ld_some h).2
        rcases ite_some h with ⟨_, h⟩ | ⟨_, h⟩
        · replace h := (sa_some h).2
          replace h := nm_some h
          exact Fr.trans (Fr.s2 w3 Fr.refl) (ih _ _ _ _ w0 w1 w2 w3 h)
        · rcases ite_some h with ⟨_, h⟩ | ⟨_, h⟩
          · replace h := (sa_some h).2
            replace h := nm_some h
            exact Fr.trans (Fr.s2 w3 Fr.refl) (ih _ _ _ _ w0 w1 w2 w3 h)
          · rcases ite_some h with ⟨_, h⟩ | ⟨_, h⟩
            · replace h := (sa_some h).2
              replace h := nm_some h
              exact Fr.trans (Fr.s2 w3 Fr.refl) (ih _ _ _ _ w0 w1 w2 w3 h)
            · rcases ite_some h with ⟨_, h⟩ | ⟨_, h⟩
              · replace h := (sa_some h).2
                replace h := nm_some h
                exact Fr.trans (Fr.s2 w3 Fr.refl) (ih _ _ _ _ w0 w1 w2 w3 h)
              · rcases ite_some h with ⟨_, h⟩ | ⟨_, h⟩
                · replace h := (sa_some h).2
                  replace h := nm_some h
                  exact Fr.trans (Fr.s2 w3 Fr.refl) (ih _ _ _ _ w0 w1 w2 w3 h)
                · rcases ite_some h with ⟨_, h⟩ | ⟨_, h⟩
                  · replace h := (sa_some h).2
                    replace h := nm_some h
                    exact Fr.trans (Fr.s2 w3 Fr.refl) (ih _ _ _ _ w0 w1 w2 w3 h)
                  · rcases ite_some h with ⟨_, h⟩ | ⟨_, h⟩
                    · replace h := (sa_some h).2
                      replace h := nm_some h
                      exact Fr.trans (Fr.s2 w3 Fr.refl) (ih _ _ _ _ w0 w1 w2 w3 h)
                    · rcases ite_some h with ⟨_, h⟩ | ⟨_, h⟩
                      · replace h := (sa_some h).2
                        replace h := nm_some h
                        exact Fr.trans (Fr.s2 w3 Fr.refl) (ih _ _ _ _ w0 w1 w2 w3 h)
                      · rcases ite_some h with ⟨_, h⟩ | ⟨_, h⟩
                        · replace h := (sa_some h).2
                          replace h := nm_some h
                          exact Fr.trans (Fr.s2 w3 Fr.refl) (ih _ _ _ _ w0 w1 w2 w3 h)
                        · rcases ite_some h with ⟨_, h⟩ | ⟨_, h⟩
                          · obtain ⟨σ20, e20, h⟩ := cv_some h
                            have f20 : Fr P _ _ := Fr.trans Fr.refl (fr_Program_loadItem  w2 e20)
                            obtain ⟨σ21, e21, h⟩ := cv_some h
                            have f21 : Fr P _ _ := Fr.trans f20 (fr_Piece_become  w0 w1 e21)
                            replace h := (sa_some h).2
                            replace h := nm_some h
                            exact Fr.trans (Fr.s2 w3 f21) (ih _ _ _ _ w0 w1 w2 w3 h)
                          · replace h := (sa_some h).2
                            replace h := nm_some h
                            exact Fr.trans (Fr.s2 w3 Fr.refl) (ih _ _ _ _ w0 w1 w2 w3 h)
theorem fr_Builder_measure {P : Nat → Prop} {v0 : Nat} {σ : St} {r : St} (w0 : P (ch v0 3)) (w1 : P (ch (ch v0 3) 0)) (w2 : P (ch v0 4)) (w3 : P (ch v0 5)) (h : Builder_measure v0 σ = some r) : Fr P σ r := by
  unfold Builder_measure at h
  exact Fr.trans Fr.refl (fr_Builder_measure_B2  _ _ _ _ _ w0 w1 w2 w3 h)
theorem fr_Builder_wholeSize {P : Nat → Prop} {v0 : Nat} {σ : St} {r : Int32 × St} (h : Builder_wholeSize v0 σ = some r) : Fr P σ r.2 := by
  unfold Builder_wholeSize at h
  rw [← Option.some.inj h]; exact Fr.refl
theorem fr_Builder_findFault_B89 {P : Nat → Prop} {v0 : Nat} {σ : St} {r : Int32 × St} (h : Builder_findFault_B89 v0 σ = some r) : Fr P σ r.2 := by
  unfold Builder_findFault_B89 at h
  obtain ⟨_, σ1, e1, h⟩ := cl_some h
  have f1 : Fr P _ _ := Fr.trans Fr.refl (fr_Builder_wholeSize   e1)
  rcases ite_some h with ⟨_, h⟩ | ⟨_, h⟩
  · rw [← Option.some.inj h]; exact f1
  · rw [← Option.some.inj h]; exact f1
theorem fr_Builder_findFault_B56 {P : Nat → Prop} : ∀ (n : Nat) (v0 : Nat) (v1 : Int32) (v2 : Int32) (σ : St) (r : Int32 × St), P v0 → P (ch v0 1) → P (ch (ch v0 1) 3) → P (ch v0 5) → Builder_findFault_B56 n v0 v1 v2 σ = some r → Fr P σ r.2 := by
  intro n
  induction n with
  | zero => intro v0 v1 v2 σ r w0 w1 w2 w3 h; unfold Builder_findFault_B56 at h; cases h
  | succ n ih =>
    intro v0 v1 v2 σ r w0 w1 w2 w3 h
    unfold Builder_findFault_B56 at h
    rcases ite_some h with ⟨_, h⟩ | ⟨_, h⟩
    · exact Fr.trans Fr.refl (fr_Builder_findFault_B89   h)
    · rcases ite_some h with ⟨_, h⟩ | ⟨_, h⟩
      · exact Fr.trans Fr.refl (fr_Builder_findFault_B89   h)
      · obtain ⟨σ1, e1, h⟩ := cv_some h
        have f1 : Fr P _ _ := Fr.trans Fr.refl (fr_Builder_layAll  w0 w1 w2 e1)
        obtain ⟨_, σ2, e2, h⟩ := cl_some h
        have f2 : Fr P _ _ := Fr.trans f1 (fr_Builder_lengthen  w3 e2)
        rcases ite_some h with ⟨_, h⟩ | ⟨_, h⟩
        · replace h := nm_some h
          exact Fr.trans f2 (ih _ _ _ _ _ w0 w1 w2 w3 h)
        · replace h := nm_some h
          exact Fr.trans f2 (ih _ _ _ _ _ w0 w1 w2 w3 h)
theorem fr_Builder_findFault_B9 {P : Nat → Prop} : ∀ (n : Nat) (v0 : Nat) (v1 : Int32) (σ : St) (r : Int32 × St), P v0 → P (ch v0 1) → P (ch (ch v0 1) 3) → P (ch v0 3) → P (ch (ch v0 3) 0) → P (ch v0 4) → P (ch v0 5) → Builder_findFault_B9 n v0 v1 σ = some r → Fr P σ r.2 := by
  intro n
  induction n with
  | zero => intro v0 v1 σ r w0 w1 w2 w3 w4 w5 w6 h; unfold Builder_findFault_B9 at h; cases h
  | succ n ih =>
    intro v0 v1 σ r w0 w1 w2 w3 w4 w5 w6 h
    unfold Builder_findFault_B9 at h
    rcases ite_some h with ⟨_, h⟩ | ⟨_, h⟩
    · replace h := nm_some h
      obtain ⟨σ2, e2, h⟩ := cv_some h
      have f2 : Fr P _ _ := Fr.trans (Fr.s2 w0 Fr.refl) (fr_Builder_measure  w3 w4 w5 w6 e2)
      exact Fr.trans f2 (fr_Builder_findFault_B56  _ _ _ _ _ _ w0 w1 w2 w6 h)
    · obtain ⟨_, σ3, e3, h⟩ := cl_some h
      have f3 : Fr P _ _ := Fr.trans Fr.refl (fr_Builder_faultOf   e3)
      rcases ite_some h with ⟨_, h⟩ | ⟨_, h⟩
      · replace h := nm_some h
        exact Fr.trans f3 (ih _ _ _ _ w0 w1 w2 w3 w4 w5 w6 h)
      · replace h := nm_some h
        rw [← Option.some.inj h]; exact (Fr.s2 w0 f3)
theorem fr_Builder_findFault {P : Nat → Prop} {v0 : Nat} {σ : St} {r : Int32 × St} (w0 : P v0) (w1 : P (ch v0 1)) (w2 : P (ch (ch v0 1) 3)) (w3 : P (ch (ch v0 1) 12)) (w4 : P (ch v0 3)) (w5 : P (ch (ch v0 3) 0)) (w6 : P (ch v0 4)) (w7 : P (ch v0 5)) (h : Builder_findFault v0 σ = some r) : Fr P σ r.2 := by
  unfold Builder_findFault at h
  obtain ⟨σ1, e1, h⟩ := cv_some h
  have f1 : Fr P _ _ := Fr.trans Fr.refl (fr_Program_findLabels  w3 e1)
  exact Fr.trans f1 (fr_Builder_findFault_B9  _ _ _ _ _ w0 w1 w2 w4 w5 w6 w7 h)
theorem fr_Builder_makeJump_B15 {P : Nat → Prop} {v0 : Nat} {v1 : Int32} {v2 : Int32} {t0 : Int32} {σ : St} {r : St} (w0 : P (ch v0 3)) (w1 : P (ch (ch v0 3) 0)) (h : Builder_makeJump_B15 v0 v1 v2 t0 σ = some r) : Fr P σ r := by
  unfold Builder_makeJump_B15 at h
  replace h := (ld_some h).2
  rcases ite_some h with ⟨_, h⟩ | ⟨_, h⟩
  · rcases ite_some h with ⟨_, h⟩ | ⟨_, h⟩
    · replace h := (ld_some h).2
      obtain ⟨σ3, e3, h⟩ := cv_some h
      have f3 : Fr P _ _ := Fr.trans Fr.refl (fr_Piece_becomeLongBranch  w0 w1 e3)
      rw [← Option.some.inj h]; exact f3
    · replace h := (ld_some h).2
      obtain ⟨σ5, e5, h⟩ := cv_some h
      have f5 : Fr P _ _ := Fr.trans Fr.refl (fr_Piece_becomeShort  w0 w1 e5)
      rw [← Option.some.inj h]; exact f5
  · rcases ite_some h with ⟨_, h⟩ | ⟨_, h⟩
    · obtain ⟨σ6, e6, h⟩ := cv_some h
      have f6 : Fr P _ _ := Fr.trans Fr.refl (fr_Piece_becomeWithFour  w0 w1 e6)
      rw [← Option.some.inj h]; exact f6
    · obtain ⟨σ7, e7, h⟩ := cv_some h
      have f7 : Fr P _ _ := Fr.trans Fr.refl (fr_Piece_becomeShort  w0 w1 e7)
      rw [← Option.some.inj h]; exact f7
theorem fr_Builder_makeJump {P : Nat → Prop} {v0 : Nat} {v1 : Int32} {v2 : Int32} {σ : St} {r : St} (w0 : P (ch v0 3)) (w1 : P (ch (ch v0 3) 0)) (h : Builder_makeJump v0 v1 v2 σ = some r) : Fr P σ r := by
  unfold Builder_makeJump at h
  replace h := (ld_some h).2
  rcases ite_some h with ⟨_, h⟩ | ⟨_, h⟩
  · exact Fr.trans Fr.refl (fr_Builder_makeJump_B15  w0 w1 h)
  · exact Fr.trans Fr.refl (fr_Builder_makeJump_B15  w0 w1 h)
theorem fr_Builder_makePiece_B79 {P : Nat → Prop} {v0 : Nat} {v1 : Int32} {σ : St} {r : St} (w0 : P (ch v0 3)) (w1 : P (ch (ch v0 3) 0)) (h : Builder_makePiece_B79 v0 v1 σ = some r) : Fr P σ r := by
  unfold Builder_makePiece_B79 at h
  obtain ⟨_, σ1, e1, h⟩ := cl_some h
  have f1 : Fr P _ _ := Fr.trans Fr.refl (fr_Builder_distance   e1)
  obtain ⟨σ3, e3, h⟩ := cv_some h
  have f3 : Fr P _ _ := Fr.trans f1 (fr_Builder_makeJump  w0 w1 e3)
  rw [← Option.some.inj h]; exact f3
theorem fr_Builder_makePiece {P : Nat → Prop} {v0 : Nat} {v1 : Int32} {σ : St} {r : St} (w0 : P (ch v0 3)) (w1 : P (ch (ch v0 3) 0)) (w2 : P (ch v0 4)) (h : Builder_makePiece v0 v1 σ = some r) : Fr P σ r := by
  unfold Builder_makePiece at h
  replace h := (ld_some h).2
  replace h := (ld_some h).2
  rcases ite_some h with ⟨_, h⟩ | ⟨_, h⟩
  · replace h := nm_some h
    rw [← Option.some.inj h]; exact (Fr.s2 w0 Fr.refl)
  · rcases ite_some h with ⟨_, h⟩ | ⟨_, h⟩
    · exact Fr.trans Fr.refl (fr_Builder_makePiece_B79  w0 w1 h)
    · rcases ite_some h with ⟨_, h⟩ | ⟨_, h⟩
      · exact Fr.trans Fr.refl (fr_Builder_makePiece_B79  w0 w1 h)
      · rcases ite_some h with ⟨_, h⟩ | ⟨_, h⟩
        · obtain ⟨_, σ4, e4, h⟩ := cl_some h
          have f4 : Fr P _ _ := Fr.trans Fr.refl (fr_Builder_distance   e4)
          obtain ⟨σ6, e6, h⟩ := cv_some h
          have f6 : Fr P _ _ := Fr.trans f4 (fr_Piece_becomeWithFour  w0 w1 e6)
          rw [← Option.some.inj h]; exact f6
        · rcases ite_some h with ⟨_, h⟩ | ⟨_, h⟩
          · replace h := (ld_some h).2
            replace h := (ld_some h).2
            obtain ⟨σ9, e9, h⟩ := cv_some h
            have f9 : Fr P _ _ := Fr.trans Fr.refl (fr_Piece_becomeWithFour  w0 w1 e9)
            rw [← Option.some.inj h]; exact f9
          · rcases ite_some h with ⟨_, h⟩ | ⟨_, h⟩
            · obtain ⟨σ10, e10, h⟩ := cv_some h
              have f10 : Fr P _ _ := Fr.trans Fr.refl (fr_Piece_becomePair  w0 w1 e10)
              rw [← Option.some.inj h]; exact f10
            · rcases ite_some h with ⟨_, h⟩ | ⟨_, h⟩
              · obtain ⟨σ11, e11, h⟩ := cv_some h
                have f11 : Fr P _ _ := Fr.trans Fr.refl (fr_Piece_becomePair  w0 w1 e11)
                rw [← Option.some.inj h]; exact f11
              · rcases ite_some h with ⟨_, h⟩ | ⟨_, h⟩
                · obtain ⟨σ12, e12, h⟩ := cv_some h
                  have f12 : Fr P _ _ := Fr.trans Fr.refl (fr_Piece_becomeRegisterOp  w0 w1 e12)
                  rw [← Option.some.inj h]; exact f12
                · rcases ite_some h with ⟨_, h⟩ | ⟨_, h⟩
                  · replace h := (ld_some h).2
                    obtain ⟨_, σ14, e14, h⟩ := cl_some h
                    have f14 : Fr P _ _ := Fr.trans Fr.refl (fr_Builder_labelPlace   e14)
                    obtain ⟨σ16, e16, h⟩ := cv_some h
                    have f16 : Fr P _ _ := Fr.trans f14 (fr_Piece_becomeWithFour  w0 w1 e16)
                    rw [← Option.some.inj h]; exact f16
                  · obtain ⟨σ17, e17, h⟩ := cv_some h
                    have f17 : Fr P _ _ := Fr.trans Fr.refl (fr_Program_loadItem  w2 e17)
                    obtain ⟨σ18, e18, h⟩ := cv_some h
                    have f18 : Fr P _ _ := Fr.trans f17 (fr_Piece_become  w0 w1 e18)
                    rw [← Option.some.inj h]; exact f18
theorem fr_Builder_writeCode_B27 {P : Nat → Prop} : ∀ (n : Nat) (v0 : Nat) (v1 : Int32) (σ : St) (r : St), P v0 → P (ch (ch v0 2) 0) → P (ch v0 3) → P (ch (ch v0 3) 0) → P (ch v0 4) → Builder_writeCode_B27 n v0 v1 σ = some r → Fr P σ r := by
  intro n
  induction n with
  | zero => intro v0 v1 σ r w0 w1 w2 w3 w4 h; unfold Builder_writeCode_B27 at h; cases h
  | succ n ih =>
    intro v0 v1 σ r w0 w1 w2 w3 w4 h
    unfold Builder_writeCode_B27 at h
    rcases ite_some h with ⟨_, h⟩ | ⟨_, h⟩
    · rw [← Option.some.inj h]; exact Fr.refl
    · rcases ite_some h with ⟨_, h⟩ | ⟨_, h⟩
      · rw [← Option.some.inj h]; exact Fr.refl
      · obtain ⟨σ1, e1, h⟩ := cv_some h
        have f1 : Fr P _ _ := Fr.trans Fr.refl (fr_Builder_makePiece  w2 w3 w4 e1)
        replace h := (ld_some h).2
        obtain ⟨σ3, e3, h⟩ := cv_some h
        have f3 : Fr P _ _ := Fr.trans f1 (fr_Strip_putPiece  w1 e3)
        replace h := (ld_some h).2
        rcases ite_some h with ⟨_, h⟩ | ⟨_, h⟩
        · replace h := nm_some h
          exact Fr.trans f3 (ih _ _ _ _ w0 w1 w2 w3 w4 h)
        · replace h := (ld_some h).2
          replace h := (ld_some h).2
          replace h := nm_some h
          obtain ⟨σ9, e9, h⟩ := cv_some h
          have f9 : Fr P _ _ := Fr.trans (Fr.s2 w0 f3) (fr_Piece_becomePair  w2 w3 e9)
          obtain ⟨_, σ10, e10, h⟩ := cl_some h
          have f10 : Fr P _ _ := Fr.trans f9 (fr_Builder_layPiece  w0 e10)
          obtain ⟨σ12, e12, h⟩ := cv_some h
          have f12 : Fr P _ _ := Fr.trans f10 (fr_Strip_putPiece  w1 e12)
          replace h := nm_some h
          exact Fr.trans f12 (ih _ _ _ _ w0 w1 w2 w3 w4 h)
theorem fr_Builder_writeCode {P : Nat → Prop} {v0 : Nat} {σ : St} {r : St} (w0 : P v0) (w1 : P (ch (ch v0 1) 13)) (w2 : P (ch v0 2)) (w3 : P (ch (ch v0 2) 0)) (w4 : P (ch v0 3)) (w5 : P (ch (ch v0 3) 0)) (w6 : P (ch v0 4)) (h : Builder_writeCode v0 σ = some r) : Fr P σ r := by
  unfold Builder_writeCode at h
  obtain ⟨σ1, e1, h⟩ := cv_some h
  have f1 : Fr P _ _ := Fr.trans Fr.refl (fr_Program_findLandings  w1 e1)
  obtain ⟨_, σ2, e2, h⟩ := cl_some h
  have f2 : Fr P _ _ := Fr.trans f1 (fr_Builder_wholeSize   e2)
  obtain ⟨σ4, e4, h⟩ := cv_some h
  have f4 : Fr P _ _ := Fr.trans f2 (fr_Strip_becomeFilling  w2 w3 e4)
  exact Fr.trans f4 (fr_Builder_writeCode_B27  _ _ _ _ _ w0 w3 w4 w5 w6 h)
theorem fr_Flags_setAll {P : Nat → Prop} {v0 : Nat} {v1 : Int32} {σ : St} {r : St} (w0 : P v0) (h : Flags_setAll v0 v1 σ = some r) : Fr P σ r := by
  unfold Flags_setAll at h
  replace h := nm_some h
  replace h := nm_some h
  replace h := nm_some h
  replace h := nm_some h
  rw [← Option.some.inj h]; exact (Fr.s2 w0 (Fr.s2 w0 (Fr.s2 w0 (Fr.s2 w0 Fr.refl))))
theorem fr_Flags_narrowed {P : Nat → Prop} {v0 : Nat} {v1 : Int64} {σ : St} {r : Int32 × St} (w0 : P v0) (h : Flags_narrowed v0 v1 σ = some r) : Fr P σ r.2 := by
  unfold Flags_narrowed at h
  rcases ite_some h with ⟨_, h⟩ | ⟨_, h⟩
  · replace h := nm_some h
    rw [← Option.some.inj h]; exact (Fr.s2 w0 Fr.refl)
  · replace h := nm_some h
    rw [← Option.some.inj h]; exact (Fr.s2 w0 Fr.refl)
theorem fr_Flags_difference_B25 {P : Nat → Prop} {v0 : Nat} {v1 : Int32} {v2 : Int32} {v3 : Int32} {t0 : Nat} {t1 : Int32} {σ : St} {r : Int32 × St} (w0 : P t0) (w1 : P v0) (h : Flags_difference_B25 v0 v1 v2 v3 t0 t1 σ = some r) : Fr P σ r.2 := by
  unfold Flags_difference_B25 at h
  replace h := nm_some h
  obtain ⟨_, σ2, e2, h⟩ := cl_some h
  have f2 : Fr P _ _ := Fr.trans (Fr.s2 w0 Fr.refl) (fr_Flags_narrowed  w1 e2)
  rw [← Option.some.inj h]; exact f2
theorem fr_Flags_difference {P : Nat → Prop} {v0 : Nat} {v1 : Int32} {v2 : Int32} {v3 : Int32} {σ : St} {r : Int32 × St} (w0 : P v0) (h : Flags_difference v0 v1 v2 v3 σ = some r) : Fr P σ r.2 := by
  unfold Flags_difference at h
  rcases ite_some h with ⟨_, h⟩ | ⟨_, h⟩
  · exact Fr.trans Fr.refl (fr_Flags_difference_B25  w0 w0 h)
  · exact Fr.trans Fr.refl (fr_Flags_difference_B25  w0 w0 h)
theorem fr_Flags_logic {P : Nat → Prop} {v0 : Nat} {v1 : Int32} {v2 : Int32} {v3 : Int32} {σ : St} {r : Int32 × St} (w0 : P v0) (h : Flags_logic v0 v1 v2 v3 σ = some r) : Fr P σ r.2 := by
  unfold Flags_logic at h
  replace h := nm_some h
  replace h := nm_some h
  rcases ite_some h with ⟨_, h⟩ | ⟨_, h⟩
  · rcases ite_some h with ⟨_, h⟩ | ⟨_, h⟩
    · rw [← Option.some.inj h]; exact (Fr.s2 w0 (Fr.s2 w0 Fr.refl))
    · rw [← Option.some.inj h]; exact (Fr.s2 w0 (Fr.s2 w0 Fr.refl))
  · rw [← Option.some.inj h]; exact (Fr.s2 w0 (Fr.s2 w0 Fr.refl))
theorem fr_Flags_product {P : Nat → Prop} {v0 : Nat} {v1 : Int32} {v2 : Int32} {σ : St} {r : Int32 × St} (w0 : P v0) (h : Flags_product v0 v1 v2 σ = some r) : Fr P σ r.2 := by
  unfold Flags_product at h
  obtain ⟨_, σ1, e1, h⟩ := cl_some h
  have f1 : Fr P _ _ := Fr.trans Fr.refl (fr_Flags_narrowed  w0 e1)
  replace h := nm_some h
  rw [← Option.some.inj h]; exact (Fr.s2 w0 f1)
theorem fr_Flags_shifted_B66 {P : Nat → Prop} {v1 : Int32} {v2 : Int32} {v3 : Int32} {t0 : Nat} {t1 : Int32} {σ : St} {r : Int32 × St} (w0 : P t0) (h : Flags_shifted_B66 v1 v2 v3 t0 t1 σ = some r) : Fr P σ r.2 := by
  unfold Flags_shifted_B66 at h
  replace h := nm_some h
  rcases ite_some h with ⟨_, h⟩ | ⟨_, h⟩
  · rw [← Option.some.inj h]; exact (Fr.s2 w0 Fr.refl)
  · rw [← Option.some.inj h]; exact (Fr.s2 w0 Fr.refl)
theorem fr_Flags_shifted {P : Nat → Prop} {v0 : Nat} {v1 : Int32} {v2 : Int32} {v3 : Int32} {σ : St} {r : Int32 × St} (w0 : P v0) (h : Flags_shifted v0 v1 v2 v3 σ = some r) : Fr P σ r.2 := by
  unfold Flags_shifted at h
  rcases ite_some h with ⟨_, h⟩ | ⟨_, h⟩
  · replace h := nm_some h
    rcases ite_some h with ⟨_, h⟩ | ⟨_, h⟩
    · exact Fr.trans (Fr.s2 w0 Fr.refl) (fr_Flags_shifted_B66  w0 h)
    · exact Fr.trans (Fr.s2 w0 Fr.refl) (fr_Flags_shifted_B66  w0 h)
  · replace h := nm_some h
    replace h := nm_some h
    replace h := nm_some h
    rw [← Option.some.inj h]; exact (Fr.s2 w0 (Fr.s2 w0 Fr.refl))
theorem fr_Flags_sum_B29 {P : Nat → Prop} {v0 : Nat} {v1 : Int32} {v2 : Int32} {v3 : Int32} {t0 : Nat} {t1 : Int32} {σ : St} {r : Int32 × St} (w0 : P t0) (w1 : P v0) (h : Flags_sum_B29 v0 v1 v2 v3 t0 t1 σ = some r) : Fr P σ r.2 := by
  unfold Flags_sum_B29 at h
  replace h := nm_some h
  obtain ⟨_, σ2, e2, h⟩ := cl_some h
  have f2 : Fr P _ _ := Fr.trans (Fr.s2 w0 Fr.refl) (fr_Flags_narrowed  w1 e2)
  rw [← Option.some.inj h]; exact f2
theorem fr_Flags_sum {P : Nat → Prop} {v0 : Nat} {v1 : Int32} {v2 : Int32} {v3 : Int32} {σ : St} {r : Int32 × St} (w0 : P v0) (h : Flags_sum v0 v1 v2 v3 σ = some r) : Fr P σ r.2 := by
  unfold Flags_sum at h
  rcases ite_some h with ⟨_, h⟩ | ⟨_, h⟩
  · exact Fr.trans Fr.refl (fr_Flags_sum_B29  w0 w0 h)
  · exact Fr.trans Fr.refl (fr_Flags_sum_B29  w0 w0 h)
theorem fr_Flags_reckon_B142 {P : Nat → Prop} {v0 : Nat} {v2 : Int32} {v3 : Int32} {σ : St} {r : Int32 × St} (w0 : P v0) (h : Flags_reckon_B142 v0 v2 v3 σ = some r) : Fr P σ r.2 := by
  unfold Flags_reckon_B142 at h
  obtain ⟨_, σ1, e1, h⟩ := cl_some h
  have f1 : Fr P _ _ := Fr.trans Fr.refl (fr_Flags_difference  w0 e1)
  rcases ite_some h with ⟨_, h⟩ | ⟨_, h⟩
  · replace h := nm_some h
    rcases ite_some h with ⟨_, h⟩ | ⟨_, h⟩
    · replace h := nm_some h
      rw [← Option.some.inj h]; exact (Fr.s2 w0 (Fr.s2 w0 f1))
    · replace h := nm_some h
      rw [← Option.some.inj h]; exact (Fr.s2 w0 (Fr.s2 w0 f1))
  · replace h := nm_some h
    rcases ite_some h with ⟨_, h⟩ | ⟨_, h⟩
    · replace h := nm_some h
      rw [← Option.some.inj h]; exact (Fr.s2 w0 (Fr.s2 w0 f1))
    · replace h := nm_some h
      rw [← Option.some.inj h]; exact (Fr.s2 w0 (Fr.s2 w0 f1))
theorem fr_Flags_reckon_B217 {P : Nat → Prop} {v0 : Nat} {v1 : Int32} {v2 : Int32} {v3 : Int32} {σ : St} {r : Int32 × St} (w0 : P v0) (h : Flags_reckon_B217 v0 v1 v2 v3 σ = some r) : Fr P σ r.2 := by
  unfold Flags_reckon_B217 at h
  rcases ite_some h with ⟨_, h⟩ | ⟨_, h⟩
  · obtain ⟨_, σ1, e1, h⟩ := cl_some h
    have f1 : Fr P _ _ := Fr.trans Fr.refl (fr_Flags_shifted  w0 e1)
    rcases ite_some h with ⟨_, h⟩ | ⟨_, h⟩
    · replace h := nm_some h
      rcases ite_some h with ⟨_, h⟩ | ⟨_, h⟩
      · replace h := nm_some h
        rw [← Option.some.inj h]; exact (Fr.s2 w0 (Fr.s2 w0 f1))
      · replace h := nm_some h
        rw [← Option.some.inj h]; exact (Fr.s2 w0 (Fr.s2 w0 f1))
    · replace h := nm_some h
      rcases ite_some h with ⟨_, h⟩ | ⟨_, h⟩
      · replace h := nm_some h
        rw [← Option.some.inj h]; exact (Fr.s2 w0 (Fr.s2 w0 f1))
      · replace h := nm_some h
        rw [← Option.some.inj h]; exact (Fr.s2 w0 (Fr.s2 w0 f1))
  · rw [← Option.some.inj h]; exact Fr.refl
theorem fr_Flags_reckon_B241 {P : Nat → Prop} {v0 : Nat} {v1 : Int32} {v2 : Int32} {v3 : Int32} {σ : St} {r : Int32 × St} (w0 : P v0) (h : Flags_reckon_B241 v0 v1 v2 v3 σ = some r) : Fr P σ r.2 := by
  unfold Flags_reckon_B241 at h
  obtain ⟨_, σ1, e1, h⟩ := cl_some h
  have f1 : Fr P _ _ := Fr.trans Fr.refl (fr_Flags_logic  w0 e1)
  rcases ite_some h with ⟨_, h⟩ | ⟨_, h⟩
  · replace h := nm_some h
    rcases ite_some h with ⟨_, h⟩ | ⟨_, h⟩
    · replace h := nm_some h
      rw [← Option.some.inj h]; exact (Fr.s2 w0 (Fr.s2 w0 f1))
    · replace h := nm_some h
      rw [← Option.some.inj h]; exact (Fr.s2 w0 (Fr.s2 w0 f1))
  · replace h := nm_some h
    rcases ite_some h with ⟨_, h⟩ | ⟨_, h⟩
    · replace h := nm_some h
      rw [← Option.some.inj h]; exact (Fr.s2 w0 (Fr.s2 w0 f1))
    · replace h := nm_some h
      rw [← Option.some.inj h]; exact (Fr.s2 w0 (Fr.s2 w0 f1))
theorem fr_Flags_reckon {P : Nat → Prop} {v0 : Nat} {v1 : Int32} {v2 : Int32} {v3 : Int32} {σ : St} {r : Int32 × St} (w0 : P v0) (h : Flags_reckon v0 v1 v2 v3 σ = some r) : Fr P σ r.2 := by
  unfold Flags_reckon at h
  replace h := nm_some h
  rcases ite_some h with ⟨_, h⟩ | ⟨_, h⟩
  · obtain ⟨_, σ2, e2, h⟩ := cl_some h
    have f2 : Fr P _ _ := Fr.trans Fr.refl (fr_Flags_sum  w0 e2)
    rcases ite_some h with ⟨_, h⟩ | ⟨_, h⟩
    · replace h := nm_some h
      rcases ite_some h with ⟨_, h⟩ | ⟨_, h⟩
      · replace h := nm_some h
        rw [← Option.some.inj h]; exact (Fr.s2 w0 (Fr.s2 w0 f2))
      · replace h := nm_some h
        rw [← Option.some.inj h]; exact (Fr.s2 w0 (Fr.s2 w0 f2))
    · replace h := nm_some h
      rcases ite_some h with ⟨_, h⟩ | ⟨_, h⟩
      · replace h := nm_some h
        rw [← Option.some.inj h]; exact (Fr.s2 w0 (Fr.s2 w0 f2))
      · replace h := nm_some h
        rw [← Option.some.inj h]; exact (Fr.s2 w0 (Fr.s2 w0 f2))
  · rcases ite_some h with ⟨_, h⟩ | ⟨_, h⟩
    · exact Fr.trans Fr.refl (fr_Flags_reckon_B241  w0 h)
    · rcases ite_some h with ⟨_, h⟩ | ⟨_, h⟩
      · obtain ⟨_, σ10, e10, h⟩ := cl_some h
        have f10 : Fr P _ _ := Fr.trans Fr.refl (fr_Flags_sum  w0 e10)
        rcases ite_some h with ⟨_, h⟩ | ⟨_, h⟩
        · replace h := nm_some h
          rcases ite_some h with ⟨_, h⟩ | ⟨_, h⟩
          · replace h := nm_some h
            rw [← Option.some.inj h]; exact (Fr.s2 w0 (Fr.s2 w0 f10))
          · replace h := nm_some h
            rw [← Option.some.inj h]; exact (Fr.s2 w0 (Fr.s2 w0 f10))
        · replace h := nm_some h
          rcases ite_some h with ⟨_, h⟩ | ⟨_, h⟩
          · replace h := nm_some h
            rw [← Option.some.inj h]; exact (Fr.s2 w0 (Fr.s2 w0 f10))
          · replace h := nm_some h
            rw [← Option.some.inj h]; exact (Fr.s2 w0 (Fr.s2 w0 f10))
      · rcases ite_some h with ⟨_, h⟩ | ⟨_, h⟩
        · obtain ⟨_, σ18, e18, h⟩ := cl_some h
          have f18 : Fr P _ _ := Fr.trans Fr.refl (fr_Flags_difference  w0 e18)
          rcases ite_some h with ⟨_, h⟩ | ⟨_, h⟩
          · replace h := nm_some h
            rcases ite_some h with ⟨_, h⟩ | ⟨_, h⟩
            · replace h := nm_some h
              rw [← Option.some.inj h]; exact (Fr.s2 w0 (Fr.s2 w0 f18))
            · replace h := nm_some h
              rw [← Option.some.inj h]; exact (Fr.s2 w0 (Fr.s2 w0 f18))
          · replace h := nm_some h
            rcases ite_some h with ⟨_, h⟩ | ⟨_, h⟩
            · replace h := nm_some h
              rw [← Option.some.inj h]; exact (Fr.s2 w0 (Fr.s2 w0 f18))
            · replace h := nm_some h
              rw [← Option.some.inj h]; exact (Fr.s2 w0 (Fr.s2 w0 f18))
        · rcases ite_some h with ⟨_, h⟩ | ⟨_, h⟩
          · exact Fr.trans Fr.refl (fr_Flags_reckon_B241  w0 h)
          · rcases ite_some h with ⟨_, h⟩ | ⟨_, h⟩
            · exact Fr.trans Fr.refl (fr_Flags_reckon_B142  w0 h)
            · rcases ite_some h with ⟨_, h⟩ | ⟨_, h⟩
              · exact Fr.trans Fr.refl (fr_Flags_reckon_B241  w0 h)
              · rcases ite_some h with ⟨_, h⟩ | ⟨_, h⟩
                · exact Fr.trans Fr.refl (fr_Flags_reckon_B142  w0 h)
                · rcases ite_some h with ⟨_, h⟩ | ⟨_, h⟩
                  · exact Fr.trans Fr.refl (fr_Flags_reckon_B241  w0 h)
                  · rcases ite_some h with ⟨_, h⟩ | ⟨_, h⟩
                    · exact Fr.trans Fr.refl (fr_Flags_reckon_B241  w0 h)
                    · rcases ite_some h with ⟨_, h⟩ | ⟨_, h⟩
                      · exact Fr.trans Fr.refl (fr_Flags_reckon_B241  w0 h)
                      · rcases ite_some h with ⟨_, h⟩ | ⟨_, h⟩
                        · obtain ⟨_, σ26, e26, h⟩ := cl_some h
                          have f26 : Fr P _ _ := Fr.trans Fr.refl (fr_Flags_product  w0 e26)
                          rcases ite_some h with ⟨_, h⟩ | ⟨_, h⟩
                          · replace h := nm_some h
                            rcases ite_some h with ⟨_, h⟩ | ⟨_, h⟩
                            · replace h := nm_some h
                              rw [← Option.some.inj h]; exact (Fr.s2 w0 (Fr.s2 w0 f26))
                            · replace h := nm_some h
                              rw [← Option.some.inj h]; exact (Fr.s2 w0 (Fr.s2 w0 f26))
                          · replace h := nm_some h
                            rcases ite_some h with ⟨_, h⟩ | ⟨_, h⟩
                            · replace h := nm_some h
                              rw [← Option.some.inj h]; exact (Fr.s2 w0 (Fr.s2 w0 f26))
                            · replace h := nm_some h
                              rw [← Option.some.inj h]; exact (Fr.s2 w0 (Fr.s2 w0 f26))
                        · rcases ite_some h with ⟨_, h⟩ | ⟨_, h⟩
                          · rw [← Option.some.inj h]; exact Fr.refl
                          · rcases ite_some h with ⟨_, h⟩ | ⟨_, h⟩
                            · obtain ⟨_, σ34, e34, h⟩ := cl_some h
                              have f34 : Fr P _ _ := Fr.trans Fr.refl (fr_Flags_difference  w0 e34)
                              rcases ite_some h with ⟨_, h⟩ | ⟨_, h⟩
                              · replace h := nm_some h
                                rcases ite_some h with ⟨_, h⟩ | ⟨_, h⟩
                                · replace h := nm_some h
                                  rw [← Option.some.inj h]; exact (Fr.s2 w0 (Fr.s2 w0 f34))
                                · replace h := nm_some h
                                  rw [← Option.some.inj h]; exact (Fr.s2 w0 (Fr.s2 w0 f34))
                              · replace h := nm_some h
                                rcases ite_some h with ⟨_, h⟩ | ⟨_, h⟩
                                · replace h := nm_some h
                                  rw [← Option.some.inj h]; exact (Fr.s2 w0 (Fr.s2 w0 f34))
                                · replace h := nm_some h
                                  rw [← Option.some.inj h]; exact (Fr.s2 w0 (Fr.s2 w0 f34))
                            · rcases ite_some h with ⟨_, h⟩ | ⟨_, h⟩
                              · exact Fr.trans Fr.refl (fr_Flags_reckon_B217  w0 h)
                              · rcases ite_some h with ⟨_, h⟩ | ⟨_, h⟩
                                · exact Fr.trans Fr.refl (fr_Flags_reckon_B217  w0 h)
                                · rcases ite_some h with ⟨_, h⟩ | ⟨_, h⟩
                                  · exact Fr.trans Fr.refl (fr_Flags_reckon_B217  w0 h)
                                  · rcases ite_some h with ⟨_, h⟩ | ⟨_, h⟩
                                    · obtain ⟨_, σ42, e42, h⟩ := cl_some h
                                      have f42 : Fr P _ _ := Fr.trans Fr.refl (fr_Flags_sum  w0 e42)
                                      replace h := nm_some h
                                      rcases ite_some h with ⟨_, h⟩ | ⟨_, h⟩
                                      · replace h := nm_some h
                                        rcases ite_some h with ⟨_, h⟩ | ⟨_, h⟩
                                        · replace h := nm_some h
                                          rw [← Option.some.inj h]; exact (Fr.s2 w0 (Fr.s2 w0 (Fr.s2 w0 f42)))
                                        · replace h := nm_some h
                                          rw [← Option.some.inj h]; exact (Fr.s2 w0 (Fr.s2 w0 (Fr.s2 w0 f42)))
                                      · replace h := nm_some h
                                        rcases ite_some h with ⟨_, h⟩ | ⟨_, h⟩
                                        · replace h := nm_some h
                                          rw [← Option.some.inj h]; exact (Fr.s2 w0 (Fr.s2 w0 (Fr.s2 w0 f42)))
                                        · replace h := nm_some h
                                          rw [← Option.some.inj h]; exact (Fr.s2 w0 (Fr.s2 w0 (Fr.s2 w0 f42)))
                                    · rcases ite_some h with ⟨_, h⟩ | ⟨_, h⟩
                                      · obtain ⟨_, σ51, e51, h⟩ := cl_some h
                                        have f51 : Fr P _ _ := Fr.trans Fr.refl (fr_Flags_difference  w0 e51)
                                        replace h := nm_some h
                                        rcases ite_some h with ⟨_, h⟩ | ⟨_, h⟩
                                        · replace h := nm_some h
                                          rcases ite_some h with ⟨_, h⟩ | ⟨_, h⟩
                                          · replace h := nm_some h
                                            rw [← Option.some.inj h]; exact (Fr.s2 w0 (Fr.s2 w0 (Fr.s2 w0 f51)))
                                          · replace h := nm_some h
                                            rw [← Option.some.inj h]; exact (Fr.s2 w0 (Fr.s2 w0 (Fr.s2 w0 f51)))
                                        · replace h := nm_some h
                                          rcases ite_some h with ⟨_, h⟩ | ⟨_, h⟩
                                          · replace h := nm_some h
                                            rw [← Option.some.inj h]; exact (Fr.s2 w0 (Fr.s2 w0 (Fr.s2 w0 f51)))
                                          · replace h := nm_some h
                                            rw [← Option.some.inj h]; exact (Fr.s2 w0 (Fr.s2 w0 (Fr.s2 w0 f51)))
                                      · exact Fr.trans Fr.refl (fr_Flags_reckon_B241  w0 h)
theorem fr_Flags_isUnknownTo_B144 {P : Nat → Prop} {v0 : Nat} {σ : St} {r : Int32 × St} (h : Flags_isUnknownTo_B144 v0 σ = some r) : Fr P σ r.2 := by
  unfold Flags_isUnknownTo_B144 at h
  rcases ite_some h with ⟨_, h⟩ | ⟨_, h⟩
  · rw [← Option.some.inj h]; exact Fr.refl
  · rcases ite_some h with ⟨_, h⟩ | ⟨_, h⟩
    · rw [← Option.some.inj h]; exact Fr.refl
    · rcases ite_some h with ⟨_, h⟩ | ⟨_, h⟩
      · rw [← Option.some.inj h]; exact Fr.refl
      · rw [← Option.some.inj h]; exact Fr.refl
theorem fr_Flags_isUnknownTo {P : Nat → Prop} {v0 : Nat} {v1 : Int32} {σ : St} {r : Int32 × St} (h : Flags_isUnknownTo v0 v1 σ = some r) : Fr P σ r.2 := by
  unfold Flags_isUnknownTo at h
  replace h := nm_some h
  rcases ite_some h with ⟨_, h⟩ | ⟨_, h⟩
  · rcases ite_some h with ⟨_, h⟩ | ⟨_, h⟩
    · rw [← Option.some.inj h]; exact Fr.refl
    · rw [← Option.some.inj h]; exact Fr.refl
  · rcases ite_some h with ⟨_, h⟩ | ⟨_, h⟩
    · rcases ite_some h with ⟨_, h⟩ | ⟨_, h⟩
      · rw [← Option.some.inj h]; exact Fr.refl
      · rw [← Option.some.inj h]; exact Fr.refl
    · rcases ite_some h with ⟨_, h⟩ | ⟨_, h⟩
      · rcases ite_some h with ⟨_, h⟩ | ⟨_, h⟩
        · rw [← Option.some.inj h]; exact Fr.refl
        · rw [← Option.some.inj h]; exact Fr.refl
      · rcases ite_some h with ⟨_, h⟩ | ⟨_, h⟩
        · rcases ite_some h with ⟨_, h⟩ | ⟨_, h⟩
          · rw [← Option.some.inj h]; exact Fr.refl
          · rcases ite_some h with ⟨_, h⟩ | ⟨_, h⟩
            · rw [← Option.some.inj h]; exact Fr.refl
            · rw [← Option.some.inj h]; exact Fr.refl
        · rcases ite_some h with ⟨_, h⟩ | ⟨_, h⟩
          · rcases ite_some h with ⟨_, h⟩ | ⟨_, h⟩
            · rw [← Option.some.inj h]; exact Fr.refl
            · rw [← Option.some.inj h]; exact Fr.refl
          · rcases ite_some h with ⟨_, h⟩ | ⟨_, h⟩
            · exact Fr.trans Fr.refl (fr_Flags_isUnknownTo_B144   h)
            · rcases ite_some h with ⟨_, h⟩ | ⟨_, h⟩
              · rcases ite_some h with ⟨_, h⟩ | ⟨_, h⟩
                · rw [← Option.some.inj h]; exact Fr.refl
                · rcases ite_some h with ⟨_, h⟩ | ⟨_, h⟩
                  · rw [← Option.some.inj h]; exact Fr.refl
                  · rw [← Option.some.inj h]; exact Fr.refl
              · exact Fr.trans Fr.refl (fr_Flags_isUnknownTo_B144   h)
theorem fr_Flags_holds_B205 {P : Nat → Prop} {v0 : Nat} {v2 : Int32} {σ : St} {r : Int32 × St} (h : Flags_holds_B205 v0 v2 σ = some r) : Fr P σ r.2 := by
  unfold Flags_holds_B205 at h
  rcases ite_some h with ⟨_, h⟩ | ⟨_, h⟩
  · rcases ite_some h with ⟨_, h⟩ | ⟨_, h⟩
    · rw [← Option.some.inj h]; exact Fr.refl
    · rw [← Option.some.inj h]; exact Fr.refl
  · rcases ite_some h with ⟨_, h⟩ | ⟨_, h⟩
    · rcases ite_some h with ⟨_, h⟩ | ⟨_, h⟩
      · rw [← Option.some.inj h]; exact Fr.refl
      · rw [← Option.some.inj h]; exact Fr.refl
    · rcases ite_some h with ⟨_, h⟩ | ⟨_, h⟩
      · rw [← Option.some.inj h]; exact Fr.refl
      · rw [← Option.some.inj h]; exact Fr.refl
theorem fr_Flags_holds_B11 {P : Nat → Prop} {v0 : Nat} {v1 : Int32} {t0 : Int32} {σ : St} {r : Int32 × St} (h : Flags_holds_B11 v0 v1 t0 σ = some r) : Fr P σ r.2 := by
  unfold Flags_holds_B11 at h
  replace h := nm_some h
  rcases ite_some h with ⟨_, h⟩ | ⟨_, h⟩
  · rcases ite_some h with ⟨_, h⟩ | ⟨_, h⟩
    · rcases ite_some h with ⟨_, h⟩ | ⟨_, h⟩
      · rw [← Option.some.inj h]; exact Fr.refl
      · rw [← Option.some.inj h]; exact Fr.refl
    · rcases ite_some h with ⟨_, h⟩ | ⟨_, h⟩
      · rw [← Option.some.inj h]; exact Fr.refl
      · rw [← Option.some.inj h]; exact Fr.refl
  · rcases ite_some h with ⟨_, h⟩ | ⟨_, h⟩
    · rcases ite_some h with ⟨_, h⟩ | ⟨_, h⟩
      · rcases ite_some h with ⟨_, h⟩ | ⟨_, h⟩
        · rw [← Option.some.inj h]; exact Fr.refl
        · rw [← Option.some.inj h]; exact Fr.refl
      · rcases ite_some h with ⟨_, h⟩ | ⟨_, h⟩
        · rw [← Option.some.inj h]; exact Fr.refl
        · rw [← Option.some.inj h]; exact Fr.refl
    · rcases ite_some h with ⟨_, h⟩ | ⟨_, h⟩
      · rcases ite_some h with ⟨_, h⟩ | ⟨_, h⟩
        · rcases ite_some h with ⟨_, h⟩ | ⟨_, h⟩
          · rw [← Option.some.inj h]; exact Fr.refl
          · rw [← Option.some.inj h]; exact Fr.refl
        · rcases ite_some h with ⟨_, h⟩ | ⟨_, h⟩
          · rw [← Option.some.inj h]; exact Fr.refl
          · rw [← Option.some.inj h]; exact Fr.refl
      · rcases ite_some h with ⟨_, h⟩ | ⟨_, h⟩
        · rcases ite_some h with ⟨_, h⟩ | ⟨_, h⟩
          · rcases ite_some h with ⟨_, h⟩ | ⟨_, h⟩
            · rw [← Option.some.inj h]; exact Fr.refl
            · rw [← Option.some.inj h]; exact Fr.refl
          · rcases ite_some h with ⟨_, h⟩ | ⟨_, h⟩
            · rcases ite_some h with ⟨_, h⟩ | ⟨_, h⟩
              · rw [← Option.some.inj h]; exact Fr.refl
              · rw [← Option.some.inj h]; exact Fr.refl
            · rcases ite_some h with ⟨_, h⟩ | ⟨_, h⟩
              · rw [← Option.some.inj h]; exact Fr.refl
              · rw [← Option.some.inj h]; exact Fr.refl
        · rcases ite_some h with ⟨_, h⟩ | ⟨_, h⟩
          · rcases ite_some h with ⟨_, h⟩ | ⟨_, h⟩
            · rcases ite_some h with ⟨_, h⟩ | ⟨_, h⟩
              · rw [← Option.some.inj h]; exact Fr.refl
              · rw [← Option.some.inj h]; exact Fr.refl
            · rcases ite_some h with ⟨_, h⟩ | ⟨_, h⟩
              · rw [← Option.some.inj h]; exact Fr.refl
              · rw [← Option.some.inj h]; exact Fr.refl
          · rcases ite_some h with ⟨_, h⟩ | ⟨_, h⟩
            · exact Fr.trans Fr.refl (fr_Flags_holds_B205   h)
            · rcases ite_some h with ⟨_, h⟩ | ⟨_, h⟩
              · rcases ite_some h with ⟨_, h⟩ | ⟨_, h⟩
                · rcases ite_some h with ⟨_, h⟩ | ⟨_, h⟩
                  · rw [← Option.some.inj h]; exact Fr.refl
                  · rw [← Option.some.inj h]; exact Fr.refl
                · rcases ite_some h with ⟨_, h⟩ | ⟨_, h⟩
                  · rw [← Option.some.inj h]; exact Fr.refl
                  · rw [← Option.some.inj h]; exact Fr.refl
              · exact Fr.trans Fr.refl (fr_Flags_holds_B205   h)
theorem fr_Flags_holds {P : Nat → Prop} {v0 : Nat} {v1 : Int32} {σ : St} {r : Int32 × St} (h : Flags_holds v0 v1 σ = some r) : Fr P σ r.2 := by
  unfold Flags_holds at h
  rcases ite_some h with ⟨_, h⟩ | ⟨_, h⟩
  · exact Fr.trans Fr.refl (fr_Flags_holds_B11   h)
  · exact Fr.trans Fr.refl (fr_Flags_holds_B11   h)
theorem fr_Machine_forget_B23 {P : Nat → Prop} : ∀ (n : Nat) (v0 : Nat) (v1 : Int32) (σ : St) (r : St), P v0 → P (ch v0 8) → Machine_forget_B23 n v0 v1 σ = some r → Fr P σ r := by
  intro n
  induction n with
  | zero => intro v0 v1 σ r w0 w1 h; unfold Machine_forget_B23 at h; cases h
  | succ n ih =>
    intro v0 v1 σ r w0 w1 h
    unfold Machine_forget_B23 at h
    rcases ite_some h with ⟨_, h⟩ | ⟨_, h⟩
    · replace h := nm_some h
      rw [← Option.some.inj h]; exact (Fr.s2 w0 Fr.refl)
    · replace h := (sa_some h).2
      replace h := nm_some h
      exact Fr.trans (Fr.s2 w1 Fr.refl) (ih _ _ _ _ w0 w1 h)
theorem fr_Machine_forget_B2 {P : Nat → Prop} : ∀ (n : Nat) (v0 : Nat) (v1 : Int32) (σ : St) (r : St), P v0 → P (ch v0 7) → P (ch v0 8) → Machine_forget_B2 n v0 v1 σ = some r → Fr P σ r := by
  intro n
  induction n with
  | zero => intro v0 v1 σ r w0 w1 w2 h; unfold Machine_forget_B2 at h; cases h
  | succ n ih =>
    intro v0 v1 σ r w0 w1 w2 h
    unfold Machine_forget_B2 at h
    rcases ite_some h with ⟨_, h⟩ | ⟨_, h⟩
    · exact Fr.trans Fr.refl (fr_Machine_forget_B23  _ _ _ _ _ w0 w2 h)
    · replace h := (sa_some h).2
      replace h := nm_some h
      exact Fr.trans (Fr.s2 w1 Fr.refl) (ih _ _ _ _ w0 w1 w2 h)
theorem fr_Machine_forget {P : Nat → Prop} {v0 : Nat} {σ : St} {r : St} (w0 : P v0) (w1 : P (ch v0 7)) (w2 : P (ch v0 8)) (h : Machine_forget v0 σ = some r) : Fr P σ r := by
  unfold Machine_forget at h
  exact Fr.trans Fr.refl (fr_Machine_forget_B2  _ _ _ _ _ w0 w1 w2 h)
theorem fr_Machine_beginAs {P : Nat → Prop} {v0 : Nat} {v1 : Nat} {σ : St} {r : St} (w0 : P v0) (w1 : P (ch v0 0)) (w2 : P (ch v0 7)) (w3 : P (ch v0 8)) (w4 : P (ch v0 9)) (h : Machine_beginAs v0 v1 σ = some r) : Fr P σ r := by
  unfold Machine_beginAs at h
  replace h := (cp_some h).2
  replace h := (cp_some h).2
  replace h := (cp_some h).2
  replace h := nm_some h
  replace h := nm_some h
  replace h := nm_some h
  obtain ⟨σ7, e7, h⟩ := cv_some h
  have f7 : Fr P _ _ := Fr.trans (Fr.s2 w0 (Fr.s2 w0 (Fr.s2 w0 (Fr.up w4 (Fr.up w3 (Fr.up w2 Fr.refl)))))) (fr_Flags_setAll  w1 e7)
  replace h := nm_some h
  replace h := nm_some h
  replace h := nm_some h
  replace h := nm_some h
  replace h := nm_some h
  replace h := nm_some h
  rw [← Option.some.inj h]; exact (Fr.s2 w0 (Fr.s2 w0 (Fr.s2 w0 (Fr.s2 w0 (Fr.s2 w0 (Fr.s2 w0 f7))))))
theorem fr_Machine_addInput {P : Nat → Prop} {v0 : Nat} {v1 : Int32} {σ : St} {r : Int32 × St} (w0 : P v0) (w1 : P (ch v0 9)) (h : Machine_addInput v0 v1 σ = some r) : Fr P σ r.2 := by
  unfold Machine_addInput at h
  rcases ite_some h with ⟨_, h⟩ | ⟨_, h⟩
  · replace h := (sa_some h).2
    replace h := nm_some h
    rw [← Option.some.inj h]; exact (Fr.s2 w0 (Fr.s2 w1 Fr.refl))
  · rw [← Option.some.inj h]; exact Fr.refl
theorem fr_House_isRegister {P : Nat → Prop} {v0 : Int32} {σ : St} {r : Int32 × St} (h : House_isRegister v0 σ = some r) : Fr P σ r.2 := by
  unfold House_isRegister at h
  rcases ite_some h with ⟨_, h⟩ | ⟨_, h⟩
  · rw [← Option.some.inj h]; exact Fr.refl
  · rcases ite_some h with ⟨_, h⟩ | ⟨_, h⟩
    · rw [← Option.some.inj h]; exact Fr.refl
    · rw [← Option.some.inj h]; exact Fr.refl
theorem fr_Machine_registerAt {P : Nat → Prop} {v0 : Nat} {v1 : Int32} {σ : St} {r : Int32 × St} (h : Machine_registerAt v0 v1 σ = some r) : Fr P σ r.2 := by
  unfold Machine_registerAt at h
  obtain ⟨_, σ1, e1, h⟩ := cl_some h
  have f1 : Fr P _ _ := Fr.trans Fr.refl (fr_House_isRegister   e1)
  rcases ite_some h with ⟨_, h⟩ | ⟨_, h⟩
  · rw [← Option.some.inj h]; exact f1
  · replace h := (ld_some h).2
    rw [← Option.some.inj h]; exact f1
theorem fr_Machine_part {P : Nat → Prop} {v0 : Nat} {v1 : Int32} {σ : St} {r : Int32 × St} (h : Machine_part v0 v1 σ = some r) : Fr P σ r.2 := by
  unfold Machine_part at h
  rcases ite_some h with ⟨_, h⟩ | ⟨_, h⟩
  · rw [← Option.some.inj h]; exact Fr.refl
  · rcases ite_some h with ⟨_, h⟩ | ⟨_, h⟩
    · rw [← Option.some.inj h]; exact Fr.refl
    · rcases ite_some h with ⟨_, h⟩ | ⟨_, h⟩
      · rw [← Option.some.inj h]; exact Fr.refl
      · rcases ite_some h with ⟨_, h⟩ | ⟨_, h⟩
        · rw [← Option.some.inj h]; exact Fr.refl
        · rcases ite_some h with ⟨_, h⟩ | ⟨_, h⟩
          · rw [← Option.some.inj h]; exact Fr.refl
          · rcases ite_some h with ⟨_, h⟩ | ⟨_, h⟩
            · rw [← Option.some.inj h]; exact Fr.refl
            · rcases ite_some h with ⟨_, h⟩ | ⟨_, h⟩
              · rw [← Option.some.inj h]; exact Fr.refl
              · rcases ite_some h with ⟨_, h⟩ | ⟨_, h⟩
                · rw [← Option.some.inj h]; exact Fr.refl
                · rcases ite_some h with ⟨_, h⟩ | ⟨_, h⟩
                  · rw [← Option.some.inj h]; exact Fr.refl
                  · rcases ite_some h with ⟨_, h⟩ | ⟨_, h⟩
                    · rcases ite_some h with ⟨_, h⟩ | ⟨_, h⟩
                      · rw [← Option.some.inj h]; exact Fr.refl
                      · rw [← Option.some.inj h]; exact Fr.refl
                    · obtain ⟨_, σ1, e1, h⟩ := cl_some h
                      have f1 : Fr P _ _ := Fr.trans Fr.refl (fr_Machine_registerAt   e1)
                      rw [← Option.some.inj h]; exact f1
theorem fr_Machine_byteAt {P : Nat → Prop} {v0 : Nat} {v1 : Int32} {σ : St} {r : Int32 × St} (h : Machine_byteAt v0 v1 σ = some r) : Fr P σ r.2 := by
  unfold Machine_byteAt at h
  rcases ite_some h with ⟨_, h⟩ | ⟨_, h⟩
  · rw [← Option.some.inj h]; exact Fr.refl
  · rcases ite_some h with ⟨_, h⟩ | ⟨_, h⟩
    · replace h := (ld_some h).2
      rw [← Option.some.inj h]; exact Fr.refl
    · rw [← Option.some.inj h]; exact Fr.refl
theorem fr_Machine_hasOutput {P : Nat → Prop} {v0 : Nat} {v1 : Int32} {σ : St} {r : Int32 × St} (h : Machine_hasOutput v0 v1 σ = some r) : Fr P σ r.2 := by
  unfold Machine_hasOutput at h
  rcases ite_some h with ⟨_, h⟩ | ⟨_, h⟩
  · rw [← Option.some.inj h]; exact Fr.refl
  · rcases ite_some h with ⟨_, h⟩ | ⟨_, h⟩
    · rw [← Option.some.inj h]; exact Fr.refl
    · rcases ite_some h with ⟨_, h⟩ | ⟨_, h⟩
      · rw [← Option.some.inj h]; exact Fr.refl
      · rw [← Option.some.inj h]; exact Fr.refl
theorem fr_Machine_outputAt {P : Nat → Prop} {v0 : Nat} {v1 : Int32} {σ : St} {r : Int32 × St} (h : Machine_outputAt v0 v1 σ = some r) : Fr P σ r.2 := by
  unfold Machine_outputAt at h
  obtain ⟨_, σ1, e1, h⟩ := cl_some h
  have f1 : Fr P _ _ := Fr.trans Fr.refl (fr_Machine_hasOutput   e1)
  rcases ite_some h with ⟨_, h⟩ | ⟨_, h⟩
  · rw [← Option.some.inj h]; exact f1
  · replace h := (ld_some h).2
    rw [← Option.some.inj h]; exact f1
theorem fr_Machine_give {P : Nat → Prop} {v0 : Nat} {v1 : Int32} {v2 : Int32} {σ : St} {r : St} (w0 : P v0) (w1 : P (ch v0 7)) (h : Machine_give v0 v1 v2 σ = some r) : Fr P σ r := by
  unfold Machine_give at h
  obtain ⟨_, σ1, e1, h⟩ := cl_some h
  have f1 : Fr P _ _ := Fr.trans Fr.refl (fr_House_isRegister   e1)
  rcases ite_some h with ⟨_, h⟩ | ⟨_, h⟩
  · rw [← Option.some.inj h]; exact f1
  · replace h := (sa_some h).2
    rcases ite_some h with ⟨_, h⟩ | ⟨_, h⟩
    · replace h := nm_some h
      rw [← Option.some.inj h]; exact (Fr.s2 w0 (Fr.s2 w1 f1))
    · rcases ite_some h with ⟨_, h⟩ | ⟨_, h⟩
      · replace h := nm_some h
        rw [← Option.some.inj h]; exact (Fr.s2 w0 (Fr.s2 w1 f1))
      · replace h := nm_some h
        rw [← Option.some.inj h]; exact (Fr.s2 w0 (Fr.s2 w1 f1))
theorem fr_House_isWord {P : Nat → Prop} {v0 : Int32} {σ : St} {r : Int32 × St} (h : House_isWord v0 σ = some r) : Fr P σ r.2 := by
  unfold House_isWord at h
  rcases ite_some h with ⟨_, h⟩ | ⟨_, h⟩
  · rw [← Option.some.inj h]; exact Fr.refl
  · rcases ite_some h with ⟨_, h⟩ | ⟨_, h⟩
    · rw [← Option.some.inj h]; exact Fr.refl
    · rw [← Option.some.inj h]; exact Fr.refl
theorem fr_Machine_wordAt {P : Nat → Prop} {v0 : Nat} {v1 : Int32} {σ : St} {r : Int32 × St} (h : Machine_wordAt v0 v1 σ = some r) : Fr P σ r.2 := by
  unfold Machine_wordAt at h
  obtain ⟨_, σ1, e1, h⟩ := cl_some h
  have f1 : Fr P _ _ := Fr.trans Fr.refl (fr_House_isWord   e1)
  rcases ite_some h with ⟨_, h⟩ | ⟨_, h⟩
  · replace h := (ld_some h).2
    replace h := (ld_some h).2
    replace h := (ld_some h).2
    replace h := (ld_some h).2
    rw [← Option.some.inj h]; exact f1
  · rw [← Option.some.inj h]; exact f1
theorem fr_Machine_giveWord {P : Nat → Prop} {v0 : Nat} {v1 : Int32} {v2 : Int32} {σ : St} {r : St} (w0 : P (ch v0 8)) (h : Machine_giveWord v0 v1 v2 σ = some r) : Fr P σ r := by
  unfold Machine_giveWord at h
  obtain ⟨_, σ1, e1, h⟩ := cl_some h
  have f1 : Fr P _ _ := Fr.trans Fr.refl (fr_House_isWord   e1)
  rcases ite_some h with ⟨_, h⟩ | ⟨_, h⟩
  · rw [← Option.some.inj h]; exact f1
  · replace h := (sa_some h).2
    replace h := (sa_some h).2
    replace h := (sa_some h).2
    replace h := (sa_some h).2
    rw [← Option.some.inj h]; exact (Fr.s2 w0 (Fr.s2 w0 (Fr.s2 w0 (Fr.s2 w0 f1))))
theorem fr_Machine_canPush {P : Nat → Prop} {v0 : Nat} {σ : St} {r : Int32 × St} (h : Machine_canPush v0 σ = some r) : Fr P σ r.2 := by
  unfold Machine_canPush at h
  replace h := (ld_some h).2
  obtain ⟨_, σ2, e2, h⟩ := cl_some h
  have f2 : Fr P _ _ := Fr.trans Fr.refl (fr_House_isWord   e2)
  replace h := (zb_some h).2
  rw [← Option.some.inj h]; exact f2
theorem fr_Machine_canPop {P : Nat → Prop} {v0 : Nat} {σ : St} {r : Int32 × St} (h : Machine_canPop v0 σ = some r) : Fr P σ r.2 := by
  unfold Machine_canPop at h
  replace h := (ld_some h).2
  obtain ⟨_, σ2, e2, h⟩ := cl_some h
  have f2 : Fr P _ _ := Fr.trans Fr.refl (fr_House_isWord   e2)
  replace h := (zb_some h).2
  rw [← Option.some.inj h]; exact f2
theorem fr_Machine_push {P : Nat → Prop} {v0 : Nat} {v1 : Int32} {σ : St} {r : St} (w0 : P (ch v0 7)) (w1 : P (ch v0 8)) (h : Machine_push v0 v1 σ = some r) : Fr P σ r := by
  unfold Machine_push at h
  replace h := (ld_some h).2
  replace h := (sa_some h).2
  replace h := (ld_some h).2
  obtain ⟨σ4, e4, h⟩ := cv_some h
  have f4 : Fr P _ _ := Fr.trans (Fr.s2 w0 Fr.refl) (fr_Machine_giveWord  w1 e4)
  rw [← Option.some.inj h]; exact f4
theorem fr_Machine_pop {P : Nat → Prop} {v0 : Nat} {σ : St} {r : Int32 × St} (w0 : P (ch v0 7)) (h : Machine_pop v0 σ = some r) : Fr P σ r.2 := by
  unfold Machine_pop at h
  replace h := (ld_some h).2
  obtain ⟨_, σ2, e2, h⟩ := cl_some h
  have f2 : Fr P _ _ := Fr.trans Fr.refl (fr_Machine_wordAt   e2)
  replace h := (ld_some h).2
  replace h := (sa_some h).2
  rw [← Option.some.inj h]; exact (Fr.s2 w0 f2)
theorem fr_Machine_isFullFor {P : Nat → Prop} {v0 : Nat} {v1 : Int32} {σ : St} {r : Int32 × St} (h : Machine_isFullFor v0 v1 σ = some r) : Fr P σ r.2 := by
  unfold Machine_isFullFor at h
  rcases ite_some h with ⟨_, h⟩ | ⟨_, h⟩
  · rw [← Option.some.inj h]; exact Fr.refl
  · rcases ite_some h with ⟨_, h⟩ | ⟨_, h⟩
    · rw [← Option.some.inj h]; exact Fr.refl
    · rw [← Option.some.inj h]; exact Fr.refl
theorem fr_Machine_serve_B54 {P : Nat → Prop} {v0 : Nat} {v2 : Int32} {t0 : Nat} {t1 : Int32} {t2 : Int32} {σ : St} {r : St} (w0 : P t0) (w1 : P v0) (h : Machine_serve_B54 v0 v2 t0 t1 t2 σ = some r) : Fr P σ r := by
  unfold Machine_serve_B54 at h
  replace h := (sr_two h).2
  rcases ite_some h with ⟨_, h⟩ | ⟨_, h⟩
  · replace h := nm_some h
    rw [← Option.some.inj h]; exact (Fr.s2 w1 (Fr.s2 w0 Fr.refl))
  · replace h := nm_some h
    rw [← Option.some.inj h]; exact (Fr.s2 w1 (Fr.s2 w0 Fr.refl))
theorem fr_Machine_serve_B31 {P : Nat → Prop} {v0 : Nat} {t0 : Int32} {σ : St} {r : St} (w0 : P v0) (w1 : P (ch v0 7)) (h : Machine_serve_B31 v0 t0 σ = some r) : Fr P σ r := by
  unfold Machine_serve_B31 at h
  rcases ite_some h with ⟨_, h⟩ | ⟨_, h⟩
  · exact Fr.trans Fr.refl (fr_Machine_serve_B54  w1 w0 h)
  · replace h := (ld_some h).2
    exact Fr.trans Fr.refl (fr_Machine_serve_B54  w1 w0 h)
theorem fr_Machine_serve {P : Nat → Prop} {v0 : Nat} {v1 : Int32} {σ : St} {r : St} (w0 : P v0) (w1 : P (ch v0 7)) (w2 : P (ch v0 12)) (h : Machine_serve v0 v1 σ = some r) : Fr P σ r := by
  unfold Machine_serve at h
  rcases ite_some h with ⟨_, h⟩ | ⟨_, h⟩
  · rcases ite_some h with ⟨_, h⟩ | ⟨_, h⟩
    · rcases ite_some h with ⟨_, h⟩ | ⟨_, h⟩
      · rw [← Option.some.inj h]; exact Fr.refl
      · replace h := (ld_some h).2
        replace h := (sa_some h).2
        replace h := nm_some h
        rw [← Option.some.inj h]; exact (Fr.s2 w0 (Fr.s2 w2 Fr.refl))
    · replace h := (sa_some h).2
      rw [← Option.some.inj h]; exact (Fr.s2 w1 Fr.refl)
  · rcases ite_some h with ⟨_, h⟩ | ⟨_, h⟩
    · exact Fr.trans Fr.refl (fr_Machine_serve_B31  w0 w1 h)
    · rcases ite_some h with ⟨_, h⟩ | ⟨_, h⟩
      · exact Fr.trans Fr.refl (fr_Machine_serve_B31  w0 w1 h)
      · exact Fr.trans Fr.refl (fr_Machine_serve_B31  w0 w1 h)
theorem fr_Machine_addressOf {P : Nat → Prop} {v0 : Nat} {v1 : Nat} {σ : St} {r : Int32 × St} (h : Machine_addressOf v0 v1 σ = some r) : Fr P σ r.2 := by
  unfold Machine_addressOf at h
  obtain ⟨_, σ1, e1, h⟩ := cl_some h
  have f1 : Fr P _ _ := Fr.trans Fr.refl (fr_Instruction_base   e1)
  obtain ⟨_, σ3, e3, h⟩ := cl_some h
  have f3 : Fr P _ _ := Fr.trans f1 (fr_Machine_registerAt   e3)
  obtain ⟨_, σ5, e5, h⟩ := cl_some h
  have f5 : Fr P _ _ := Fr.trans f3 (fr_Instruction_index   e5)
  obtain ⟨_, σ7, e7, h⟩ := cl_some h
  have f7 : Fr P _ _ := Fr.trans f5 (fr_Machine_registerAt   e7)
  obtain ⟨_, σ9, e9, h⟩ := cl_some h
  have f9 : Fr P _ _ := Fr.trans f7 (fr_Instruction_scale   e9)
  rw [← Option.some.inj h]; exact f9
theorem fr_Machine_changesWord {P : Nat → Prop} {v0 : Nat} {σ : St} {r : Int32 × St} (h : Machine_changesWord v0 σ = some r) : Fr P σ r.2 := by
  unfold Machine_changesWord at h
  rcases ite_some h with ⟨_, h⟩ | ⟨_, h⟩
  · rw [← Option.some.inj h]; exact Fr.refl
  · rcases ite_some h with ⟨_, h⟩ | ⟨_, h⟩
    · rw [← Option.some.inj h]; exact Fr.refl
    · rcases ite_some h with ⟨_, h⟩ | ⟨_, h⟩
      · rw [← Option.some.inj h]; exact Fr.refl
      · rw [← Option.some.inj h]; exact Fr.refl
theorem fr_Machine_giveLeft {P : Nat → Prop} {v0 : Nat} {v1 : Nat} {v2 : Int32} {v3 : Int32} {σ : St} {r : St} (w0 : P v0) (w1 : P (ch v0 7)) (w2 : P (ch v0 8)) (h : Machine_giveLeft v0 v1 v2 v3 σ = some r) : Fr P σ r := by
  unfold Machine_giveLeft at h
  obtain ⟨_, σ1, e1, h⟩ := cl_some h
  have f1 : Fr P _ _ := Fr.trans Fr.refl (fr_Machine_changesWord   e1)
  rcases ite_some h with ⟨_, h⟩ | ⟨_, h⟩
  · obtain ⟨σ3, e3, h⟩ := cv_some h
    have f3 : Fr P _ _ := Fr.trans f1 (fr_Machine_give  w0 w1 e3)
    rw [← Option.some.inj h]; exact f3
  · obtain ⟨σ4, e4, h⟩ := cv_some h
    have f4 : Fr P _ _ := Fr.trans f1 (fr_Machine_giveWord  w2 e4)
    rw [← Option.some.inj h]; exact f4
theorem fr_Machine_lacksWord {P : Nat → Prop} {v0 : Nat} {v1 : Nat} {v2 : Int32} {σ : St} {r : Int32 × St} (h : Machine_lacksWord v0 v1 v2 σ = some r) : Fr P σ r.2 := by
  unfold Machine_lacksWord at h
  rcases ite_some h with ⟨_, h⟩ | ⟨_, h⟩
  · rcases ite_some h with ⟨_, h⟩ | ⟨_, h⟩
    · obtain ⟨_, σ1, e1, h⟩ := cl_some h
      have f1 : Fr P _ _ := Fr.trans Fr.refl (fr_House_isMemoryForm   e1)
      rcases ite_some h with ⟨_, h⟩ | ⟨_, h⟩
      · rw [← Option.some.inj h]; exact f1
      · rcases ite_some h with ⟨_, h⟩ | ⟨_, h⟩
        · rw [← Option.some.inj h]; exact f1
        · obtain ⟨_, σ3, e3, h⟩ := cl_some h
          have f3 : Fr P _ _ := Fr.trans f1 (fr_House_isWord   e3)
          rcases ite_some h with ⟨_, h⟩ | ⟨_, h⟩
          · rw [← Option.some.inj h]; exact f3
          · rw [← Option.some.inj h]; exact f3
    · obtain ⟨_, σ5, e5, h⟩ := cl_some h
      have f5 : Fr P _ _ := Fr.trans Fr.refl (fr_Machine_canPop   e5)
      rcases ite_some h with ⟨_, h⟩ | ⟨_, h⟩
      · rw [← Option.some.inj h]; exact f5
      · rw [← Option.some.inj h]; exact f5
  · obtain ⟨_, σ7, e7, h⟩ := cl_some h
    have f7 : Fr P _ _ := Fr.trans Fr.refl (fr_Machine_canPush   e7)
    rcases ite_some h with ⟨_, h⟩ | ⟨_, h⟩
    · rw [← Option.some.inj h]; exact f7
    · rw [← Option.some.inj h]; exact f7
theorem fr_Machine_leftOf {P : Nat → Prop} {v0 : Nat} {v1 : Nat} {v2 : Int32} {σ : St} {r : Int32 × St} (h : Machine_leftOf v0 v1 v2 σ = some r) : Fr P σ r.2 := by
  unfold Machine_leftOf at h
  obtain ⟨_, σ1, e1, h⟩ := cl_some h
  have f1 : Fr P _ _ := Fr.trans Fr.refl (fr_Machine_changesWord   e1)
  rcases ite_some h with ⟨_, h⟩ | ⟨_, h⟩
  · obtain ⟨_, σ3, e3, h⟩ := cl_some h
    have f3 : Fr P _ _ := Fr.trans f1 (fr_Machine_registerAt   e3)
    rw [← Option.some.inj h]; exact f3
  · obtain ⟨_, σ5, e5, h⟩ := cl_some h
    have f5 : Fr P _ _ := Fr.trans f1 (fr_Machine_wordAt   e5)
    rw [← Option.some.inj h]; exact f5
theorem fr_Machine_readsUnknown_B113 {P : Nat → Prop} {v1 : Nat} {t0 : Int32} {σ : St} {r : Int32 × St} (h : Machine_readsUnknown_B113 v1 t0 σ = some r) : Fr P σ r.2 := by
  unfold Machine_readsUnknown_B113 at h
  rcases ite_some h with ⟨_, h⟩ | ⟨_, h⟩
  · rcases ite_some h with ⟨_, h⟩ | ⟨_, h⟩
    · rw [← Option.some.inj h]; exact Fr.refl
    · rw [← Option.some.inj h]; exact Fr.refl
  · rcases ite_some h with ⟨_, h⟩ | ⟨_, h⟩
    · rcases ite_some h with ⟨_, h⟩ | ⟨_, h⟩
      · rw [← Option.some.inj h]; exact Fr.refl
      · rw [← Option.some.inj h]; exact Fr.refl
    · rcases ite_some h with ⟨_, h⟩ | ⟨_, h⟩
      · rcases ite_some h with ⟨_, h⟩ | ⟨_, h⟩
        · rw [← Option.some.inj h]; exact Fr.refl
        · rw [← Option.some.inj h]; exact Fr.refl
      · rcases ite_some h with ⟨_, h⟩ | ⟨_, h⟩
        · rcases ite_some h with ⟨_, h⟩ | ⟨_, h⟩
          · rw [← Option.some.inj h]; exact Fr.refl
          · rw [← Option.some.inj h]; exact Fr.refl
        · rcases ite_some h with ⟨_, h⟩ | ⟨_, h⟩
          · rw [← Option.some.inj h]; exact Fr.refl
          · rw [← Option.some.inj h]; exact Fr.refl
theorem fr_Machine_readsUnknown_B84 {P : Nat → Prop} {v1 : Nat} {σ : St} {r : Int32 × St} (h : Machine_readsUnknown_B84 v1 σ = some r) : Fr P σ r.2 := by
  unfold Machine_readsUnknown_B84 at h
  rcases ite_some h with ⟨_, h⟩ | ⟨_, h⟩
  · exact Fr.trans Fr.refl (fr_Machine_readsUnknown_B113   h)
  · rcases ite_some h with ⟨_, h⟩ | ⟨_, h⟩
    · exact Fr.trans Fr.refl (fr_Machine_readsUnknown_B113   h)
    · rcases ite_some h with ⟨_, h⟩ | ⟨_, h⟩
      · exact Fr.trans Fr.refl (fr_Machine_readsUnknown_B113   h)
      · exact Fr.trans Fr.refl (fr_Machine_readsUnknown_B113   h)
theorem fr_Machine_readsUnknown_B66 {P : Nat → Prop} {v1 : Nat} {σ : St} {r : Int32 × St} (h : Machine_readsUnknown_B66 v1 σ = some r) : Fr P σ r.2 := by
  unfold Machine_readsUnknown_B66 at h
  rcases ite_some h with ⟨_, h⟩ | ⟨_, h⟩
  · exact Fr.trans Fr.refl (fr_Machine_readsUnknown_B84   h)
  · rcases ite_some h with ⟨_, h⟩ | ⟨_, h⟩
    · exact Fr.trans Fr.refl (fr_Machine_readsUnknown_B84   h)
    · rw [← Option.some.inj h]; exact Fr.refl
theorem fr_Machine_readsUnknown_B29 {P : Nat → Prop} {v0 : Nat} {v1 : Nat} {σ : St} {r : Int32 × St} (h : Machine_readsUnknown_B29 v0 v1 σ = some r) : Fr P σ r.2 := by
  unfold Machine_readsUnknown_B29 at h
  rcases ite_some h with ⟨_, h⟩ | ⟨_, h⟩
  · obtain ⟨_, σ1, e1, h⟩ := cl_some h
    have f1 : Fr P _ _ := Fr.trans Fr.refl (fr_House_isMemoryForm   e1)
    rcases ite_some h with ⟨_, h⟩ | ⟨_, h⟩
    · exact Fr.trans f1 (fr_Machine_readsUnknown_B66   h)
    · obtain ⟨_, σ3, e3, h⟩ := cl_some h
      have f3 : Fr P _ _ := Fr.trans f1 (fr_Instruction_base   e3)
      rcases ite_some h with ⟨_, h⟩ | ⟨_, h⟩
      · rw [← Option.some.inj h]; exact f3
      · obtain ⟨_, σ5, e5, h⟩ := cl_some h
        have f5 : Fr P _ _ := Fr.trans f3 (fr_Instruction_index   e5)
        rcases ite_some h with ⟨_, h⟩ | ⟨_, h⟩
        · exact Fr.trans f5 (fr_Machine_readsUnknown_B66   h)
        · rw [← Option.some.inj h]; exact f5
  · rw [← Option.some.inj h]; exact Fr.refl
theorem fr_Machine_readsUnknown {P : Nat → Prop} {v0 : Nat} {v1 : Nat} {σ : St} {r : Int32 × St} (h : Machine_readsUnknown v0 v1 σ = some r) : Fr P σ r.2 := by
  unfold Machine_readsUnknown at h
  rcases ite_some h with ⟨_, h⟩ | ⟨_, h⟩
  · rcases ite_some h with ⟨_, h⟩ | ⟨_, h⟩
    · exact Fr.trans Fr.refl (fr_Machine_readsUnknown_B29   h)
    · rw [← Option.some.inj h]; exact Fr.refl
  · rcases ite_some h with ⟨_, h⟩ | ⟨_, h⟩
    · exact Fr.trans Fr.refl (fr_Machine_readsUnknown_B29   h)
    · rcases ite_some h with ⟨_, h⟩ | ⟨_, h⟩
      · exact Fr.trans Fr.refl (fr_Machine_readsUnknown_B29   h)
      · rw [← Option.some.inj h]; exact Fr.refl
theorem fr_Machine_rightOf {P : Nat → Prop} {v0 : Nat} {v1 : Nat} {v2 : Int32} {σ : St} {r : Int32 × St} (h : Machine_rightOf v0 v1 v2 σ = some r) : Fr P σ r.2 := by
  unfold Machine_rightOf at h
  replace h := nm_some h
  rcases ite_some h with ⟨_, h⟩ | ⟨_, h⟩
  · obtain ⟨_, σ2, e2, h⟩ := cl_some h
    have f2 : Fr P _ _ := Fr.trans Fr.refl (fr_Machine_registerAt   e2)
    rw [← Option.some.inj h]; exact f2
  · rcases ite_some h with ⟨_, h⟩ | ⟨_, h⟩
    · obtain ⟨_, σ4, e4, h⟩ := cl_some h
      have f4 : Fr P _ _ := Fr.trans Fr.refl (fr_Machine_wordAt   e4)
      rw [← Option.some.inj h]; exact f4
    · rcases ite_some h with ⟨_, h⟩ | ⟨_, h⟩
      · obtain ⟨_, σ6, e6, h⟩ := cl_some h
        have f6 : Fr P _ _ := Fr.trans Fr.refl (fr_Machine_registerAt   e6)
        rw [← Option.some.inj h]; exact f6
      · rw [← Option.some.inj h]; exact Fr.refl
theorem fr_Machine_perform_B223 {P : Nat → Prop} {v0 : Nat} {v1 : Nat} {v2 : Int32} {σ : St} {r : Int32 × St} (w0 : P v0) (w1 : P (ch v0 0)) (w2 : P (ch v0 7)) (w3 : P (ch v0 8)) (h : Machine_perform_B223 v0 v1 v2 σ = some r) : Fr P σ r.2 := by
  unfold Machine_perform_B223 at h
  obtain ⟨_, σ1, e1, h⟩ := cl_some h
  have f1 : Fr P _ _ := Fr.trans Fr.refl (fr_Machine_leftOf   e1)
  obtain ⟨_, σ3, e3, h⟩ := cl_some h
  have f3 : Fr P _ _ := Fr.trans f1 (fr_Machine_rightOf   e3)
  obtain ⟨_, σ5, e5, h⟩ := cl_some h
  have f5 : Fr P _ _ := Fr.trans f3 (fr_Flags_reckon  w1 e5)
  obtain ⟨σ7, e7, h⟩ := cv_some h
  have f7 : Fr P _ _ := Fr.trans f5 (fr_Machine_giveLeft  w0 w2 w3 e7)
  rw [← Option.some.inj h]; exact f7
theorem fr_Machine_perform_B196 {P : Nat → Prop} {v0 : Nat} {v1 : Nat} {v2 : Int32} {σ : St} {r : Int32 × St} (w0 : P (ch v0 0)) (h : Machine_perform_B196 v0 v1 v2 σ = some r) : Fr P σ r.2 := by
  unfold Machine_perform_B196 at h
  obtain ⟨_, σ1, e1, h⟩ := cl_some h
  have f1 : Fr P _ _ := Fr.trans Fr.refl (fr_Machine_leftOf   e1)
  obtain ⟨_, σ3, e3, h⟩ := cl_some h
  have f3 : Fr P _ _ := Fr.trans f1 (fr_Machine_rightOf   e3)
  obtain ⟨_, σ5, e5, h⟩ := cl_some h
  have f5 : Fr P _ _ := Fr.trans f3 (fr_Flags_reckon  w0 e5)
  rw [← Option.some.inj h]; exact f5
theorem fr_Machine_perform_B30 {P : Nat → Prop} {v0 : Nat} {v1 : Nat} {t0 : Int32} {σ : St} {r : Int32 × St} (w0 : P v0) (w1 : P (ch v0 0)) (w2 : P (ch v0 7)) (w3 : P (ch v0 8)) (h : Machine_perform_B30 v0 v1 t0 σ = some r) : Fr P σ r.2 := by
  unfold Machine_perform_B30 at h
  obtain ⟨_, σ1, e1, h⟩ := cl_some h
  have f1 : Fr P _ _ := Fr.trans Fr.refl (fr_Machine_lacksWord   e1)
  rcases ite_some h with ⟨_, h⟩ | ⟨_, h⟩
  · replace h := nm_some h
    rcases ite_some h with ⟨_, h⟩ | ⟨_, h⟩
    · exact Fr.trans f1 (fr_Machine_perform_B196  w1 h)
    · rcases ite_some h with ⟨_, h⟩ | ⟨_, h⟩
      · obtain ⟨_, σ4, e4, h⟩ := cl_some h
        have f4 : Fr P _ _ := Fr.trans f1 (fr_Machine_rightOf   e4)
        obtain ⟨σ6, e6, h⟩ := cv_some h
        have f6 : Fr P _ _ := Fr.trans f4 (fr_Machine_giveLeft  w0 w2 w3 e6)
        rw [← Option.some.inj h]; exact f6
      · rcases ite_some h with ⟨_, h⟩ | ⟨_, h⟩
        · exact Fr.trans f1 (fr_Machine_perform_B196  w1 h)
        · rcases ite_some h with ⟨_, h⟩ | ⟨_, h⟩
          · obtain ⟨σ7, e7, h⟩ := cv_some h
            have f7 : Fr P _ _ := Fr.trans f1 (fr_Machine_give  w0 w2 e7)
            rw [← Option.some.inj h]; exact f7
          · rcases ite_some h with ⟨_, h⟩ | ⟨_, h⟩
            · exact Fr.trans f1 (fr_Machine_perform_B223  w0 w1 w2 w3 h)
            · rcases ite_some h with ⟨_, h⟩ | ⟨_, h⟩
              · exact Fr.trans f1 (fr_Machine_perform_B223  w0 w1 w2 w3 h)
              · rcases ite_some h with ⟨_, h⟩ | ⟨_, h⟩
                · exact Fr.trans f1 (fr_Machine_perform_B223  w0 w1 w2 w3 h)
                · rcases ite_some h with ⟨_, h⟩ | ⟨_, h⟩
                  · exact Fr.trans f1 (fr_Machine_perform_B223  w0 w1 w2 w3 h)
                  · rcases ite_some h with ⟨_, h⟩ | ⟨_, h⟩
                    · exact Fr.trans f1 (fr_Machine_perform_B223  w0 w1 w2 w3 h)
                    · rcases ite_some h with ⟨_, h⟩ | ⟨_, h⟩
                      · exact Fr.trans f1 (fr_Machine_perform_B223  w0 w1 w2 w3 h)
                      · rcases ite_some h with ⟨_, h⟩ | ⟨_, h⟩
                        · exact Fr.trans f1 (fr_Machine_perform_B223  w0 w1 w2 w3 h)
                        · rcases ite_some h with ⟨_, h⟩ | ⟨_, h⟩
                          · exact Fr.trans f1 (fr_Machine_perform_B223  w0 w1 w2 w3 h)
                          · rcases ite_some h with ⟨_, h⟩ | ⟨_, h⟩
                            · rcases ite_some h with ⟨_, h⟩ | ⟨_, h⟩
                              · obtain ⟨_, σ8, e8, h⟩ := cl_some h
                                have f8 : Fr P _ _ := Fr.trans f1 (fr_Machine_registerAt   e8)
                                obtain ⟨σ10, e10, h⟩ := cv_some h
                                have f10 : Fr P _ _ := Fr.trans f8 (fr_Machine_push  w2 w3 e10)
                                rw [← Option.some.inj h]; exact f10
                              · obtain ⟨σ11, e11, h⟩ := cv_some h
                                have f11 : Fr P _ _ := Fr.trans f1 (fr_Machine_push  w2 w3 e11)
                                rw [← Option.some.inj h]; exact f11
                            · rcases ite_some h with ⟨_, h⟩ | ⟨_, h⟩
                              · obtain ⟨_, σ12, e12, h⟩ := cl_some h
                                have f12 : Fr P _ _ := Fr.trans f1 (fr_Machine_pop  w2 e12)
                                obtain ⟨σ14, e14, h⟩ := cv_some h
                                have f14 : Fr P _ _ := Fr.trans f12 (fr_Machine_give  w0 w2 e14)
                                rw [← Option.some.inj h]; exact f14
                              · rcases ite_some h with ⟨_, h⟩ | ⟨_, h⟩
                                · rw [← Option.some.inj h]; exact f1
                                · exact Fr.trans f1 (fr_Machine_perform_B223  w0 w1 w2 w3 h)
  · rw [← Option.some.inj h]; exact f1
theorem fr_Machine_perform {P : Nat → Prop} {v0 : Nat} {v1 : Nat} {σ : St} {r : Int32 × St} (w0 : P v0) (w1 : P (ch v0 0)) (w2 : P (ch v0 7)) (w3 : P (ch v0 8)) (h : Machine_perform v0 v1 σ = some r) : Fr P σ r.2 := by
  unfold Machine_perform at h
  obtain ⟨_, σ1, e1, h⟩ := cl_some h
  have f1 : Fr P _ _ := Fr.trans Fr.refl (fr_Machine_readsUnknown   e1)
  rcases ite_some h with ⟨_, h⟩ | ⟨_, h⟩
  · obtain ⟨_, σ3, e3, h⟩ := cl_some h
    have f3 : Fr P _ _ := Fr.trans f1 (fr_House_isMemoryForm   e3)
    rcases ite_some h with ⟨_, h⟩ | ⟨_, h⟩
    · exact Fr.trans f3 (fr_Machine_perform_B30  w0 w1 w2 w3 h)
    · obtain ⟨_, σ5, e5, h⟩ := cl_some h
      have f5 : Fr P _ _ := Fr.trans f3 (fr_Machine_addressOf   e5)
      exact Fr.trans f5 (fr_Machine_perform_B30  w0 w1 w2 w3 h)
  · rw [← Option.some.inj h]; exact f1
theorem fr_Runner_serve {P : Nat → Prop} {v0 : Nat} {v1 : Int32} {σ : St} {r : Int32 × St} (w0 : P (ch v0 2)) (w1 : P (ch (ch v0 2) 7)) (w2 : P (ch (ch v0 2) 12)) (h : Runner_serve v0 v1 σ = some r) : Fr P σ r.2 := by
  unfold Runner_serve at h
  rcases ite_some h with ⟨_, h⟩ | ⟨_, h⟩
  · obtain ⟨_, σ1, e1, h⟩ := cl_some h
    have f1 : Fr P _ _ := Fr.trans Fr.refl (fr_Machine_canPop   e1)
    rcases ite_some h with ⟨_, h⟩ | ⟨_, h⟩
    · obtain ⟨_, σ3, e3, h⟩ := cl_some h
      have f3 : Fr P _ _ := Fr.trans f1 (fr_Machine_isFullFor   e3)
      rcases ite_some h with ⟨_, h⟩ | ⟨_, h⟩
      · obtain ⟨σ5, e5, h⟩ := cv_some h
        have f5 : Fr P _ _ := Fr.trans f3 (fr_Machine_serve  w0 w1 w2 e5)
        obtain ⟨_, σ6, e6, h⟩ := cl_some h
        have f6 : Fr P _ _ := Fr.trans f5 (fr_Machine_pop  w1 e6)
        replace h := nm_some h
        replace h := nm_some h
        rw [← Option.some.inj h]; exact (Fr.s2 w0 (Fr.s2 w0 f6))
      · rw [← Option.some.inj h]; exact f3
    · rw [← Option.some.inj h]; exact f1
  · replace h := nm_some h
    rw [← Option.some.inj h]; exact (Fr.s2 w0 Fr.refl)
theorem fr_Runner_turnOff_B83 {P : Nat → Prop} {v0 : Nat} {v1 : Nat} {v2 : Int32} {v4 : Int32} {σ : St} {r : Int32 × St} (w0 : P (ch v0 2)) (h : Runner_turnOff_B83 v0 v1 v2 v4 σ = some r) : Fr P σ r.2 := by
  unfold Runner_turnOff_B83 at h
  rcases ite_some h with ⟨_, h⟩ | ⟨_, h⟩
  · replace h := nm_some h
    rw [← Option.some.inj h]; exact (Fr.s2 w0 Fr.refl)
  · obtain ⟨_, σ2, e2, h⟩ := cl_some h
    have f2 : Fr P _ _ := Fr.trans Fr.refl (fr_Flags_holds   e2)
    rcases ite_some h with ⟨_, h⟩ | ⟨_, h⟩
    · replace h := nm_some h
      rw [← Option.some.inj h]; exact (Fr.s2 w0 f2)
    · replace h := nm_some h
      rw [← Option.some.inj h]; exact (Fr.s2 w0 f2)
theorem fr_Runner_turnOff_B69 {P : Nat → Prop} {v0 : Nat} {v1 : Nat} {v2 : Int32} {v3 : Int32} {t0 : Int32} {σ : St} {r : Int32 × St} (w0 : P (ch v0 2)) (w1 : P (ch (ch v0 2) 7)) (w2 : P (ch (ch v0 2) 8)) (h : Runner_turnOff_B69 v0 v1 v2 v3 t0 σ = some r) : Fr P σ r.2 := by
  unfold Runner_turnOff_B69 at h
  rcases ite_some h with ⟨_, h⟩ | ⟨_, h⟩
  · exact Fr.trans Fr.refl (fr_Runner_turnOff_B83  w0 h)
  · obtain ⟨σ1, e1, h⟩ := cv_some h
    have f1 : Fr P _ _ := Fr.trans Fr.refl (fr_Machine_push  w1 w2 e1)
    exact Fr.trans f1 (fr_Runner_turnOff_B83  w0 h)
theorem fr_Runner_turnOff_B40 {P : Nat → Prop} {v0 : Nat} {v1 : Nat} {v2 : Int32} {v3 : Int32} {σ : St} {r : Int32 × St} (w0 : P (ch v0 2)) (w1 : P (ch (ch v0 2) 7)) (w2 : P (ch (ch v0 2) 8)) (h : Runner_turnOff_B40 v0 v1 v2 v3 σ = some r) : Fr P σ r.2 := by
  unfold Runner_turnOff_B40 at h
  rcases ite_some h with ⟨_, h⟩ | ⟨_, h⟩
  · obtain ⟨_, σ1, e1, h⟩ := cl_some h
    have f1 : Fr P _ _ := Fr.trans Fr.refl (fr_Machine_registerAt   e1)
    exact Fr.trans f1 (fr_Runner_turnOff_B69  w0 w1 w2 h)
  · exact Fr.trans Fr.refl (fr_Runner_turnOff_B69  w0 w1 w2 h)
theorem fr_Runner_turnOff_B23 {P : Nat → Prop} {v0 : Nat} {v1 : Nat} {v2 : Int32} {t0 : Int32} {σ : St} {r : Int32 × St} (w0 : P (ch v0 2)) (w1 : P (ch (ch v0 2) 7)) (w2 : P (ch (ch v0 2) 8)) (h : Runner_turnOff_B23 v0 v1 v2 t0 σ = some r) : Fr P σ r.2 := by
  unfold Runner_turnOff_B23 at h
  rcases ite_some h with ⟨_, h⟩ | ⟨_, h⟩
  · exact Fr.trans Fr.refl (fr_Runner_turnOff_B40  w0 w1 w2 h)
  · obtain ⟨_, σ1, e1, h⟩ := cl_some h
    have f1 : Fr P _ _ := Fr.trans Fr.refl (fr_Machine_canPush   e1)
    rcases ite_some h with ⟨_, h⟩ | ⟨_, h⟩
    · exact Fr.trans f1 (fr_Runner_turnOff_B40  w0 w1 w2 h)
    · rw [← Option.some.inj h]; exact f1
theorem fr_Runner_turnOff {P : Nat → Prop} {v0 : Nat} {v1 : Nat} {v2 : Int32} {σ : St} {r : Int32 × St} (w0 : P (ch v0 2)) (w1 : P (ch (ch v0 2) 7)) (w2 : P (ch (ch v0 2) 8)) (h : Runner_turnOff v0 v1 v2 σ = some r) : Fr P σ r.2 := by
  unfold Runner_turnOff at h
  rcases ite_some h with ⟨_, h⟩ | ⟨_, h⟩
  · exact Fr.trans Fr.refl (fr_Runner_turnOff_B23  w0 w1 w2 h)
  · rcases ite_some h with ⟨_, h⟩ | ⟨_, h⟩
    · exact Fr.trans Fr.refl (fr_Runner_turnOff_B23  w0 w1 w2 h)
    · exact Fr.trans Fr.refl (fr_Runner_turnOff_B23  w0 w1 w2 h)
theorem fr_Runner_step_B144 {P : Nat → Prop} {v0 : Nat} {v2 : Int32} {v5 : Int32} {σ : St} {r : Int32 × St} (w0 : P (ch v0 2)) (h : Runner_step_B144 v0 v2 v5 σ = some r) : Fr P σ r.2 := by
  unfold Runner_step_B144 at h
  replace h := nm_some h
  obtain ⟨_, σ2, e2, h⟩ := cl_some h
  have f2 : Fr P _ _ := Fr.trans (Fr.s2 w0 Fr.refl) (fr_Strip_markAt   e2)
  rcases ite_some h with ⟨_, h⟩ | ⟨_, h⟩
  · replace h := nm_some h
    rw [← Option.some.inj h]; exact (Fr.s2 w0 f2)
  · replace h := nm_some h
    rw [← Option.some.inj h]; exact (Fr.s2 w0 f2)
theorem fr_Runner_step {P : Nat → Prop} {v0 : Nat} {v1 : Int32} {σ : St} {r : Int32 × St} (w0 : P (ch v0 1)) (w1 : P (ch (ch v0 1) 0)) (w2 : P (ch v0 2)) (w3 : P (ch (ch v0 2) 0)) (w4 : P (ch (ch v0 2) 7)) (w5 : P (ch (ch v0 2) 8)) (h : Runner_step v0 v1 σ = some r) : Fr P σ r.2 := by
  unfold Runner_step at h
  replace h := nm_some h
  rcases ite_some h with ⟨_, h⟩ | ⟨_, h⟩
  · rw [← Option.some.inj h]; exact Fr.refl
  · rcases ite_some h with ⟨_, h⟩ | ⟨_, h⟩
    · obtain ⟨_, σ2, e2, h⟩ := cl_some h
      have f2 : Fr P _ _ := Fr.trans Fr.refl (fr_Reader_read  w0 w1 e2)
      rcases ite_some h with ⟨_, h⟩ | ⟨_, h⟩
      · rw [← Option.some.inj h]; exact f2
      · rcases ite_some h with ⟨_, h⟩ | ⟨_, h⟩
        · replace h := nm_some h
          rcases ite_some h with ⟨_, h⟩ | ⟨_, h⟩
          · rcases ite_some h with ⟨_, h⟩ | ⟨_, h⟩
            · exact Fr.trans f2 (fr_Runner_step_B144  w2 h)
            · obtain ⟨_, σ5, e5, h⟩ := cl_some h
              have f5 : Fr P _ _ := Fr.trans f2 (fr_Machine_perform  w2 w3 w4 w5 e5)
              rcases ite_some h with ⟨_, h⟩ | ⟨_, h⟩
              · replace h := nm_some h
                rcases ite_some h with ⟨_, h⟩ | ⟨_, h⟩
                · exact Fr.trans (Fr.s2 w2 f5) (fr_Runner_step_B144  w2 h)
                · rcases ite_some h with ⟨_, h⟩ | ⟨_, h⟩
                  · rw [← Option.some.inj h]; exact (Fr.s2 w2 f5)
                  · exact Fr.trans (Fr.s2 w2 f5) (fr_Runner_step_B144  w2 h)
              · replace h := nm_some h
                rcases ite_some h with ⟨_, h⟩ | ⟨_, h⟩
                · exact Fr.trans (Fr.s2 w2 f5) (fr_Runner_step_B144  w2 h)
                · rcases ite_some h with ⟨_, h⟩ | ⟨_, h⟩
                  · rw [← Option.some.inj h]; exact (Fr.s2 w2 f5)
                  · exact Fr.trans (Fr.s2 w2 f5) (fr_Runner_step_B144  w2 h)
          · obtain ⟨_, σ9, e9, h⟩ := cl_some h
            have f9 : Fr P _ _ := Fr.trans f2 (fr_Runner_turnOff  w2 w4 w5 e9)
            rcases ite_some h with ⟨_, h⟩ | ⟨_, h⟩
            · exact Fr.trans f9 (fr_Runner_step_B144  w2 h)
            · rcases ite_some h with ⟨_, h⟩ | ⟨_, h⟩
              · rw [← Option.some.inj h]; exact f9
              · exact Fr.trans f9 (fr_Runner_step_B144  w2 h)
        · rw [← Option.some.inj h]; exact f2
    · rw [← Option.some.inj h]; exact Fr.refl
theorem fr_Runner_goOn_B4 {P : Nat → Prop} : ∀ (n : Nat) (v0 : Nat) (v1 : Int32) (v2 : Int32) (v3 : Int32) (σ : St) (r : Int32 × St), P (ch v0 1) → P (ch (ch v0 1) 0) → P (ch v0 2) → P (ch (ch v0 2) 0) → P (ch (ch v0 2) 7) → P (ch (ch v0 2) 8) → P (ch (ch v0 2) 12) → Runner_goOn_B4 n v0 v1 v2 v3 σ = some r → Fr P σ r.2 := by
  intro n
  induction n with
  | zero => intro v0 v1 v2 v3 σ r w0 w1 w2 w3 w4 w5 w6 h; unfold Runner_goOn_B4 at h; cases h
  | succ n ih =>
    intro v0 v1 v2 v3 σ r w0 w1 w2 w3 w4 w5 w6 h
    unfold Runner_goOn_B4 at h
    rcases ite_some h with ⟨_, h⟩ | ⟨_, h⟩
    · rcases ite_some h with ⟨_, h⟩ | ⟨_, h⟩
      · replace h := nm_some h
        rw [← Option.some.inj h]; exact (Fr.s2 w2 Fr.refl)
      · replace h := nm_some h
        rw [← Option.some.inj h]; exact (Fr.s2 w2 Fr.refl)
    · rcases ite_some h with ⟨_, h⟩ | ⟨_, h⟩
      · rcases ite_some h with ⟨_, h⟩ | ⟨_, h⟩
        · replace h := nm_some h
          rw [← Option.some.inj h]; exact (Fr.s2 w2 Fr.refl)
        · replace h := nm_some h
          rw [← Option.some.inj h]; exact (Fr.s2 w2 Fr.refl)
      · obtain ⟨_, σ5, e5, h⟩ := cl_some h
        have f5 : Fr P _ _ := Fr.trans Fr.refl (fr_House_isService   e5)
        rcases ite_some h with ⟨_, h⟩ | ⟨_, h⟩
        · obtain ⟨_, σ7, e7, h⟩ := cl_some h
          have f7 : Fr P _ _ := Fr.trans f5 (fr_Runner_step  w0 w1 w2 w3 w4 w5 e7)
          replace h := nm_some h
          exact Fr.trans f7 (ih _ _ _ _ _ _ w0 w1 w2 w3 w4 w5 w6 h)
        · obtain ⟨_, σ10, e10, h⟩ := cl_some h
          have f10 : Fr P _ _ := Fr.trans f5 (fr_Runner_serve  w2 w4 w6 e10)
          replace h := nm_some h
          exact Fr.trans f10 (ih _ _ _ _ _ _ w0 w1 w2 w3 w4 w5 w6 h)
theorem fr_Runner_goOn {P : Nat → Prop} {v0 : Nat} {v1 : Int32} {σ : St} {r : Int32 × St} (w0 : P (ch v0 1)) (w1 : P (ch (ch v0 1) 0)) (w2 : P (ch v0 2)) (w3 : P (ch (ch v0 2) 0)) (w4 : P (ch (ch v0 2) 7)) (w5 : P (ch (ch v0 2) 8)) (w6 : P (ch (ch v0 2) 12)) (h : Runner_goOn v0 v1 σ = some r) : Fr P σ r.2 := by
  unfold Runner_goOn at h
  exact Fr.trans Fr.refl (fr_Runner_goOn_B4  _ _ _ _ _ _ _ w0 w1 w2 w3 w4 w5 w6 h)
theorem fr_Walker_goTo {P : Nat → Prop} {v0 : Nat} {v1 : Int32} {σ : St} {r : Int32 × St} (w0 : P v0) (w1 : P (ch v0 1)) (h : Walker_goTo v0 v1 σ = some r) : Fr P σ r.2 := by
  unfold Walker_goTo at h
  replace h := nm_some h
  rcases ite_some h with ⟨_, h⟩ | ⟨_, h⟩
  · obtain ⟨_, σ2, e2, h⟩ := cl_some h
    have f2 : Fr P _ _ := Fr.trans (Fr.s2 w1 Fr.refl) (fr_Program_pastLabels   e2)
    replace h := nm_some h
    rw [← Option.some.inj h]; exact (Fr.s2 w0 f2)
  · replace h := nm_some h
    rw [← Option.some.inj h]; exact (Fr.s2 w0 (Fr.s2 w1 Fr.refl))
theorem fr_Walker_standStill {P : Nat → Prop} {v0 : Nat} {v1 : Int32} {σ : St} {r : Int32 × St} (w0 : P (ch v0 1)) (h : Walker_standStill v0 v1 σ = some r) : Fr P σ r.2 := by
  unfold Walker_standStill at h
  replace h := nm_some h
  rw [← Option.some.inj h]; exact (Fr.s2 w0 Fr.refl)
theorem fr_Walker_serve {P : Nat → Prop} {v0 : Nat} {v1 : Int32} {σ : St} {r : Int32 × St} (w0 : P v0) (w1 : P (ch v0 1)) (w2 : P (ch (ch v0 1) 7)) (w3 : P (ch (ch v0 1) 12)) (h : Walker_serve v0 v1 σ = some r) : Fr P σ r.2 := by
  unfold Walker_serve at h
  rcases ite_some h with ⟨_, h⟩ | ⟨_, h⟩
  · obtain ⟨_, σ1, e1, h⟩ := cl_some h
    have f1 : Fr P _ _ := Fr.trans Fr.refl (fr_Machine_canPop   e1)
    rcases ite_some h with ⟨_, h⟩ | ⟨_, h⟩
    · obtain ⟨_, σ3, e3, h⟩ := cl_some h
      have f3 : Fr P _ _ := Fr.trans f1 (fr_Machine_registerAt   e3)
      obtain ⟨_, σ5, e5, h⟩ := cl_some h
      have f5 : Fr P _ _ := Fr.trans f3 (fr_Machine_wordAt   e5)
      obtain ⟨_, σ7, e7, h⟩ := cl_some h
      have f7 : Fr P _ _ := Fr.trans f5 (fr_Program_landingAt   e7)
      rcases ite_some h with ⟨_, h⟩ | ⟨_, h⟩
      · obtain ⟨_, σ9, e9, h⟩ := cl_some h
        have f9 : Fr P _ _ := Fr.trans f7 (fr_Machine_isFullFor   e9)
        rcases ite_some h with ⟨_, h⟩ | ⟨_, h⟩
        · obtain ⟨σ11, e11, h⟩ := cv_some h
          have f11 : Fr P _ _ := Fr.trans f9 (fr_Machine_serve  w1 w2 w3 e11)
          obtain ⟨_, σ12, e12, h⟩ := cl_some h
          have f12 : Fr P _ _ := Fr.trans f11 (fr_Machine_pop  w2 e12)
          obtain ⟨_, σ14, e14, h⟩ := cl_some h
          have f14 : Fr P _ _ := Fr.trans f12 (fr_Walker_goTo  w0 w1 e14)
          rw [← Option.some.inj h]; exact f14
        · rw [← Option.some.inj h]; exact f9
      · rw [← Option.some.inj h]; exact f7
    · rw [← Option.some.inj h]; exact f1
  · obtain ⟨_, σ16, e16, h⟩ := cl_some h
    have f16 : Fr P _ _ := Fr.trans Fr.refl (fr_Walker_standStill  w1 e16)
    rw [← Option.some.inj h]; exact f16
theorem fr_Walker_addressBehind {P : Nat → Prop} {v0 : Nat} {σ : St} {r : Int32 × St} (h : Walker_addressBehind v0 σ = some r) : Fr P σ r.2 := by
  unfold Walker_addressBehind at h
  obtain ⟨_, σ1, e1, h⟩ := cl_some h
  have f1 : Fr P _ _ := Fr.trans Fr.refl (fr_Program_addressOf   e1)
  rw [← Option.some.inj h]; exact f1
theorem fr_Walker_callTo {P : Nat → Prop} {v0 : Nat} {v1 : Int32} {σ : St} {r : Int32 × St} (w0 : P v0) (w1 : P (ch v0 1)) (w2 : P (ch (ch v0 1) 7)) (w3 : P (ch (ch v0 1) 8)) (h : Walker_callTo v0 v1 σ = some r) : Fr P σ r.2 := by
  unfold Walker_callTo at h
  obtain ⟨_, σ1, e1, h⟩ := cl_some h
  have f1 : Fr P _ _ := Fr.trans Fr.refl (fr_Machine_canPush   e1)
  rcases ite_some h with ⟨_, h⟩ | ⟨_, h⟩
  · obtain ⟨_, σ3, e3, h⟩ := cl_some h
    have f3 : Fr P _ _ := Fr.trans f1 (fr_Walker_addressBehind   e3)
    obtain ⟨σ5, e5, h⟩ := cv_some h
    have f5 : Fr P _ _ := Fr.trans f3 (fr_Machine_push  w2 w3 e5)
    obtain ⟨_, σ6, e6, h⟩ := cl_some h
    have f6 : Fr P _ _ := Fr.trans f5 (fr_Walker_goTo  w0 w1 e6)
    rw [← Option.some.inj h]; exact f6
  · rw [← Option.some.inj h]; exact f1
theorem fr_Walker_goBack {P : Nat → Prop} {v0 : Nat} {σ : St} {r : Int32 × St} (w0 : P v0) (w1 : P (ch v0 1)) (w2 : P (ch (ch v0 1) 0)) (w3 : P (ch (ch v0 1) 7)) (h : Walker_goBack v0 σ = some r) : Fr P σ r.2 := by
  unfold Walker_goBack at h
  obtain ⟨_, σ1, e1, h⟩ := cl_some h
  have f1 : Fr P _ _ := Fr.trans Fr.refl (fr_Machine_canPop   e1)
  rcases ite_some h with ⟨_, h⟩ | ⟨_, h⟩
  · obtain ⟨_, σ3, e3, h⟩ := cl_some h
    have f3 : Fr P _ _ := Fr.trans f1 (fr_Machine_registerAt   e3)
    obtain ⟨_, σ5, e5, h⟩ := cl_some h
    have f5 : Fr P _ _ := Fr.trans f3 (fr_Machine_wordAt   e5)
    obtain ⟨_, σ7, e7, h⟩ := cl_some h
    have f7 : Fr P _ _ := Fr.trans f5 (fr_Program_landingAt   e7)
    rcases ite_some h with ⟨_, h⟩ | ⟨_, h⟩
    · obtain ⟨_, σ9, e9, h⟩ := cl_some h
      have f9 : Fr P _ _ := Fr.trans f7 (fr_Machine_pop  w3 e9)
      obtain ⟨σ11, e11, h⟩ := cv_some h
      have f11 : Fr P _ _ := Fr.trans f9 (fr_Machine_give  w1 w3 e11)
      replace h := nm_some h
      obtain ⟨σ13, e13, h⟩ := cv_some h
      have f13 : Fr P _ _ := Fr.trans (Fr.s2 w1 f11) (fr_Flags_setAll  w2 e13)
      obtain ⟨_, σ14, e14, h⟩ := cl_some h
      have f14 : Fr P _ _ := Fr.trans f13 (fr_Walker_goTo  w0 w1 e14)
      rw [← Option.some.inj h]; exact f14
    · rw [← Option.some.inj h]; exact f7
  · rw [← Option.some.inj h]; exact f1
theorem fr_Walker_goByRegister_B74 {P : Nat → Prop} {v0 : Nat} {v3 : Int32} {σ : St} {r : Int32 × St} (w0 : P v0) (w1 : P (ch v0 1)) (w2 : P (ch (ch v0 1) 0)) (h : Walker_goByRegister_B74 v0 v3 σ = some r) : Fr P σ r.2 := by
  unfold Walker_goByRegister_B74 at h
  obtain ⟨σ1, e1, h⟩ := cv_some h
  have f1 : Fr P _ _ := Fr.trans Fr.refl (fr_Flags_setAll  w2 e1)
  obtain ⟨_, σ2, e2, h⟩ := cl_some h
  have f2 : Fr P _ _ := Fr.trans f1 (fr_Walker_goTo  w0 w1 e2)
  rw [← Option.some.inj h]; exact f2
theorem fr_Walker_goByRegister_B59 {P : Nat → Prop} {v0 : Nat} {v2 : Int32} {v3 : Int32} {σ : St} {r : Int32 × St} (w0 : P v0) (w1 : P (ch v0 1)) (w2 : P (ch (ch v0 1) 0)) (w3 : P (ch (ch v0 1) 7)) (w4 : P (ch (ch v0 1) 8)) (h : Walker_goByRegister_B59 v0 v2 v3 σ = some r) : Fr P σ r.2 := by
  unfold Walker_goByRegister_B59 at h
  rcases ite_some h with ⟨_, h⟩ | ⟨_, h⟩
  · exact Fr.trans Fr.refl (fr_Walker_goByRegister_B74  w0 w1 w2 h)
  · obtain ⟨_, σ1, e1, h⟩ := cl_some h
    have f1 : Fr P _ _ := Fr.trans Fr.refl (fr_Walker_addressBehind   e1)
    obtain ⟨σ3, e3, h⟩ := cv_some h
    have f3 : Fr P _ _ := Fr.trans f1 (fr_Machine_push  w3 w4 e3)
    exact Fr.trans f3 (fr_Walker_goByRegister_B74  w0 w1 w2 h)
theorem fr_Walker_goByRegister_B18 {P : Nat → Prop} {v0 : Nat} {v1 : Int32} {v2 : Int32} {σ : St} {r : Int32 × St} (w0 : P v0) (w1 : P (ch v0 1)) (w2 : P (ch (ch v0 1) 0)) (w3 : P (ch (ch v0 1) 7)) (w4 : P (ch (ch v0 1) 8)) (h : Walker_goByRegister_B18 v0 v1 v2 σ = some r) : Fr P σ r.2 := by
  unfold Walker_goByRegister_B18 at h
  obtain ⟨_, σ1, e1, h⟩ := cl_some h
  have f1 : Fr P _ _ := Fr.trans Fr.refl (fr_Machine_registerAt   e1)
  obtain ⟨_, σ3, e3, h⟩ := cl_some h
  have f3 : Fr P _ _ := Fr.trans f1 (fr_Program_landingAt   e3)
  rcases ite_some h with ⟨_, h⟩ | ⟨_, h⟩
  · rcases ite_some h with ⟨_, h⟩ | ⟨_, h⟩
    · exact Fr.trans f3 (fr_Walker_goByRegister_B59  w0 w1 w2 w3 w4 h)
    · obtain ⟨_, σ5, e5, h⟩ := cl_some h
      have f5 : Fr P _ _ := Fr.trans f3 (fr_Machine_canPush   e5)
      rcases ite_some h with ⟨_, h⟩ | ⟨_, h⟩
      · exact Fr.trans f5 (fr_Walker_goByRegister_B59  w0 w1 w2 w3 w4 h)
      · rw [← Option.some.inj h]; exact f5
  · rw [← Option.some.inj h]; exact f3
theorem fr_Walker_goByRegister {P : Nat → Prop} {v0 : Nat} {v1 : Int32} {v2 : Int32} {σ : St} {r : Int32 × St} (w0 : P v0) (w1 : P (ch v0 1)) (w2 : P (ch (ch v0 1) 0)) (w3 : P (ch (ch v0 1) 7)) (w4 : P (ch (ch v0 1) 8)) (h : Walker_goByRegister v0 v1 v2 σ = some r) : Fr P σ r.2 := by
  unfold Walker_goByRegister at h
  rcases ite_some h with ⟨_, h⟩ | ⟨_, h⟩
  · exact Fr.trans Fr.refl (fr_Walker_goByRegister_B18  w0 w1 w2 w3 w4 h)
  · rcases ite_some h with ⟨_, h⟩ | ⟨_, h⟩
    · exact Fr.trans Fr.refl (fr_Walker_goByRegister_B18  w0 w1 w2 w3 w4 h)
    · rw [← Option.some.inj h]; exact Fr.refl
theorem fr_Walker_stepFlow {P : Nat → Prop} {v0 : Nat} {v1 : Int32} {v2 : Int32} {v3 : Int32} {σ : St} {r : Int32 × St} (w0 : P v0) (w1 : P (ch v0 1)) (w2 : P (ch (ch v0 1) 0)) (w3 : P (ch (ch v0 1) 7)) (w4 : P (ch (ch v0 1) 8)) (h : Walker_stepFlow v0 v1 v2 v3 σ = some r) : Fr P σ r.2 := by
  unfold Walker_stepFlow at h
  rcases ite_some h with ⟨_, h⟩ | ⟨_, h⟩
  · obtain ⟨_, σ1, e1, h⟩ := cl_some h
    have f1 : Fr P _ _ := Fr.trans Fr.refl (fr_Program_labelItem   e1)
    obtain ⟨_, σ3, e3, h⟩ := cl_some h
    have f3 : Fr P _ _ := Fr.trans f1 (fr_Walker_goTo  w0 w1 e3)
    rw [← Option.some.inj h]; exact f3
  · rcases ite_some h with ⟨_, h⟩ | ⟨_, h⟩
    · obtain ⟨_, σ5, e5, h⟩ := cl_some h
      have f5 : Fr P _ _ := Fr.trans Fr.refl (fr_Flags_isUnknownTo   e5)
      rcases ite_some h with ⟨_, h⟩ | ⟨_, h⟩
      · obtain ⟨_, σ7, e7, h⟩ := cl_some h
        have f7 : Fr P _ _ := Fr.trans f5 (fr_Flags_holds   e7)
        rcases ite_some h with ⟨_, h⟩ | ⟨_, h⟩
        · obtain ⟨_, σ9, e9, h⟩ := cl_some h
          have f9 : Fr P _ _ := Fr.trans f7 (fr_Walker_goTo  w0 w1 e9)
          rw [← Option.some.inj h]; exact f9
        · obtain ⟨_, σ11, e11, h⟩ := cl_some h
          have f11 : Fr P _ _ := Fr.trans f7 (fr_Program_labelItem   e11)
          obtain ⟨_, σ13, e13, h⟩ := cl_some h
          have f13 : Fr P _ _ := Fr.trans f11 (fr_Walker_goTo  w0 w1 e13)
          rw [← Option.some.inj h]; exact f13
      · rw [← Option.some.inj h]; exact f5
    · rcases ite_some h with ⟨_, h⟩ | ⟨_, h⟩
      · obtain ⟨_, σ15, e15, h⟩ := cl_some h
        have f15 : Fr P _ _ := Fr.trans Fr.refl (fr_Program_labelItem   e15)
        obtain ⟨_, σ17, e17, h⟩ := cl_some h
        have f17 : Fr P _ _ := Fr.trans f15 (fr_Walker_callTo  w0 w1 w3 w4 e17)
        rw [← Option.some.inj h]; exact f17
      · rcases ite_some h with ⟨_, h⟩ | ⟨_, h⟩
        · obtain ⟨_, σ19, e19, h⟩ := cl_some h
          have f19 : Fr P _ _ := Fr.trans Fr.refl (fr_Walker_callTo  w0 w1 w3 w4 e19)
          rw [← Option.some.inj h]; exact f19
        · rcases ite_some h with ⟨_, h⟩ | ⟨_, h⟩
          · obtain ⟨_, σ21, e21, h⟩ := cl_some h
            have f21 : Fr P _ _ := Fr.trans Fr.refl (fr_Walker_goByRegister  w0 w1 w2 w3 w4 e21)
            rw [← Option.some.inj h]; exact f21
          · rcases ite_some h with ⟨_, h⟩ | ⟨_, h⟩
            · obtain ⟨_, σ23, e23, h⟩ := cl_some h
              have f23 : Fr P _ _ := Fr.trans Fr.refl (fr_Walker_goByRegister  w0 w1 w2 w3 w4 e23)
              rw [← Option.some.inj h]; exact f23
            · rcases ite_some h with ⟨_, h⟩ | ⟨_, h⟩
              · obtain ⟨_, σ25, e25, h⟩ := cl_some h
                have f25 : Fr P _ _ := Fr.trans Fr.refl (fr_Walker_goBack  w0 w1 w2 w3 e25)
                rw [← Option.some.inj h]; exact f25
              · obtain ⟨_, σ27, e27, h⟩ := cl_some h
                have f27 : Fr P _ _ := Fr.trans Fr.refl (fr_Program_labelItem   e27)
                obtain ⟨_, σ29, e29, h⟩ := cl_some h
                have f29 : Fr P _ _ := Fr.trans f27 (fr_Program_addressOf   e29)
                obtain ⟨σ31, e31, h⟩ := cv_some h
                have f31 : Fr P _ _ := Fr.trans f29 (fr_Machine_give  w1 w3 e31)
                obtain ⟨_, σ32, e32, h⟩ := cl_some h
                have f32 : Fr P _ _ := Fr.trans f31 (fr_Walker_goTo  w0 w1 e32)
                rw [← Option.some.inj h]; exact f32
theorem fr_Walker_stepPlain {P : Nat → Prop} {v0 : Nat} {σ : St} {r : Int32 × St} (w0 : P v0) (w1 : P (ch v0 1)) (w2 : P (ch (ch v0 1) 0)) (w3 : P (ch (ch v0 1) 7)) (w4 : P (ch (ch v0 1) 8)) (w5 : P (ch v0 2)) (h : Walker_stepPlain v0 σ = some r) : Fr P σ r.2 := by
  unfold Walker_stepPlain at h
  obtain ⟨σ1, e1, h⟩ := cv_some h
  have f1 : Fr P _ _ := Fr.trans Fr.refl (fr_Program_loadItem  w5 e1)
  rcases ite_some h with ⟨_, h⟩ | ⟨_, h⟩
  · obtain ⟨_, σ2, e2, h⟩ := cl_some h
    have f2 : Fr P _ _ := Fr.trans f1 (fr_Machine_perform  w1 w2 w3 w4 e2)
    rcases ite_some h with ⟨_, h⟩ | ⟨_, h⟩
    · rw [← Option.some.inj h]; exact f2
    · obtain ⟨_, σ4, e4, h⟩ := cl_some h
      have f4 : Fr P _ _ := Fr.trans f2 (fr_Walker_goTo  w0 w1 e4)
      rw [← Option.some.inj h]; exact f4
  · obtain ⟨_, σ6, e6, h⟩ := cl_some h
    have f6 : Fr P _ _ := Fr.trans f1 (fr_Walker_standStill  w1 e6)
    rw [← Option.some.inj h]; exact f6
theorem fr_Walker_goOn_B145 {P : Nat → Prop} {v0 : Nat} {v2 : Int32} {σ : St} {r : Int32 × St} (w0 : P (ch v0 1)) (h : Walker_goOn_B145 v0 v2 σ = some r) : Fr P σ r.2 := by
  unfold Walker_goOn_B145 at h
  obtain ⟨_, σ1, e1, h⟩ := cl_some h
  have f1 : Fr P _ _ := Fr.trans Fr.refl (fr_Program_addressOf   e1)
  replace h := nm_some h
  rcases ite_some h with ⟨_, h⟩ | ⟨_, h⟩
  · replace h := nm_some h
    rw [← Option.some.inj h]; exact (Fr.s2 w0 (Fr.s2 w0 f1))
  · replace h := nm_some h
    rw [← Option.some.inj h]; exact (Fr.s2 w0 (Fr.s2 w0 f1))
theorem fr_Walker_goOn_B16 {P : Nat → Prop} : ∀ (n : Nat) (v0 : Nat) (v1 : Int32) (v2 : Int32) (v3 : Int32) (σ : St) (r : Int32 × St), P v0 → P (ch v0 1) → P (ch (ch v0 1) 0) → P (ch (ch v0 1) 7) → P (ch (ch v0 1) 8) → P (ch (ch v0 1) 12) → P (ch v0 2) → Walker_goOn_B16 n v0 v1 v2 v3 σ = some r → Fr P σ r.2 := by
  intro n
  induction n with
  | zero => intro v0 v1 v2 v3 σ r w0 w1 w2 w3 w4 w5 w6 h; unfold Walker_goOn_B16 at h; cases h
  | succ n ih =>
    intro v0 v1 v2 v3 σ r w0 w1 w2 w3 w4 w5 w6 h
    unfold Walker_goOn_B16 at h
    rcases ite_some h with ⟨_, h⟩ | ⟨_, h⟩
    · exact Fr.trans Fr.refl (fr_Walker_goOn_B145  w1 h)
    · rcases ite_some h with ⟨_, h⟩ | ⟨_, h⟩
      · exact Fr.trans Fr.refl (fr_Walker_goOn_B145  w1 h)
      · rcases ite_some h with ⟨_, h⟩ | ⟨_, h⟩
        · obtain ⟨_, σ1, e1, h⟩ := cl_some h
          have f1 : Fr P _ _ := Fr.trans Fr.refl (fr_Program_hasItem   e1)
          rcases ite_some h with ⟨_, h⟩ | ⟨_, h⟩
          · replace h := (ld_some h).2
            rcases ite_some h with ⟨_, h⟩ | ⟨_, h⟩
            · replace h := (ld_some h).2
              replace h := (ld_some h).2
              replace h := (ld_some h).2
              obtain ⟨_, σ7, e7, h⟩ := cl_some h
              have f7 : Fr P _ _ := Fr.trans f1 (fr_Walker_stepFlow  w0 w1 w2 w3 w4 e7)
              replace h := nm_some h
              exact Fr.trans f7 (ih _ _ _ _ _ _ w0 w1 w2 w3 w4 w5 w6 h)
            · obtain ⟨_, σ10, e10, h⟩ := cl_some h
              have f10 : Fr P _ _ := Fr.trans f1 (fr_Walker_stepPlain  w0 w1 w2 w3 w4 w6 e10)
              replace h := nm_some h
              exact Fr.trans f10 (ih _ _ _ _ _ _ w0 w1 w2 w3 w4 w5 w6 h)
          · obtain ⟨_, σ13, e13, h⟩ := cl_some h
            have f13 : Fr P _ _ := Fr.trans f1 (fr_Walker_standStill  w1 e13)
            replace h := nm_some h
            exact Fr.trans f13 (ih _ _ _ _ _ _ w0 w1 w2 w3 w4 w5 w6 h)
        · obtain ⟨_, σ16, e16, h⟩ := cl_some h
          have f16 : Fr P _ _ := Fr.trans Fr.refl (fr_Walker_serve  w0 w1 w3 w5 e16)
          replace h := nm_some h
          exact Fr.trans f16 (ih _ _ _ _ _ _ w0 w1 w2 w3 w4 w5 w6 h)
theorem fr_Walker_goOn {P : Nat → Prop} {v0 : Nat} {v1 : Int32} {σ : St} {r : Int32 × St} (w0 : P v0) (w1 : P (ch v0 1)) (w2 : P (ch (ch v0 1) 0)) (w3 : P (ch (ch v0 1) 7)) (w4 : P (ch (ch v0 1) 8)) (w5 : P (ch (ch v0 1) 12)) (w6 : P (ch v0 2)) (h : Walker_goOn v0 v1 σ = some r) : Fr P σ r.2 := by
  unfold Walker_goOn at h
  obtain ⟨_, σ1, e1, h⟩ := cl_some h
  have f1 : Fr P _ _ := Fr.trans Fr.refl (fr_Program_pastLabels   e1)
  replace h := nm_some h
  exact Fr.trans (Fr.s2 w0 f1) (fr_Walker_goOn_B16  _ _ _ _ _ _ _ w0 w1 w2 w3 w4 w5 w6 h)
theorem fr_House_feed {P : Nat → Prop} {v0 : Nat} {v1 : Int32} {v2 : Int32} {v3 : Int32} {v4 : Int32} {v5 : Int32} {σ : St} {r : Int32 × St} (w0 : P (ch v0 0)) (w1 : P (ch (ch v0 0) 0)) (h : House_feed v0 v1 v2 v3 v4 v5 σ = some r) : Fr P σ r.2 := by
  unfold House_feed at h
  rcases ite_some h with ⟨_, h⟩ | ⟨_, h⟩
  · obtain ⟨σ1, e1, h⟩ := cv_some h
    have f1 : Fr P _ _ := Fr.trans Fr.refl (fr_Strip_addFour  w0 w1 e1)
    obtain ⟨σ2, e2, h⟩ := cv_some h
    have f2 : Fr P _ _ := Fr.trans f1 (fr_Strip_addFour  w0 w1 e2)
    obtain ⟨σ3, e3, h⟩ := cv_some h
    have f3 : Fr P _ _ := Fr.trans f2 (fr_Strip_addFour  w0 w1 e3)
    obtain ⟨σ4, e4, h⟩ := cv_some h
    have f4 : Fr P _ _ := Fr.trans f3 (fr_Strip_addFour  w0 w1 e4)
    obtain ⟨σ5, e5, h⟩ := cv_some h
    have f5 : Fr P _ _ := Fr.trans f4 (fr_Strip_addFour  w0 w1 e5)
    rw [← Option.some.inj h]; exact f5
  · rw [← Option.some.inj h]; exact Fr.refl
theorem fr_House_end {P : Nat → Prop} {v0 : Nat} {v1 : Int32} {σ : St} {r : Int32 × St} (w0 : P (ch v0 0)) (h : House_end v0 v1 σ = some r) : Fr P σ r.2 := by
  unfold House_end at h
  rcases ite_some h with ⟨_, h⟩ | ⟨_, h⟩
  · rw [← Option.some.inj h]; exact Fr.refl
  · rcases ite_some h with ⟨_, h⟩ | ⟨_, h⟩
    · replace h := nm_some h
      rw [← Option.some.inj h]; exact (Fr.s2 w0 Fr.refl)
    · rw [← Option.some.inj h]; exact Fr.refl
theorem fr_House_forgetRuns {P : Nat → Prop} {v0 : Nat} {σ : St} {r : St} (w0 : P (ch v0 9)) (w1 : P (ch v0 10)) (h : House_forgetRuns v0 σ = some r) : Fr P σ r := by
  unfold House_forgetRuns at h
  replace h := nm_some h
  replace h := nm_some h
  rw [← Option.some.inj h]; exact (Fr.s2 w1 (Fr.s2 w0 Fr.refl))
theorem fr_House_check {P : Nat → Prop} {v0 : Nat} {σ : St} {r : Int32 × St} (w0 : P v0) (w1 : P (ch v0 0)) (w2 : P (ch v0 1)) (w3 : P (ch (ch (ch v0 1) 1) 1)) (w4 : P (ch (ch v0 1) 2)) (w5 : P (ch (ch (ch v0 1) 2) 0)) (w6 : P (ch v0 2)) (w7 : P (ch (ch v0 2) 0)) (w8 : P (ch (ch v0 2) 1)) (w9 : P (ch v0 9)) (w10 : P (ch v0 10)) (h : House_check v0 σ = some r) : Fr P σ r.2 := by
  unfold House_check at h
  obtain ⟨_, σ1, e1, h⟩ := cl_some h
  have f1 : Fr P _ _ := Fr.trans Fr.refl (fr_Policy_findFault  w2 w3 w4 w5 e1)
  replace h := nm_some h
  replace h := nm_some h
  rcases ite_some h with ⟨_, h⟩ | ⟨_, h⟩
  · replace h := nm_some h
    rw [← Option.some.inj h]; exact (Fr.s2 w1 (Fr.s2 w0 (Fr.s2 w0 f1)))
  · obtain ⟨σ6, e6, h⟩ := cv_some h
    have f6 : Fr P _ _ := Fr.trans (Fr.s2 w0 (Fr.s2 w0 f1)) (fr_Strip_copyFrom  w6 w7 w8 e6)
    replace h := nm_some h
    obtain ⟨σ8, e8, h⟩ := cv_some h
    have f8 : Fr P _ _ := Fr.trans (Fr.s2 w0 f6) (fr_House_forgetRuns  w9 w10 e8)
    replace h := nm_some h
    rw [← Option.some.inj h]; exact (Fr.s2 w1 f8)
theorem fr_House_fault {P : Nat → Prop} {v0 : Nat} {v1 : Int32} {σ : St} {r : Int32 × St} (h : House_fault v0 v1 σ = some r) : Fr P σ r.2 := by
  unfold House_fault at h
  rcases ite_some h with ⟨_, h⟩ | ⟨_, h⟩
  · rcases ite_some h with ⟨_, h⟩ | ⟨_, h⟩
    · rw [← Option.some.inj h]; exact Fr.refl
    · rw [← Option.some.inj h]; exact Fr.refl
  · rw [← Option.some.inj h]; exact Fr.refl
theorem fr_House_isMemory {P : Nat → Prop} {v0 : Int32} {σ : St} {r : Int32 × St} (h : House_isMemory v0 σ = some r) : Fr P σ r.2 := by
  unfold House_isMemory at h
  replace h := nm_some h
  replace h := nm_some h
  replace h := nm_some h
  rcases ite_some h with ⟨_, h⟩ | ⟨_, h⟩
  · rw [← Option.some.inj h]; exact Fr.refl
  · rcases ite_some h with ⟨_, h⟩ | ⟨_, h⟩
    · rw [← Option.some.inj h]; exact Fr.refl
    · rcases ite_some h with ⟨_, h⟩ | ⟨_, h⟩
      · rw [← Option.some.inj h]; exact Fr.refl
      · rcases ite_some h with ⟨_, h⟩ | ⟨_, h⟩
        · rw [← Option.some.inj h]; exact Fr.refl
        · rcases ite_some h with ⟨_, h⟩ | ⟨_, h⟩
          · rcases ite_some h with ⟨_, h⟩ | ⟨_, h⟩
            · rw [← Option.some.inj h]; exact Fr.refl
            · rcases ite_some h with ⟨_, h⟩ | ⟨_, h⟩
              · rw [← Option.some.inj h]; exact Fr.refl
              · rw [← Option.some.inj h]; exact Fr.refl
          · rw [← Option.some.inj h]; exact Fr.refl
theorem fr_House_isPlain_B85 {P : Nat → Prop} {v0 : Int32} {v4 : Int32} {σ : St} {r : Int32 × St} (h : House_isPlain_B85 v0 v4 σ = some r) : Fr P σ r.2 := by
  unfold House_isPlain_B85 at h
  obtain ⟨_, σ1, e1, h⟩ := cl_some h
  have f1 : Fr P _ _ := Fr.trans Fr.refl (fr_House_isShift   e1)
  rcases ite_some h with ⟨_, h⟩ | ⟨_, h⟩
  · rw [← Option.some.inj h]; exact f1
  · rcases ite_some h with ⟨_, h⟩ | ⟨_, h⟩
    · rw [← Option.some.inj h]; exact f1
    · rcases ite_some h with ⟨_, h⟩ | ⟨_, h⟩
      · rw [← Option.some.inj h]; exact f1
      · rw [← Option.some.inj h]; exact f1
theorem fr_House_isPlain_B69 {P : Nat → Prop} {v0 : Int32} {v1 : Int32} {v3 : Int32} {v4 : Int32} {σ : St} {r : Int32 × St} (h : House_isPlain_B69 v0 v1 v3 v4 σ = some r) : Fr P σ r.2 := by
  unfold House_isPlain_B69 at h
  obtain ⟨_, σ1, e1, h⟩ := cl_some h
  have f1 : Fr P _ _ := Fr.trans Fr.refl (fr_House_isMemoryForm   e1)
  rcases ite_some h with ⟨_, h⟩ | ⟨_, h⟩
  · exact Fr.trans f1 (fr_House_isPlain_B85   h)
  · obtain ⟨_, σ3, e3, h⟩ := cl_some h
    have f3 : Fr P _ _ := Fr.trans f1 (fr_House_isMemory   e3)
    rcases ite_some h with ⟨_, h⟩ | ⟨_, h⟩
    · exact Fr.trans f3 (fr_House_isPlain_B85   h)
    · rw [← Option.some.inj h]; exact f3
theorem fr_House_isPlain_B55 {P : Nat → Prop} {v0 : Int32} {v1 : Int32} {v3 : Int32} {v4 : Int32} {σ : St} {r : Int32 × St} (h : House_isPlain_B55 v0 v1 v3 v4 σ = some r) : Fr P σ r.2 := by
  unfold House_isPlain_B55 at h
  rcases ite_some h with ⟨_, h⟩ | ⟨_, h⟩
  · exact Fr.trans Fr.refl (fr_House_isPlain_B69   h)
  · obtain ⟨_, σ1, e1, h⟩ := cl_some h
    have f1 : Fr P _ _ := Fr.trans Fr.refl (fr_House_isRegister   e1)
    rcases ite_some h with ⟨_, h⟩ | ⟨_, h⟩
    · exact Fr.trans f1 (fr_House_isPlain_B69   h)
    · rw [← Option.some.inj h]; exact f1
theorem fr_House_isPlain {P : Nat → Prop} {v0 : Int32} {v1 : Int32} {v2 : Int32} {v3 : Int32} {v4 : Int32} {σ : St} {r : Int32 × St} (h : House_isPlain v0 v1 v2 v3 v4 σ = some r) : Fr P σ r.2 := by
  unfold House_isPlain at h
  rcases ite_some h with ⟨_, h⟩ | ⟨_, h⟩
  · rw [← Option.some.inj h]; exact Fr.refl
  · rcases ite_some h with ⟨_, h⟩ | ⟨_, h⟩
    · rw [← Option.some.inj h]; exact Fr.refl
    · rcases ite_some h with ⟨_, h⟩ | ⟨_, h⟩
      · rw [← Option.some.inj h]; exact Fr.refl
      · rcases ite_some h with ⟨_, h⟩ | ⟨_, h⟩
        · rw [← Option.some.inj h]; exact Fr.refl
        · replace h := (fo_some h).2
          rcases ite_some h with ⟨_, h⟩ | ⟨_, h⟩
          · rcases ite_some h with ⟨_, h⟩ | ⟨_, h⟩
            · exact Fr.trans Fr.refl (fr_House_isPlain_B55   h)
            · rcases ite_some h with ⟨_, h⟩ | ⟨_, h⟩
              · exact Fr.trans Fr.refl (fr_House_isPlain_B55   h)
              · obtain ⟨_, σ2, e2, h⟩ := cl_some h
                have f2 : Fr P _ _ := Fr.trans Fr.refl (fr_House_isRegister   e2)
                rcases ite_some h with ⟨_, h⟩ | ⟨_, h⟩
                · exact Fr.trans f2 (fr_House_isPlain_B55   h)
                · rw [← Option.some.inj h]; exact f2
          · rw [← Option.some.inj h]; exact Fr.refl
theorem fr_House_plain {P : Nat → Prop} {v0 : Nat} {v1 : Int32} {v2 : Int32} {v3 : Int32} {v4 : Int32} {v5 : Int32} {v6 : Int32} {σ : St} {r : Int32 × St} (w0 : P (ch v0 5)) (w1 : P (ch (ch v0 5) 0)) (w2 : P (ch (ch v0 5) 6)) (w3 : P (ch (ch v0 5) 7)) (w4 : P (ch (ch v0 5) 8)) (w5 : P (ch (ch v0 5) 9)) (w6 : P (ch (ch v0 5) 10)) (w7 : P (ch (ch v0 5) 11)) (h : House_plain v0 v1 v2 v3 v4 v5 v6 σ = some r) : Fr P σ r.2 := by
  unfold House_plain at h
  obtain ⟨_, σ1, e1, h⟩ := cl_some h
  have f1 : Fr P _ _ := Fr.trans Fr.refl (fr_Program_isFull   e1)
  rcases ite_some h with ⟨_, h⟩ | ⟨_, h⟩
  · rw [← Option.some.inj h]; exact f1
  · obtain ⟨_, σ3, e3, h⟩ := cl_some h
    have f3 : Fr P _ _ := Fr.trans f1 (fr_House_isPlain   e3)
    rcases ite_some h with ⟨_, h⟩ | ⟨_, h⟩
    · obtain ⟨σ5, e5, h⟩ := cv_some h
      have f5 : Fr P _ _ := Fr.trans f3 (fr_Program_addPlain  w0 w1 w2 w3 w4 w5 w6 w7 e5)
      rw [← Option.some.inj h]; exact f5
    · rw [← Option.some.inj h]; exact f3
theorem fr_House_isFlow_B114 {P : Nat → Prop} {v1 : Int32} {σ : St} {r : Int32 × St} (h : House_isFlow_B114 v1 σ = some r) : Fr P σ r.2 := by
  unfold House_isFlow_B114 at h
  obtain ⟨_, σ1, e1, h⟩ := cl_some h
  have f1 : Fr P _ _ := Fr.trans Fr.refl (fr_House_isRegister   e1)
  rcases ite_some h with ⟨_, h⟩ | ⟨_, h⟩
  · rw [← Option.some.inj h]; exact f1
  · rcases ite_some h with ⟨_, h⟩ | ⟨_, h⟩
    · rw [← Option.some.inj h]; exact f1
    · rw [← Option.some.inj h]; exact f1
theorem fr_House_isFlow {P : Nat → Prop} {v0 : Int32} {v1 : Int32} {v2 : Int32} {σ : St} {r : Int32 × St} (h : House_isFlow v0 v1 v2 σ = some r) : Fr P σ r.2 := by
  unfold House_isFlow at h
  rcases ite_some h with ⟨_, h⟩ | ⟨_, h⟩
  · obtain ⟨_, σ1, e1, h⟩ := cl_some h
    have f1 : Fr P _ _ := Fr.trans Fr.refl (fr_House_isLabel   e1)
    rcases ite_some h with ⟨_, h⟩ | ⟨_, h⟩
    · rw [← Option.some.inj h]; exact f1
    · rcases ite_some h with ⟨_, h⟩ | ⟨_, h⟩
      · rw [← Option.some.inj h]; exact f1
      · rcases ite_some h with ⟨_, h⟩ | ⟨_, h⟩
        · rw [← Option.some.inj h]; exact f1
        · rw [← Option.some.inj h]; exact f1
  · rcases ite_some h with ⟨_, h⟩ | ⟨_, h⟩
    · obtain ⟨_, σ3, e3, h⟩ := cl_some h
      have f3 : Fr P _ _ := Fr.trans Fr.refl (fr_House_isLabel   e3)
      replace h := (zb_some h).2
      rw [← Option.some.inj h]; exact f3
    · rcases ite_some h with ⟨_, h⟩ | ⟨_, h⟩
      · obtain ⟨_, σ5, e5, h⟩ := cl_some h
        have f5 : Fr P _ _ := Fr.trans Fr.refl (fr_House_isLabel   e5)
        rcases ite_some h with ⟨_, h⟩ | ⟨_, h⟩
        · rw [← Option.some.inj h]; exact f5
        · obtain ⟨_, σ7, e7, h⟩ := cl_some h
          have f7 : Fr P _ _ := Fr.trans f5 (fr_House_isCondition   e7)
          rcases ite_some h with ⟨_, h⟩ | ⟨_, h⟩
          · rw [← Option.some.inj h]; exact f7
          · rw [← Option.some.inj h]; exact f7
      · rcases ite_some h with ⟨_, h⟩ | ⟨_, h⟩
        · obtain ⟨_, σ9, e9, h⟩ := cl_some h
          have f9 : Fr P _ _ := Fr.trans Fr.refl (fr_House_isLabel   e9)
          replace h := (zb_some h).2
          rw [← Option.some.inj h]; exact f9
        · rcases ite_some h with ⟨_, h⟩ | ⟨_, h⟩
          · rcases ite_some h with ⟨_, h⟩ | ⟨_, h⟩
            · rw [← Option.some.inj h]; exact Fr.refl
            · rcases ite_some h with ⟨_, h⟩ | ⟨_, h⟩
              · rw [← Option.some.inj h]; exact Fr.refl
              · rw [← Option.some.inj h]; exact Fr.refl
          · rcases ite_some h with ⟨_, h⟩ | ⟨_, h⟩
            · exact Fr.trans Fr.refl (fr_House_isFlow_B114   h)
            · rcases ite_some h with ⟨_, h⟩ | ⟨_, h⟩
              · exact Fr.trans Fr.refl (fr_House_isFlow_B114   h)
              · rcases ite_some h with ⟨_, h⟩ | ⟨_, h⟩
                · rw [← Option.some.inj h]; exact Fr.refl
                · rcases ite_some h with ⟨_, h⟩ | ⟨_, h⟩
                  · obtain ⟨_, σ11, e11, h⟩ := cl_some h
                    have f11 : Fr P _ _ := Fr.trans Fr.refl (fr_House_isLabel   e11)
                    rcases ite_some h with ⟨_, h⟩ | ⟨_, h⟩
                    · rw [← Option.some.inj h]; exact f11
                    · obtain ⟨_, σ13, e13, h⟩ := cl_some h
                      have f13 : Fr P _ _ := Fr.trans f11 (fr_House_isRegister   e13)
                      rcases ite_some h with ⟨_, h⟩ | ⟨_, h⟩
                      · rw [← Option.some.inj h]; exact f13
                      · rw [← Option.some.inj h]; exact f13
                  · rw [← Option.some.inj h]; exact Fr.refl
theorem fr_House_flow {P : Nat → Prop} {v0 : Nat} {v1 : Int32} {v2 : Int32} {v3 : Int32} {σ : St} {r : Int32 × St} (w0 : P (ch v0 5)) (w1 : P (ch (ch v0 5) 0)) (w2 : P (ch (ch v0 5) 1)) (w3 : P (ch (ch v0 5) 2)) (h : House_flow v0 v1 v2 v3 σ = some r) : Fr P σ r.2 := by
  unfold House_flow at h
  obtain ⟨_, σ1, e1, h⟩ := cl_some h
  have f1 : Fr P _ _ := Fr.trans Fr.refl (fr_Program_isFull   e1)
  rcases ite_some h with ⟨_, h⟩ | ⟨_, h⟩
  · rw [← Option.some.inj h]; exact f1
  · obtain ⟨_, σ3, e3, h⟩ := cl_some h
    have f3 : Fr P _ _ := Fr.trans f1 (fr_House_isFlow   e3)
    rcases ite_some h with ⟨_, h⟩ | ⟨_, h⟩
    · obtain ⟨σ5, e5, h⟩ := cv_some h
      have f5 : Fr P _ _ := Fr.trans f3 (fr_Program_addFlow  w0 w1 w2 w3 e5)
      rw [← Option.some.inj h]; exact f5
    · rw [← Option.some.inj h]; exact f3
theorem fr_House_clear {P : Nat → Prop} {v0 : Nat} {σ : St} {r : Int32 × St} (w0 : P (ch v0 5)) (h : House_clear v0 σ = some r) : Fr P σ r.2 := by
  unfold House_clear at h
  replace h := nm_some h
  replace h := nm_some h
  rw [← Option.some.inj h]; exact (Fr.s2 w0 Fr.refl)
theorem fr_House_build {P : Nat → Prop} {v0 : Nat} {σ : St} {r : Int32 × St} (w0 : P v0) (w1 : P (ch v0 3)) (w2 : P (ch (ch (ch v0 3) 1) 1)) (w3 : P (ch (ch v0 3) 2)) (w4 : P (ch (ch (ch v0 3) 2) 0)) (w5 : P (ch v0 6)) (w6 : P (ch (ch v0 6) 1)) (w7 : P (ch (ch (ch v0 6) 1) 3)) (w8 : P (ch (ch (ch v0 6) 1) 12)) (w9 : P (ch (ch (ch v0 6) 1) 13)) (w10 : P (ch (ch v0 6) 2)) (w11 : P (ch (ch (ch v0 6) 2) 0)) (w12 : P (ch (ch v0 6) 3)) (w13 : P (ch (ch (ch v0 6) 3) 0)) (w14 : P (ch (ch v0 6) 4)) (w15 : P (ch (ch v0 6) 5)) (w16 : P (ch v0 7)) (w17 : P (ch (ch v0 7) 0)) (w18 : P (ch (ch v0 7) 1)) (w19 : P (ch (ch v0 7) 2)) (w20 : P (ch (ch v0 7) 3)) (w21 : P (ch (ch v0 7) 6)) (w22 : P (ch (ch v0 7) 7)) (w23 : P (ch (ch v0 7) 8)) (w24 : P (ch (ch v0 7) 9)) (w25 : P (ch (ch v0 7) 10)) (w26 : P (ch (ch v0 7) 11)) (w27 : P (ch (ch v0 7) 12)) (w28 : P (ch (ch v0 7) 13)) (w29 : P (ch v0 9)) (w30 : P (ch v0 10)) (h : House_build v0 σ = some r) : Fr P σ r.2 := by
  unfold House_build at h
  obtain ⟨_, σ1, e1, h⟩ := cl_some h
  have f1 : Fr P _ _ := Fr.trans Fr.refl (fr_Builder_findFault  w5 w6 w7 w8 w12 w13 w14 w15 e1)
  replace h := nm_some h
  replace h := nm_some h
  rcases ite_some h with ⟨_, h⟩ | ⟨_, h⟩
  · rw [← Option.some.inj h]; exact (Fr.s2 w0 (Fr.s2 w0 f1))
  · obtain ⟨σ5, e5, h⟩ := cv_some h
    have f5 : Fr P _ _ := Fr.trans (Fr.s2 w0 (Fr.s2 w0 f1)) (fr_Builder_writeCode  w5 w9 w10 w11 w12 w13 w14 e5)
    obtain ⟨_, σ6, e6, h⟩ := cl_some h
    have f6 : Fr P _ _ := Fr.trans f5 (fr_Policy_findFault  w1 w2 w3 w4 e6)
    obtain ⟨σ8, e8, h⟩ := cv_some h
    have f8 : Fr P _ _ := Fr.trans f6 (fr_Program_copyFrom  w16 w17 w18 w19 w20 w21 w22 w23 w24 w25 w26 w27 w28 e8)
    replace h := nm_some h
    obtain ⟨σ10, e10, h⟩ := cv_some h
    have f10 : Fr P _ _ := Fr.trans (Fr.s2 w0 f8) (fr_House_forgetRuns  w29 w30 e10)
    rw [← Option.some.inj h]; exact f10
theorem fr_House_size {P : Nat → Prop} {v0 : Nat} {σ : St} {r : Int32 × St} (h : House_size v0 σ = some r) : Fr P σ r.2 := by
  unfold House_size at h
  rw [← Option.some.inj h]; exact Fr.refl
theorem fr_House_code {P : Nat → Prop} {v0 : Nat} {v1 : Int32} {σ : St} {r : Int32 × St} (h : House_code v0 v1 σ = some r) : Fr P σ r.2 := by
  unfold House_code at h
  obtain ⟨_, σ1, e1, h⟩ := cl_some h
  have f1 : Fr P _ _ := Fr.trans Fr.refl (fr_Strip_byteAt   e1)
  rw [← Option.some.inj h]; exact f1
theorem fr_House_place {P : Nat → Prop} {v0 : Nat} {v1 : Int32} {v2 : Int32} {σ : St} {r : Int32 × St} (h : House_place v0 v1 v2 σ = some r) : Fr P σ r.2 := by
  unfold House_place at h
  rcases ite_some h with ⟨_, h⟩ | ⟨_, h⟩
  · rcases ite_some h with ⟨_, h⟩ | ⟨_, h⟩
    · obtain ⟨_, σ1, e1, h⟩ := cl_some h
      have f1 : Fr P _ _ := Fr.trans Fr.refl (fr_Program_itemPlace   e1)
      rw [← Option.some.inj h]; exact f1
    · rcases ite_some h with ⟨_, h⟩ | ⟨_, h⟩
      · obtain ⟨_, σ3, e3, h⟩ := cl_some h
        have f3 : Fr P _ _ := Fr.trans Fr.refl (fr_Program_labelItem   e3)
        obtain ⟨_, σ5, e5, h⟩ := cl_some h
        have f5 : Fr P _ _ := Fr.trans f3 (fr_Program_itemPlace   e5)
        rw [← Option.some.inj h]; exact f5
      · rcases ite_some h with ⟨_, h⟩ | ⟨_, h⟩
        · rw [← Option.some.inj h]; exact Fr.refl
        · rw [← Option.some.inj h]; exact Fr.refl
  · rw [← Option.some.inj h]; exact Fr.refl
theorem fr_House_set {P : Nat → Prop} {v0 : Nat} {v1 : Int32} {v2 : Int32} {v3 : Int32} {σ : St} {r : Int32 × St} (w0 : P (ch v0 8)) (w1 : P (ch (ch v0 8) 7)) (w2 : P (ch (ch v0 8) 8)) (w3 : P (ch (ch v0 8) 9)) (h : House_set v0 v1 v2 v3 σ = some r) : Fr P σ r.2 := by
  unfold House_set at h
  rcases ite_some h with ⟨_, h⟩ | ⟨_, h⟩
  · obtain ⟨_, σ1, e1, h⟩ := cl_some h
    have f1 : Fr P _ _ := Fr.trans Fr.refl (fr_House_isRegister   e1)
    rcases ite_some h with ⟨_, h⟩ | ⟨_, h⟩
    · obtain ⟨σ3, e3, h⟩ := cv_some h
      have f3 : Fr P _ _ := Fr.trans f1 (fr_Machine_give  w0 w1 e3)
      rw [← Option.some.inj h]; exact f3
    · rw [← Option.some.inj h]; exact f1
  · rcases ite_some h with ⟨_, h⟩ | ⟨_, h⟩
    · obtain ⟨_, σ4, e4, h⟩ := cl_some h
      have f4 : Fr P _ _ := Fr.trans Fr.refl (fr_House_isWord   e4)
      rcases ite_some h with ⟨_, h⟩ | ⟨_, h⟩
      · obtain ⟨σ6, e6, h⟩ := cv_some h
        have f6 : Fr P _ _ := Fr.trans f4 (fr_Machine_giveWord  w2 e6)
        rw [← Option.some.inj h]; exact f6
      · rw [← Option.some.inj h]; exact f4
    · rcases ite_some h with ⟨_, h⟩ | ⟨_, h⟩
      · obtain ⟨_, σ7, e7, h⟩ := cl_some h
        have f7 : Fr P _ _ := Fr.trans Fr.refl (fr_Machine_addInput  w0 w3 e7)
        replace h := (zb_some h).2
        rw [← Option.some.inj h]; exact f7
      · rcases ite_some h with ⟨_, h⟩ | ⟨_, h⟩
        · obtain ⟨σ9, e9, h⟩ := cv_some h
          have f9 : Fr P _ _ := Fr.trans Fr.refl (fr_Machine_forget  w0 w1 w2 e9)
          rw [← Option.some.inj h]; exact f9
        · rw [← Option.some.inj h]; exact Fr.refl
theorem fr_House_data_B15 {P : Nat → Prop} {v2 : Int32} {t0 : Nat} {σ : St} {r : Int32 × St} (h : House_data_B15 v2 t0 σ = some r) : Fr P σ r.2 := by
  unfold House_data_B15 at h
  rcases ite_some h with ⟨_, h⟩ | ⟨_, h⟩
  · rw [← Option.some.inj h]; exact Fr.refl
  · obtain ⟨_, σ1, e1, h⟩ := cl_some h
    have f1 : Fr P _ _ := Fr.trans Fr.refl (fr_Machine_byteAt   e1)
    rw [← Option.some.inj h]; exact f1
theorem fr_House_data {P : Nat → Prop} {v0 : Nat} {v1 : Int32} {v2 : Int32} {σ : St} {r : Int32 × St} (h : House_data v0 v1 v2 σ = some r) : Fr P σ r.2 := by
  unfold House_data at h
  rcases ite_some h with ⟨_, h⟩ | ⟨_, h⟩
  · exact Fr.trans Fr.refl (fr_House_data_B15   h)
  · exact Fr.trans Fr.refl (fr_House_data_B15   h)
theorem fr_Mo_thrown {P : Nat → Prop} {v0 : Nat} {σ : St} {r : Int32 × St} (h : Mo_thrown v0 σ = some r) : Fr P σ r.2 := by
  unfold Mo_thrown at h
  rw [← Option.some.inj h]; exact Fr.refl
theorem fr_Mo_throwing {P : Nat → Prop} {v0 : Nat} {v1 : Int32} {v2 : Int32} {σ : St} {r : Int32 × St} (w0 : P v0) (h : Mo_throwing v0 v1 v2 σ = some r) : Fr P σ r.2 := by
  unfold Mo_throwing at h
  rcases ite_some h with ⟨_, h⟩ | ⟨_, h⟩
  · rcases ite_some h with ⟨_, h⟩ | ⟨_, h⟩
    · replace h := nm_some h
      rcases ite_some h with ⟨_, h⟩ | ⟨_, h⟩
      · rw [← Option.some.inj h]; exact (Fr.s2 w0 Fr.refl)
      · rw [← Option.some.inj h]; exact (Fr.s2 w0 Fr.refl)
    · replace h := nm_some h
      rcases ite_some h with ⟨_, h⟩ | ⟨_, h⟩
      · rw [← Option.some.inj h]; exact (Fr.s2 w0 Fr.refl)
      · rw [← Option.some.inj h]; exact (Fr.s2 w0 Fr.refl)
  · replace h := nm_some h
    rcases ite_some h with ⟨_, h⟩ | ⟨_, h⟩
    · rw [← Option.some.inj h]; exact (Fr.s2 w0 Fr.refl)
    · rw [← Option.some.inj h]; exact (Fr.s2 w0 Fr.refl)
theorem fr_Mo_word_B3 {P : Nat → Prop} : ∀ (n : Nat) (v0 : Nat) (v1 : Int32) (v2 : Int32) (σ : St) (r : St), P v0 → P (ch v0 1) → Mo_word_B3 n v0 v1 v2 σ = some r → Fr P σ r := by
  intro n
  induction n with
  | zero => intro v0 v1 v2 σ r w0 w1 h; unfold Mo_word_B3 at h; cases h
  | succ n ih =>
    intro v0 v1 v2 σ r w0 w1 h
    unfold Mo_word_B3 at h
    rcases ite_some h with ⟨_, h⟩ | ⟨_, h⟩
    · rw [← Option.some.inj h]; exact Fr.refl
    · replace h := (sa_some h).2
      replace h := nm_some h
      replace h := nm_some h
      exact Fr.trans (Fr.s2 w0 (Fr.s2 w1 Fr.refl)) (ih _ _ _ _ _ w0 w1 h)
theorem fr_Mo_word {P : Nat → Prop} {v0 : Nat} {v1 : Int32} {σ : St} {r : St} (w0 : P v0) (w1 : P (ch v0 1)) (h : Mo_word v0 v1 σ = some r) : Fr P σ r := by
  unfold Mo_word at h
  exact Fr.trans Fr.refl (fr_Mo_word_B3  _ _ _ _ _ _ w0 w1 h)
theorem fr_Mo_feed {P : Nat → Prop} {v0 : Nat} {v1 : Int32} {v2 : Int32} {v3 : Int32} {v4 : Int32} {v5 : Int32} {σ : St} {r : Int32 × St} (w0 : P v0) (w1 : P (ch v0 1)) (h : Mo_feed v0 v1 v2 v3 v4 v5 σ = some r) : Fr P σ r.2 := by
  unfold Mo_feed at h
  replace h := nm_some h
  rcases ite_some h with ⟨_, h⟩ | ⟨_, h⟩
  · obtain ⟨σ2, e2, h⟩ := cv_some h
    have f2 : Fr P _ _ := Fr.trans (Fr.s2 w0 Fr.refl) (fr_Mo_word  w0 w1 e2)
    obtain ⟨σ3, e3, h⟩ := cv_some h
    have f3 : Fr P _ _ := Fr.trans f2 (fr_Mo_word  w0 w1 e3)
    obtain ⟨σ4, e4, h⟩ := cv_some h
    have f4 : Fr P _ _ := Fr.trans f3 (fr_Mo_word  w0 w1 e4)
    obtain ⟨σ5, e5, h⟩ := cv_some h
    have f5 : Fr P _ _ := Fr.trans f4 (fr_Mo_word  w0 w1 e5)
    obtain ⟨σ6, e6, h⟩ := cv_some h
    have f6 : Fr P _ _ := Fr.trans f5 (fr_Mo_word  w0 w1 e6)
    rw [← Option.some.inj h]; exact f6
  · rw [← Option.some.inj h]; exact (Fr.s2 w0 Fr.refl)
theorem fr_Mo_end {P : Nat → Prop} {v0 : Nat} {v1 : Int32} {σ : St} {r : Int32 × St} (w0 : P v0) (h : Mo_end v0 v1 σ = some r) : Fr P σ r.2 := by
  unfold Mo_end at h
  replace h := nm_some h
  rcases ite_some h with ⟨_, h⟩ | ⟨_, h⟩
  · rw [← Option.some.inj h]; exact (Fr.s2 w0 Fr.refl)
  · rcases ite_some h with ⟨_, h⟩ | ⟨_, h⟩
    · replace h := nm_some h
      rw [← Option.some.inj h]; exact (Fr.s2 w0 (Fr.s2 w0 Fr.refl))
    · rw [← Option.some.inj h]; exact (Fr.s2 w0 Fr.refl)
theorem fr_Mo_next {P : Nat → Prop} {v0 : Nat} {σ : St} {r : Int32 × St} (w0 : P v0) (h : Mo_next v0 σ = some r) : Fr P σ r.2 := by
  unfold Mo_next at h
  replace h := nm_some h
  rcases ite_some h with ⟨_, h⟩ | ⟨_, h⟩
  · rw [← Option.some.inj h]; exact (Fr.s2 w0 Fr.refl)
  · replace h := (lr_two h).2
    rw [← Option.some.inj h]; exact (Fr.s2 w0 Fr.refl)
theorem fr_Mo_small {P : Nat → Prop} {v0 : Nat} {σ : St} {r : Int32 × St} (w0 : P v0) (h : Mo_small v0 σ = some r) : Fr P σ r.2 := by
  unfold Mo_small at h
  obtain ⟨_, σ1, e1, h⟩ := cl_some h
  have f1 : Fr P _ _ := Fr.trans Fr.refl (fr_Mo_next  w0 e1)
  rcases ite_some h with ⟨_, h⟩ | ⟨_, h⟩
  · rw [← Option.some.inj h]; exact f1
  · rw [← Option.some.inj h]; exact f1
theorem fr_Mo_four_B4 {P : Nat → Prop} : ∀ (n : Nat) (v0 : Nat) (v1 : Int32) (v2 : Int32) (σ : St) (r : Int32 × St), P v0 → Mo_four_B4 n v0 v1 v2 σ = some r → Fr P σ r.2 := by
  intro n
  induction n with
  | zero => intro v0 v1 v2 σ r w0 h; unfold Mo_four_B4 at h; cases h
  | succ n ih =>
    intro v0 v1 v2 σ r w0 h
    unfold Mo_four_B4 at h
    rcases ite_some h with ⟨_, h⟩ | ⟨_, h⟩
    · rw [← Option.some.inj h]; exact Fr.refl
    · obtain ⟨_, σ1, e1, h⟩ := cl_some h
      have f1 : Fr P _ _ := Fr.trans Fr.refl (fr_Mo_next  w0 e1)
      replace h := nm_some h
      replace h := nm_some h
      exact Fr.trans f1 (ih _ _ _ _ _ w0 h)
theorem fr_Mo_four {P : Nat → Prop} {v0 : Nat} {σ : St} {r : Int32 × St} (w0 : P v0) (h : Mo_four v0 σ = some r) : Fr P σ r.2 := by
  unfold Mo_four at h
  exact Fr.trans Fr.refl (fr_Mo_four_B4  _ _ _ _ _ _ w0 h)
theorem fr_Mo_told_B197 {P : Nat → Prop} {v5 : Int32} {v6 : Int32} {t0 : Nat} {t1 : Int32} {σ : St} {r : St} (w0 : P t0) (h : Mo_told_B197 v5 v6 t0 t1 σ = some r) : Fr P σ r := by
  unfold Mo_told_B197 at h
  replace h := nm_some h
  rw [← Option.some.inj h]; exact (Fr.s2 w0 Fr.refl)
theorem fr_Mo_told_B150 {P : Nat → Prop} {v0 : Nat} {v2 : Int32} {v4 : Int32} {v5 : Int32} {v6 : Int32} {v7 : Int32} {σ : St} {r : St} (w0 : P v0) (h : Mo_told_B150 v0 v2 v4 v5 v6 v7 σ = some r) : Fr P σ r := by
  unfold Mo_told_B150 at h
  rcases ite_some h with ⟨_, h⟩ | ⟨_, h⟩
  · rcases ite_some h with ⟨_, h⟩ | ⟨_, h⟩
    · obtain ⟨_, σ1, e1, h⟩ := cl_some h
      have f1 : Fr P _ _ := Fr.trans Fr.refl (fr_Mo_four  w0 e1)
      replace h := nm_some h
      rcases ite_some h with ⟨_, h⟩ | ⟨_, h⟩
      · exact Fr.trans (Fr.s2 w0 f1) (fr_Mo_told_B197  w0 h)
      · exact Fr.trans (Fr.s2 w0 f1) (fr_Mo_told_B197  w0 h)
    · rcases ite_some h with ⟨_, h⟩ | ⟨_, h⟩
      · replace h := nm_some h
        rcases ite_some h with ⟨_, h⟩ | ⟨_, h⟩
        · exact Fr.trans (Fr.s2 w0 Fr.refl) (fr_Mo_told_B197  w0 h)
        · exact Fr.trans (Fr.s2 w0 Fr.refl) (fr_Mo_told_B197  w0 h)
      · obtain ⟨_, σ5, e5, h⟩ := cl_some h
        have f5 : Fr P _ _ := Fr.trans Fr.refl (fr_Mo_four  w0 e5)
        replace h := nm_some h
        rcases ite_some h with ⟨_, h⟩ | ⟨_, h⟩
        · exact Fr.trans (Fr.s2 w0 f5) (fr_Mo_told_B197  w0 h)
        · exact Fr.trans (Fr.s2 w0 f5) (fr_Mo_told_B197  w0 h)
  · obtain ⟨_, σ8, e8, h⟩ := cl_some h
    have f8 : Fr P _ _ := Fr.trans Fr.refl (fr_Mo_small  w0 e8)
    replace h := nm_some h
    rcases ite_some h with ⟨_, h⟩ | ⟨_, h⟩
    · exact Fr.trans (Fr.s2 w0 f8) (fr_Mo_told_B197  w0 h)
    · exact Fr.trans (Fr.s2 w0 f8) (fr_Mo_told_B197  w0 h)
theorem fr_Mo_told_B135 {P : Nat → Prop} {v0 : Nat} {v2 : Int32} {v4 : Int32} {v5 : Int32} {v6 : Int32} {t0 : Int32} {σ : St} {r : St} (w0 : P v0) (h : Mo_told_B135 v0 v2 v4 v5 v6 t0 σ = some r) : Fr P σ r := by
  unfold Mo_told_B135 at h
  rcases ite_some h with ⟨_, h⟩ | ⟨_, h⟩
  · exact Fr.trans Fr.refl (fr_Mo_told_B150  w0 h)
  · exact Fr.trans Fr.refl (fr_Mo_told_B150  w0 h)
theorem fr_Mo_told_B80 {P : Nat → Prop} {v0 : Nat} {v2 : Int32} {v3 : Int32} {v4 : Int32} {v5 : Int32} {v6 : Int32} {t0 : Int32} {σ : St} {r : St} (w0 : P v0) (h : Mo_told_B80 v0 v2 v3 v4 v5 v6 t0 σ = some r) : Fr P σ r := by
  unfold Mo_told_B80 at h
  rcases ite_some h with ⟨_, h⟩ | ⟨_, h⟩
  · exact Fr.trans Fr.refl (fr_Mo_told_B150  w0 h)
  · obtain ⟨_, σ1, e1, h⟩ := cl_some h
    have f1 : Fr P _ _ := Fr.trans Fr.refl (fr_Mo_next  w0 e1)
    replace h := nm_some h
    replace h := nm_some h
    replace h := nm_some h
    replace h := nm_some h
    rcases ite_some h with ⟨_, h⟩ | ⟨_, h⟩
    · exact Fr.trans f1 (fr_Mo_told_B135  w0 h)
    · rcases ite_some h with ⟨_, h⟩ | ⟨_, h⟩
      · exact Fr.trans f1 (fr_Mo_told_B135  w0 h)
      · exact Fr.trans f1 (fr_Mo_told_B135  w0 h)
theorem fr_Mo_told_B40 {P : Nat → Prop} {v0 : Nat} {v2 : Int32} {v3 : Int32} {t0 : Nat} {t1 : Int32} {σ : St} {r : St} (w0 : P t0) (w1 : P v0) (h : Mo_told_B40 v0 v2 v3 t0 t1 σ = some r) : Fr P σ r := by
  unfold Mo_told_B40 at h
  replace h := (zb_some h).2
  replace h := nm_some h
  replace h := nm_some h
  rcases ite_some h with ⟨_, h⟩ | ⟨_, h⟩
  · rcases ite_some h with ⟨_, h⟩ | ⟨_, h⟩
    · exact Fr.trans (Fr.s2 w1 (Fr.s2 w0 Fr.refl)) (fr_Mo_told_B80  w1 h)
    · rcases ite_some h with ⟨_, h⟩ | ⟨_, h⟩
      · exact Fr.trans (Fr.s2 w1 (Fr.s2 w0 Fr.refl)) (fr_Mo_told_B80  w1 h)
      · exact Fr.trans (Fr.s2 w1 (Fr.s2 w0 Fr.refl)) (fr_Mo_told_B80  w1 h)
  · rw [← Option.some.inj h]; exact (Fr.s2 w1 (Fr.s2 w0 Fr.refl))
theorem fr_Mo_told {P : Nat → Prop} {v0 : Nat} {σ : St} {r : St} (w0 : P v0) (h : Mo_told v0 σ = some r) : Fr P σ r := by
  unfold Mo_told at h
  obtain ⟨_, σ1, e1, h⟩ := cl_some h
  have f1 : Fr P _ _ := Fr.trans Fr.refl (fr_Mo_next  w0 e1)
  replace h := nm_some h
  replace h := nm_some h
  replace h := nm_some h
  replace h := nm_some h
  rcases ite_some h with ⟨_, h⟩ | ⟨_, h⟩
  · exact Fr.trans (Fr.s2 w0 f1) (fr_Mo_told_B40  w0 w0 h)
  · exact Fr.trans (Fr.s2 w0 f1) (fr_Mo_told_B40  w0 w0 h)
theorem fr_Mo_is {P : Nat → Prop} {v0 : Nat} {v1 : Int32} {v2 : Int32} {σ : St} {r : Int32 × St} (w0 : P v0) (h : Mo_is v0 v1 v2 σ = some r) : Fr P σ r.2 := by
  unfold Mo_is at h
  replace h := nm_some h
  replace h := nm_some h
  rw [← Option.some.inj h]; exact (Fr.s2 w0 (Fr.s2 w0 Fr.refl))
theorem fr_Mo_left {P : Nat → Prop} {v0 : Nat} {v1 : Int32} {σ : St} {r : Int32 × St} (w0 : P v0) (h : Mo_left v0 v1 σ = some r) : Fr P σ r.2 := by
  unfold Mo_left at h
  obtain ⟨σ1, e1, h⟩ := cv_some h
  have f1 : Fr P _ _ := Fr.trans Fr.refl (fr_Mo_told  w0 e1)
  rcases ite_some h with ⟨_, h⟩ | ⟨_, h⟩
  · replace h := nm_some h
    replace h := nm_some h
    obtain ⟨_, σ4, e4, h⟩ := cl_some h
    have f4 : Fr P _ _ := Fr.trans (Fr.s2 w0 (Fr.s2 w0 f1)) (fr_Mo_is  w0 e4)
    replace h := (zb_some h).2
    rw [← Option.some.inj h]; exact f4
  · replace h := nm_some h
    obtain ⟨_, σ7, e7, h⟩ := cl_some h
    have f7 : Fr P _ _ := Fr.trans (Fr.s2 w0 f1) (fr_Mo_is  w0 e7)
    replace h := (zb_some h).2
    rw [← Option.some.inj h]; exact f7
theorem fr_Mo_right {P : Nat → Prop} {v0 : Nat} {v1 : Int32} {σ : St} {r : Int32 × St} (w0 : P v0) (h : Mo_right v0 v1 σ = some r) : Fr P σ r.2 := by
  unfold Mo_right at h
  obtain ⟨σ1, e1, h⟩ := cv_some h
  have f1 : Fr P _ _ := Fr.trans Fr.refl (fr_Mo_told  w0 e1)
  replace h := nm_some h
  rcases ite_some h with ⟨_, h⟩ | ⟨_, h⟩
  · obtain ⟨_, σ3, e3, h⟩ := cl_some h
    have f3 : Fr P _ _ := Fr.trans (Fr.s2 w0 f1) (fr_Mo_is  w0 e3)
    replace h := (zb_some h).2
    rw [← Option.some.inj h]; exact f3
  · obtain ⟨_, σ5, e5, h⟩ := cl_some h
    have f5 : Fr P _ _ := Fr.trans (Fr.s2 w0 f1) (fr_Mo_is  w0 e5)
    replace h := (zb_some h).2
    rw [← Option.some.inj h]; exact f5
theorem fr_Mo_alone_B20 {P : Nat → Prop} {v0 : Nat} {v1 : Int32} {v2 : Int32} {σ : St} {r : Int32 × St} (w0 : P v0) (h : Mo_alone_B20 v0 v1 v2 σ = some r) : Fr P σ r.2 := by
  unfold Mo_alone_B20 at h
  rcases ite_some h with ⟨_, h⟩ | ⟨_, h⟩
  · rcases ite_some h with ⟨_, h⟩ | ⟨_, h⟩
    · obtain ⟨_, σ1, e1, h⟩ := cl_some h
      have f1 : Fr P _ _ := Fr.trans Fr.refl (fr_Mo_is  w0 e1)
      replace h := (zb_some h).2
      rw [← Option.some.inj h]; exact f1
    · obtain ⟨_, σ3, e3, h⟩ := cl_some h
      have f3 : Fr P _ _ := Fr.trans Fr.refl (fr_Mo_is  w0 e3)
      replace h := (zb_some h).2
      rw [← Option.some.inj h]; exact f3
  · rcases ite_some h with ⟨_, h⟩ | ⟨_, h⟩
    · obtain ⟨_, σ5, e5, h⟩ := cl_some h
      have f5 : Fr P _ _ := Fr.trans Fr.refl (fr_Mo_is  w0 e5)
      replace h := (zb_some h).2
      rw [← Option.some.inj h]; exact f5
    · obtain ⟨_, σ7, e7, h⟩ := cl_some h
      have f7 : Fr P _ _ := Fr.trans Fr.refl (fr_Mo_is  w0 e7)
      replace h := (zb_some h).2
      rw [← Option.some.inj h]; exact f7
theorem fr_Mo_alone {P : Nat → Prop} {v0 : Nat} {v1 : Int32} {v2 : Int32} {σ : St} {r : Int32 × St} (w0 : P v0) (h : Mo_alone v0 v1 v2 σ = some r) : Fr P σ r.2 := by
  unfold Mo_alone at h
  rcases ite_some h with ⟨_, h⟩ | ⟨_, h⟩
  · exact Fr.trans Fr.refl (fr_Mo_alone_B20  w0 h)
  · replace h := nm_some h
    replace h := nm_some h
    exact Fr.trans (Fr.s2 w0 (Fr.s2 w0 Fr.refl)) (fr_Mo_alone_B20  w0 h)
theorem fr_Mo_second {P : Nat → Prop} {v0 : Nat} {σ : St} {r : Int32 × St} (w0 : P v0) (h : Mo_second v0 σ = some r) : Fr P σ r.2 := by
  unfold Mo_second at h
  obtain ⟨_, σ1, e1, h⟩ := cl_some h
  have f1 : Fr P _ _ := Fr.trans Fr.refl (fr_Mo_next  w0 e1)
  rcases ite_some h with ⟨_, h⟩ | ⟨_, h⟩
  · rcases ite_some h with ⟨_, h⟩ | ⟨_, h⟩
    · rw [← Option.some.inj h]; exact f1
    · rcases ite_some h with ⟨_, h⟩ | ⟨_, h⟩
      · rw [← Option.some.inj h]; exact f1
      · rcases ite_some h with ⟨_, h⟩ | ⟨_, h⟩
        · rw [← Option.some.inj h]; exact f1
        · rcases ite_some h with ⟨_, h⟩ | ⟨_, h⟩
          · replace h := nm_some h
            obtain ⟨_, σ4, e4, h⟩ := cl_some h
            have f4 : Fr P _ _ := Fr.trans (Fr.s2 w0 f1) (fr_Mo_four  w0 e4)
            replace h := nm_some h
            obtain ⟨_, σ7, e7, h⟩ := cl_some h
            have f7 : Fr P _ _ := Fr.trans (Fr.s2 w0 f4) (fr_Mo_is  w0 e7)
            replace h := (zb_some h).2
            rw [← Option.some.inj h]; exact f7
          · rw [← Option.some.inj h]; exact f1
  · obtain ⟨_, σ9, e9, h⟩ := cl_some h
    have f9 : Fr P _ _ := Fr.trans f1 (fr_Mo_right  w0 e9)
    replace h := (zb_some h).2
    rw [← Option.some.inj h]; exact f9
theorem fr_Mo_known_B375 {P : Nat → Prop} {v0 : Nat} {v1 : Int32} {σ : St} {r : Int32 × St} (w0 : P v0) (h : Mo_known_B375 v0 v1 σ = some r) : Fr P σ r.2 := by
  unfold Mo_known_B375 at h
  obtain ⟨σ1, e1, h⟩ := cv_some h
  have f1 : Fr P _ _ := Fr.trans Fr.refl (fr_Mo_told  w0 e1)
  obtain ⟨_, σ2, e2, h⟩ := cl_some h
  have f2 : Fr P _ _ := Fr.trans f1 (fr_Mo_alone  w0 e2)
  rcases ite_some h with ⟨_, h⟩ | ⟨_, h⟩
  · obtain ⟨_, σ4, e4, h⟩ := cl_some h
    have f4 : Fr P _ _ := Fr.trans f2 (fr_Mo_small  w0 e4)
    replace h := nm_some h
    rw [← Option.some.inj h]; exact (Fr.s2 w0 f4)
  · obtain ⟨_, σ7, e7, h⟩ := cl_some h
    have f7 : Fr P _ _ := Fr.trans f2 (fr_Mo_four  w0 e7)
    replace h := nm_some h
    rw [← Option.some.inj h]; exact (Fr.s2 w0 f7)
theorem fr_Mo_known_B497 {P : Nat → Prop} {v0 : Nat} {t0 : Nat} {t1 : Int32} {σ : St} {r : Int32 × St} (w0 : P t0) (w1 : P v0) (h : Mo_known_B497 v0 t0 t1 σ = some r) : Fr P σ r.2 := by
  unfold Mo_known_B497 at h
  obtain ⟨_, σ1, e1, h⟩ := cl_some h
  have f1 : Fr P _ _ := Fr.trans Fr.refl (fr_Mo_alone  w0 e1)
  obtain ⟨_, σ3, e3, h⟩ := cl_some h
  have f3 : Fr P _ _ := Fr.trans f1 (fr_Mo_next  w1 e3)
  replace h := nm_some h
  rcases ite_some h with ⟨_, h⟩ | ⟨_, h⟩
  · rw [← Option.some.inj h]; exact (Fr.s2 w1 f3)
  · rcases ite_some h with ⟨_, h⟩ | ⟨_, h⟩
    · rw [← Option.some.inj h]; exact (Fr.s2 w1 f3)
    · rcases ite_some h with ⟨_, h⟩ | ⟨_, h⟩
      · rw [← Option.some.inj h]; exact (Fr.s2 w1 f3)
      · rw [← Option.some.inj h]; exact (Fr.s2 w1 f3)
theorem fr_Mo_known_B665 {P : Nat → Prop} {v0 : Nat} {t0 : Nat} {t1 : Int32} {σ : St} {r : Int32 × St} (w0 : P t0) (h : Mo_known_B665 v0 t0 t1 σ = some r) : Fr P σ r.2 := by
  unfold Mo_known_B665 at h
  obtain ⟨_, σ1, e1, h⟩ := cl_some h
  have f1 : Fr P _ _ := Fr.trans Fr.refl (fr_Mo_alone  w0 e1)
  rcases ite_some h with ⟨_, h⟩ | ⟨_, h⟩
  · rw [← Option.some.inj h]; exact f1
  · rcases ite_some h with ⟨_, h⟩ | ⟨_, h⟩
    · rw [← Option.some.inj h]; exact f1
    · rw [← Option.some.inj h]; exact f1
theorem fr_Mo_known_B712 {P : Nat → Prop} {v0 : Nat} {t0 : Nat} {t1 : Int32} {σ : St} {r : Int32 × St} (w0 : P t0) (h : Mo_known_B712 v0 t0 t1 σ = some r) : Fr P σ r.2 := by
  unfold Mo_known_B712 at h
  obtain ⟨_, σ1, e1, h⟩ := cl_some h
  have f1 : Fr P _ _ := Fr.trans Fr.refl (fr_Mo_alone  w0 e1)
  rcases ite_some h with ⟨_, h⟩ | ⟨_, h⟩
  · rw [← Option.some.inj h]; exact f1
  · rcases ite_some h with ⟨_, h⟩ | ⟨_, h⟩
    · rw [← Option.some.inj h]; exact f1
    · rcases ite_some h with ⟨_, h⟩ | ⟨_, h⟩
      · rw [← Option.some.inj h]; exact f1
      · rw [← Option.some.inj h]; exact f1
theorem fr_Mo_known_B174 {P : Nat → Prop} {v0 : Nat} {v1 : Int32} {σ : St} {r : Int32 × St} (w0 : P v0) (h : Mo_known_B174 v0 v1 σ = some r) : Fr P σ r.2 := by
  unfold Mo_known_B174 at h
  rcases ite_some h with ⟨_, h⟩ | ⟨_, h⟩
  · obtain ⟨_, σ1, e1, h⟩ := cl_some h
    have f1 : Fr P _ _ := Fr.trans Fr.refl (fr_Mo_second  w0 e1)
    replace h := (zb_some h).2
    rw [← Option.some.inj h]; exact f1
  · rcases ite_some h with ⟨_, h⟩ | ⟨_, h⟩
    · obtain ⟨_, σ3, e3, h⟩ := cl_some h
      have f3 : Fr P _ _ := Fr.trans Fr.refl (fr_Mo_four  w0 e3)
      replace h := nm_some h
      obtain ⟨_, σ6, e6, h⟩ := cl_some h
      have f6 : Fr P _ _ := Fr.trans (Fr.s2 w0 f3) (fr_Mo_is  w0 e6)
      replace h := (zb_some h).2
      rw [← Option.some.inj h]; exact f6
    · rcases ite_some h with ⟨_, h⟩ | ⟨_, h⟩
      · obtain ⟨_, σ8, e8, h⟩ := cl_some h
        have f8 : Fr P _ _ := Fr.trans Fr.refl (fr_Mo_small  w0 e8)
        replace h := nm_some h
        obtain ⟨_, σ11, e11, h⟩ := cl_some h
        have f11 : Fr P _ _ := Fr.trans (Fr.s2 w0 f8) (fr_Mo_is  w0 e11)
        replace h := (zb_some h).2
        rw [← Option.some.inj h]; exact f11
      · rcases ite_some h with ⟨_, h⟩ | ⟨_, h⟩
        · exact Fr.trans Fr.refl (fr_Mo_known_B375  w0 h)
        · rcases ite_some h with ⟨_, h⟩ | ⟨_, h⟩
          · exact Fr.trans Fr.refl (fr_Mo_known_B375  w0 h)
          · rcases ite_some h with ⟨_, h⟩ | ⟨_, h⟩
            · obtain ⟨_, σ13, e13, h⟩ := cl_some h
              have f13 : Fr P _ _ := Fr.trans Fr.refl (fr_Mo_left  w0 e13)
              replace h := (zb_some h).2
              rw [← Option.some.inj h]; exact f13
            · rcases ite_some h with ⟨_, h⟩ | ⟨_, h⟩
              · obtain ⟨_, σ15, e15, h⟩ := cl_some h
                have f15 : Fr P _ _ := Fr.trans Fr.refl (fr_Mo_left  w0 e15)
                replace h := (zb_some h).2
                rw [← Option.some.inj h]; exact f15
              · rcases ite_some h with ⟨_, h⟩ | ⟨_, h⟩
                · obtain ⟨_, σ17, e17, h⟩ := cl_some h
                  have f17 : Fr P _ _ := Fr.trans Fr.refl (fr_Mo_right  w0 e17)
                  replace h := (zb_some h).2
                  rw [← Option.some.inj h]; exact f17
                · rcases ite_some h with ⟨_, h⟩ | ⟨_, h⟩
                  · obtain ⟨_, σ19, e19, h⟩ := cl_some h
                    have f19 : Fr P _ _ := Fr.trans Fr.refl (fr_Mo_right  w0 e19)
                    rcases ite_some h with ⟨_, h⟩ | ⟨_, h⟩
                    · rw [← Option.some.inj h]; exact f19
                    · rcases ite_some h with ⟨_, h⟩ | ⟨_, h⟩
                      · rw [← Option.some.inj h]; exact f19
                      · rw [← Option.some.inj h]; exact f19
                  · rcases ite_some h with ⟨_, h⟩ | ⟨_, h⟩
                    · obtain ⟨_, σ21, e21, h⟩ := cl_some h
                      have f21 : Fr P _ _ := Fr.trans Fr.refl (fr_Mo_is  w0 e21)
                      replace h := (zb_some h).2
                      rw [← Option.some.inj h]; exact f21
                    · rcases ite_some h with ⟨_, h⟩ | ⟨_, h⟩
                      · obtain ⟨σ23, e23, h⟩ := cv_some h
                        have f23 : Fr P _ _ := Fr.trans Fr.refl (fr_Mo_told  w0 e23)
                        rcases ite_some h with ⟨_, h⟩ | ⟨_, h⟩
                        · rcases ite_some h with ⟨_, h⟩ | ⟨_, h⟩
                          · exact Fr.trans f23 (fr_Mo_known_B497  w0 w0 h)
                          · exact Fr.trans f23 (fr_Mo_known_B497  w0 w0 h)
                        · exact Fr.trans f23 (fr_Mo_known_B497  w0 w0 h)
                      · rcases ite_some h with ⟨_, h⟩ | ⟨_, h⟩
                        · obtain ⟨_, σ24, e24, h⟩ := cl_some h
                          have f24 : Fr P _ _ := Fr.trans Fr.refl (fr_Mo_is  w0 e24)
                          replace h := (zb_some h).2
                          rw [← Option.some.inj h]; exact f24
                        · rcases ite_some h with ⟨_, h⟩ | ⟨_, h⟩
                          · obtain ⟨σ26, e26, h⟩ := cv_some h
                            have f26 : Fr P _ _ := Fr.trans Fr.refl (fr_Mo_told  w0 e26)
                            obtain ⟨_, σ27, e27, h⟩ := cl_some h
                            have f27 : Fr P _ _ := Fr.trans f26 (fr_Mo_alone  w0 e27)
                            obtain ⟨_, σ29, e29, h⟩ := cl_some h
                            have f29 : Fr P _ _ := Fr.trans f27 (fr_Mo_four  w0 e29)
                            replace h := nm_some h
                            rcases ite_some h with ⟨_, h⟩ | ⟨_, h⟩
                            · rw [← Option.some.inj h]; exact (Fr.s2 w0 f29)
                            · rw [← Option.some.inj h]; exact (Fr.s2 w0 f29)
                          · rcases ite_some h with ⟨_, h⟩ | ⟨_, h⟩
                            · obtain ⟨_, σ32, e32, h⟩ := cl_some h
                              have f32 : Fr P _ _ := Fr.trans Fr.refl (fr_Mo_four  w0 e32)
                              replace h := nm_some h
                              obtain ⟨_, σ35, e35, h⟩ := cl_some h
                              have f35 : Fr P _ _ := Fr.trans (Fr.s2 w0 f32) (fr_Mo_is  w0 e35)
                              replace h := (zb_some h).2
                              rw [← Option.some.inj h]; exact f35
                            · rcases ite_some h with ⟨_, h⟩ | ⟨_, h⟩
                              · obtain ⟨_, σ37, e37, h⟩ := cl_some h
                                have f37 : Fr P _ _ := Fr.trans Fr.refl (fr_Mo_four  w0 e37)
                                replace h := nm_some h
                                obtain ⟨_, σ40, e40, h⟩ := cl_some h
                                have f40 : Fr P _ _ := Fr.trans (Fr.s2 w0 f37) (fr_Mo_is  w0 e40)
                                replace h := (zb_some h).2
                                rw [← Option.some.inj h]; exact f40
                              · rcases ite_some h with ⟨_, h⟩ | ⟨_, h⟩
                                · obtain ⟨_, σ42, e42, h⟩ := cl_some h
                                  have f42 : Fr P _ _ := Fr.trans Fr.refl (fr_Mo_small  w0 e42)
                                  replace h := nm_some h
                                  obtain ⟨_, σ45, e45, h⟩ := cl_some h
                                  have f45 : Fr P _ _ := Fr.trans (Fr.s2 w0 f42) (fr_Mo_is  w0 e45)
                                  replace h := (zb_some h).2
                                  rw [← Option.some.inj h]; exact f45
                                · rcases ite_some h with ⟨_, h⟩ | ⟨_, h⟩
                                  · obtain ⟨_, σ47, e47, h⟩ := cl_some h
                                    have f47 : Fr P _ _ := Fr.trans Fr.refl (fr_Mo_is  w0 e47)
                                    replace h := (zb_some h).2
                                    rw [← Option.some.inj h]; exact f47
                                  · rcases ite_some h with ⟨_, h⟩ | ⟨_, h⟩
                                    · obtain ⟨σ49, e49, h⟩ := cv_some h
                                      have f49 : Fr P _ _ := Fr.trans Fr.refl (fr_Mo_told  w0 e49)
                                      rcases ite_some h with ⟨_, h⟩ | ⟨_, h⟩
                                      · exact Fr.trans f49 (fr_Mo_known_B665  w0 h)
                                      · exact Fr.trans f49 (fr_Mo_known_B665  w0 h)
                                    · rcases ite_some h with ⟨_, h⟩ | ⟨_, h⟩
                                      · obtain ⟨σ50, e50, h⟩ := cv_some h
                                        have f50 : Fr P _ _ := Fr.trans Fr.refl (fr_Mo_told  w0 e50)
                                        rcases ite_some h with ⟨_, h⟩ | ⟨_, h⟩
                                        · exact Fr.trans f50 (fr_Mo_known_B712  w0 h)
                                        · exact Fr.trans f50 (fr_Mo_known_B712  w0 h)
                                      · rw [← Option.some.inj h]; exact Fr.refl
theorem fr_Mo_known_B135 {P : Nat → Prop} {v0 : Nat} {v1 : Int32} {σ : St} {r : Int32 × St} (w0 : P v0) (h : Mo_known_B135 v0 v1 σ = some r) : Fr P σ r.2 := by
  unfold Mo_known_B135 at h
  rcases ite_some h with ⟨_, h⟩ | ⟨_, h⟩
  · exact Fr.trans Fr.refl (fr_Mo_known_B174  w0 h)
  · rcases ite_some h with ⟨_, h⟩ | ⟨_, h⟩
    · exact Fr.trans Fr.refl (fr_Mo_known_B174  w0 h)
    · replace h := nm_some h
      obtain ⟨_, σ2, e2, h⟩ := cl_some h
      have f2 : Fr P _ _ := Fr.trans (Fr.s2 w0 Fr.refl) (fr_Mo_four  w0 e2)
      replace h := nm_some h
      obtain ⟨_, σ5, e5, h⟩ := cl_some h
      have f5 : Fr P _ _ := Fr.trans (Fr.s2 w0 f2) (fr_Mo_is  w0 e5)
      replace h := (zb_some h).2
      rw [← Option.some.inj h]; exact f5
theorem fr_Mo_known_B85 {P : Nat → Prop} {v0 : Nat} {v1 : Int32} {σ : St} {r : Int32 × St} (w0 : P v0) (h : Mo_known_B85 v0 v1 σ = some r) : Fr P σ r.2 := by
  unfold Mo_known_B85 at h
  rcases ite_some h with ⟨_, h⟩ | ⟨_, h⟩
  · exact Fr.trans Fr.refl (fr_Mo_known_B135  w0 h)
  · rcases ite_some h with ⟨_, h⟩ | ⟨_, h⟩
    · exact Fr.trans Fr.refl (fr_Mo_known_B135  w0 h)
    · rcases ite_some h with ⟨_, h⟩ | ⟨_, h⟩
      · exact Fr.trans Fr.refl (fr_Mo_known_B135  w0 h)
      · rcases ite_some h with ⟨_, h⟩ | ⟨_, h⟩
        · exact Fr.trans Fr.refl (fr_Mo_known_B135  w0 h)
        · replace h := nm_some h
          obtain ⟨_, σ2, e2, h⟩ := cl_some h
          have f2 : Fr P _ _ := Fr.trans (Fr.s2 w0 Fr.refl) (fr_Mo_small  w0 e2)
          replace h := nm_some h
          obtain ⟨_, σ5, e5, h⟩ := cl_some h
          have f5 : Fr P _ _ := Fr.trans (Fr.s2 w0 f2) (fr_Mo_is  w0 e5)
          replace h := (zb_some h).2
          rw [← Option.some.inj h]; exact f5
theorem fr_Mo_known_B50 {P : Nat → Prop} {v0 : Nat} {v1 : Int32} {σ : St} {r : Int32 × St} (w0 : P v0) (h : Mo_known_B50 v0 v1 σ = some r) : Fr P σ r.2 := by
  unfold Mo_known_B50 at h
  rcases ite_some h with ⟨_, h⟩ | ⟨_, h⟩
  · exact Fr.trans Fr.refl (fr_Mo_known_B85  w0 h)
  · rcases ite_some h with ⟨_, h⟩ | ⟨_, h⟩
    · exact Fr.trans Fr.refl (fr_Mo_known_B85  w0 h)
    · replace h := nm_some h
      obtain ⟨_, σ2, e2, h⟩ := cl_some h
      have f2 : Fr P _ _ := Fr.trans (Fr.s2 w0 Fr.refl) (fr_Mo_is  w0 e2)
      replace h := (zb_some h).2
      rw [← Option.some.inj h]; exact f2
theorem fr_Mo_known_B28 {P : Nat → Prop} {v0 : Nat} {v1 : Int32} {σ : St} {r : Int32 × St} (w0 : P v0) (h : Mo_known_B28 v0 v1 σ = some r) : Fr P σ r.2 := by
  unfold Mo_known_B28 at h
  rcases ite_some h with ⟨_, h⟩ | ⟨_, h⟩
  · exact Fr.trans Fr.refl (fr_Mo_known_B50  w0 h)
  · rcases ite_some h with ⟨_, h⟩ | ⟨_, h⟩
    · exact Fr.trans Fr.refl (fr_Mo_known_B50  w0 h)
    · obtain ⟨_, σ1, e1, h⟩ := cl_some h
      have f1 : Fr P _ _ := Fr.trans Fr.refl (fr_Mo_right  w0 e1)
      replace h := (zb_some h).2
      rw [← Option.some.inj h]; exact f1
theorem fr_Mo_known {P : Nat → Prop} {v0 : Nat} {v1 : Int32} {σ : St} {r : Int32 × St} (w0 : P v0) (h : Mo_known v0 v1 σ = some r) : Fr P σ r.2 := by
  unfold Mo_known at h
  rcases ite_some h with ⟨_, h⟩ | ⟨_, h⟩
  · rcases ite_some h with ⟨_, h⟩ | ⟨_, h⟩
    · exact Fr.trans Fr.refl (fr_Mo_known_B28  w0 h)
    · rcases ite_some h with ⟨_, h⟩ | ⟨_, h⟩
      · exact Fr.trans Fr.refl (fr_Mo_known_B28  w0 h)
      · obtain ⟨_, σ1, e1, h⟩ := cl_some h
        have f1 : Fr P _ _ := Fr.trans Fr.refl (fr_Mo_left  w0 e1)
        replace h := (zb_some h).2
        rw [← Option.some.inj h]; exact f1
  · rw [← Option.some.inj h]; exact Fr.refl
theorem fr_Mo_decode {P : Nat → Prop} {v0 : Nat} {v1 : Nat} {v2 : Int32} {v3 : Int32} {σ : St} {r : Int32 × St} (w0 : P v0) (h : Mo_decode v0 v1 v2 v3 σ = some r) : Fr P σ r.2 := by
  unfold Mo_decode at h
  replace h := (gr_some h).2
  replace h := nm_some h
  replace h := nm_some h
  replace h := nm_some h
  replace h := nm_some h
  replace h := nm_some h
  replace h := nm_some h
  replace h := nm_some h
  obtain ⟨_, σ8, e8, h⟩ := cl_some h
  have f8 : Fr P _ _ := Fr.trans (Fr.s2 w0 (Fr.s2 w0 (Fr.s2 w0 (Fr.s2 w0 (Fr.s2 w0 (Fr.s2 w0 (Fr.s2 w0 Fr.refl))))))) (fr_Mo_next  w0 e8)
  obtain ⟨_, σ10, e10, h⟩ := cl_some h
  have f10 : Fr P _ _ := Fr.trans f8 (fr_Mo_known  w0 e10)
  rcases ite_some h with ⟨_, h⟩ | ⟨_, h⟩
  · rw [← Option.some.inj h]; exact f10
  · rcases ite_some h with ⟨_, h⟩ | ⟨_, h⟩
    · rw [← Option.some.inj h]; exact f10
    · rw [← Option.some.inj h]; exact f10
theorem fr_Mo_faults {P : Nat → Prop} {v0 : Nat} {v1 : Int32} {v2 : Int32} {σ : St} {r : Int32 × St} (w0 : P v0) (h : Mo_faults v0 v1 v2 σ = some r) : Fr P σ r.2 := by
  unfold Mo_faults at h
  replace h := nm_some h
  replace h := nm_some h
  rw [← Option.some.inj h]; exact (Fr.s2 w0 (Fr.s2 w0 Fr.refl))
theorem fr_Mo_isService {P : Nat → Prop} {v0 : Int32} {σ : St} {r : Int32 × St} (h : Mo_isService v0 σ = some r) : Fr P σ r.2 := by
  unfold Mo_isService at h
  rcases ite_some h with ⟨_, h⟩ | ⟨_, h⟩
  · rw [← Option.some.inj h]; exact Fr.refl
  · rcases ite_some h with ⟨_, h⟩ | ⟨_, h⟩
    · rw [← Option.some.inj h]; exact Fr.refl
    · rcases ite_some h with ⟨_, h⟩ | ⟨_, h⟩
      · rw [← Option.some.inj h]; exact Fr.refl
      · rcases ite_some h with ⟨_, h⟩ | ⟨_, h⟩
        · rw [← Option.some.inj h]; exact Fr.refl
        · rw [← Option.some.inj h]; exact Fr.refl
theorem fr_Mo_keeps_B416 {P : Nat → Prop} {K310 : Nat → Nat → Int32 → Nat → Int32 → St → Option (Int32 × St)} (hK310 : ∀ (v0 : Nat) (v1 : Nat) (v2 : Int32) (v3 : Nat) (v4 : Int32) (σ : St) (r : Int32 × St), P v0 → K310 v0 v1 v2 v3 v4 σ = some r → Fr P σ r.2) {v0 : Nat} {v1 : Nat} {v2 : Int32} {v3 : Nat} {v4 : Int32} {t0 : Int32} {σ : St} {r : Int32 × St} (w0 : P v0) (h : Mo_keeps_B416 K310 v0 v1 v2 v3 v4 t0 σ = some r) : Fr P σ r.2 := by
  unfold Mo_keeps_B416 at h
  rcases ite_some h with ⟨_, h⟩ | ⟨_, h⟩
  · replace h := nm_some h
    exact Fr.trans Fr.refl (hK310 _ _ _ _ _ _ _ w0 h)
  · obtain ⟨_, σ2, e2, h⟩ := cl_some h
    have f2 : Fr P _ _ := Fr.trans Fr.refl (fr_Mo_faults  w0 e2)
    replace h := (zb_some h).2
    rw [← Option.some.inj h]; exact f2
theorem fr_Mo_keeps_B310 {P : Nat → Prop} : ∀ (n : Nat) (v0 : Nat) (v1 : Nat) (v2 : Int32) (v3 : Nat) (v4 : Int32) (σ : St) (r : Int32 × St), P v0 → Mo_keeps_B310 n v0 v1 v2 v3 v4 σ = some r → Fr P σ r.2 := by
  intro n
  induction n with
  | zero => intro v0 v1 v2 v3 v4 σ r w0 h; unfold Mo_keeps_B310 at h; cases h
  | succ n ih =>
    intro v0 v1 v2 v3 v4 σ r w0 h
    unfold Mo_keeps_B310 at h
    rcases ite_some h with ⟨_, h⟩ | ⟨_, h⟩
    · obtain ⟨_, σ1, e1, h⟩ := cl_some h
      have f1 : Fr P _ _ := Fr.trans Fr.refl (fr_Mo_faults  w0 e1)
      rw [← Option.some.inj h]; exact f1
    · replace h := (lr_two h).2
      rcases ite_some h with ⟨_, h⟩ | ⟨_, h⟩
      · obtain ⟨_, σ4, e4, h⟩ := cl_some h
        have f4 : Fr P _ _ := Fr.trans Fr.refl (fr_Mo_decode  w0 e4)
        rcases ite_some h with ⟨_, h⟩ | ⟨_, h⟩
        · replace h := nm_some h
          exact Fr.trans f4 (ih _ _ _ _ _ _ _ w0 h)
        · rcases ite_some h with ⟨_, h⟩ | ⟨_, h⟩
          · replace h := nm_some h
            obtain ⟨_, σ8, e8, h⟩ := cl_some h
            have f8 : Fr P _ _ := Fr.trans f4 (fr_Mo_isService   e8)
            rcases ite_some h with ⟨_, h⟩ | ⟨_, h⟩
            · exact Fr.trans f8 (fr_Mo_keeps_B416 ih w0 h)
            · rcases ite_some h with ⟨_, h⟩ | ⟨_, h⟩
              · exact Fr.trans f8 (fr_Mo_keeps_B416 ih w0 h)
              · rcases ite_some h with ⟨_, h⟩ | ⟨_, h⟩
                · exact Fr.trans f8 (fr_Mo_keeps_B416 ih w0 h)
                · replace h := (lr_two h).2
                  rcases ite_some h with ⟨_, h⟩ | ⟨_, h⟩
                  · exact Fr.trans f8 (fr_Mo_keeps_B416 ih w0 h)
                  · exact Fr.trans f8 (fr_Mo_keeps_B416 ih w0 h)
          · replace h := nm_some h
            exact Fr.trans f4 (ih _ _ _ _ _ _ _ w0 h)
      · replace h := nm_some h
        exact Fr.trans Fr.refl (ih _ _ _ _ _ _ _ w0 h)
theorem fr_Mo_keeps_B252 {P : Nat → Prop} {K50 : Nat → Nat → Int32 → Nat → Int32 → St → Option (Int32 × St)} {K63 : Nat → Nat → Int32 → Nat → Int32 → Int32 → Int32 → St → Option (Int32 × St)} (hK50 : ∀ (v0 : Nat) (v1 : Nat) (v2 : Int32) (v3 : Nat) (v4 : Int32) (σ : St) (r : Int32 × St), P v0 → P v3 → K50 v0 v1 v2 v3 v4 σ = some r → Fr P σ r.2) (hK63 : ∀ (v0 : Nat) (v1 : Nat) (v2 : Int32) (v3 : Nat) (v4 : Int32) (v5 : Int32) (v6 : Int32) (σ : St) (r : Int32 × St), P v0 → P v3 → K63 v0 v1 v2 v3 v4 v5 v6 σ = some r → Fr P σ r.2) {v0 : Nat} {v1 : Nat} {v2 : Int32} {v3 : Nat} {v4 : Int32} {v5 : Int32} {v7 : Int32} {v9 : Int32} {σ : St} {r : Int32 × St} (w0 : P v0) (w1 : P v3) (h : Mo_keeps_B252 K50 K63 v0 v1 v2 v3 v4 v5 v7 v9 σ = some r) : Fr P σ r.2 := by
  unfold Mo_keeps_B252 at h
  rcases ite_some h with ⟨_, h⟩ | ⟨_, h⟩
  · rcases ite_some h with ⟨_, h⟩ | ⟨_, h⟩
    · replace h := (sr_two h).2
      replace h := nm_some h
      exact Fr.trans (Fr.s2 w1 Fr.refl) (hK63 _ _ _ _ _ _ _ _ _ w0 w1 h)
    · replace h := (sr_two h).2
      replace h := nm_some h
      exact Fr.trans (Fr.s2 w1 Fr.refl) (hK63 _ _ _ _ _ _ _ _ _ w0 w1 h)
  · obtain ⟨_, σ5, e5, h⟩ := cl_some h
    have f5 : Fr P _ _ := Fr.trans Fr.refl (fr_Mo_faults  w0 e5)
    replace h := (zb_some h).2
    rw [← Option.some.inj h]; exact f5
theorem fr_Mo_keeps_B234 {P : Nat → Prop} {K50 : Nat → Nat → Int32 → Nat → Int32 → St → Option (Int32 × St)} {K63 : Nat → Nat → Int32 → Nat → Int32 → Int32 → Int32 → St → Option (Int32 × St)} (hK50 : ∀ (v0 : Nat) (v1 : Nat) (v2 : Int32) (v3 : Nat) (v4 : Int32) (σ : St) (r : Int32 × St), P v0 → P v3 → K50 v0 v1 v2 v3 v4 σ = some r → Fr P σ r.2) (hK63 : ∀ (v0 : Nat) (v1 : Nat) (v2 : Int32) (v3 : Nat) (v4 : Int32) (v5 : Int32) (v6 : Int32) (σ : St) (r : Int32 × St), P v0 → P v3 → K63 v0 v1 v2 v3 v4 v5 v6 σ = some r → Fr P σ r.2) {v0 : Nat} {v1 : Nat} {v2 : Int32} {v3 : Nat} {v4 : Int32} {v5 : Int32} {v7 : Int32} {v9 : Int32} {σ : St} {r : Int32 × St} (w0 : P v0) (w1 : P v3) (h : Mo_keeps_B234 K50 K63 v0 v1 v2 v3 v4 v5 v7 v9 σ = some r) : Fr P σ r.2 := by
  unfold Mo_keeps_B234 at h
  rcases ite_some h with ⟨_, h⟩ | ⟨_, h⟩
  · exact Fr.trans Fr.refl (fr_Mo_keeps_B252 hK50 hK63 w0 w1 h)
  · rcases ite_some h with ⟨_, h⟩ | ⟨_, h⟩
    · rcases ite_some h with ⟨_, h⟩ | ⟨_, h⟩
      · replace h := (sr_two h).2
        replace h := nm_some h
        exact Fr.trans (Fr.s2 w1 Fr.refl) (hK63 _ _ _ _ _ _ _ _ _ w0 w1 h)
      · replace h := (sr_two h).2
        replace h := nm_some h
        exact Fr.trans (Fr.s2 w1 Fr.refl) (hK63 _ _ _ _ _ _ _ _ _ w0 w1 h)
    · exact Fr.trans Fr.refl (fr_Mo_keeps_B252 hK50 hK63 w0 w1 h)
theorem fr_Mo_keeps_B214 {P : Nat → Prop} {K50 : Nat → Nat → Int32 → Nat → Int32 → St → Option (Int32 × St)} {K63 : Nat → Nat → Int32 → Nat → Int32 → Int32 → Int32 → St → Option (Int32 × St)} (hK50 : ∀ (v0 : Nat) (v1 : Nat) (v2 : Int32) (v3 : Nat) (v4 : Int32) (σ : St) (r : Int32 × St), P v0 → P v3 → K50 v0 v1 v2 v3 v4 σ = some r → Fr P σ r.2) (hK63 : ∀ (v0 : Nat) (v1 : Nat) (v2 : Int32) (v3 : Nat) (v4 : Int32) (v5 : Int32) (v6 : Int32) (σ : St) (r : Int32 × St), P v0 → P v3 → K63 v0 v1 v2 v3 v4 v5 v6 σ = some r → Fr P σ r.2) {v0 : Nat} {v1 : Nat} {v2 : Int32} {v3 : Nat} {v4 : Int32} {v5 : Int32} {v7 : Int32} {v8 : Int32} {t0 : Int32} {σ : St} {r : Int32 × St} (w0 : P v0) (w1 : P v3) (h : Mo_keeps_B214 K50 K63 v0 v1 v2 v3 v4 v5 v7 v8 t0 σ = some r) : Fr P σ r.2 := by
  unfold Mo_keeps_B214 at h
  rcases ite_some h with ⟨_, h⟩ | ⟨_, h⟩
  · exact Fr.trans Fr.refl (fr_Mo_keeps_B234 hK50 hK63 w0 w1 h)
  · rcases ite_some h with ⟨_, h⟩ | ⟨_, h⟩
    · exact Fr.trans Fr.refl (fr_Mo_keeps_B234 hK50 hK63 w0 w1 h)
    · obtain ⟨_, σ1, e1, h⟩ := cl_some h
      have f1 : Fr P _ _ := Fr.trans Fr.refl (fr_Mo_faults  w0 e1)
      replace h := (zb_some h).2
      rw [← Option.some.inj h]; exact f1
theorem fr_Mo_keeps_B149 {P : Nat → Prop} {K50 : Nat → Nat → Int32 → Nat → Int32 → St → Option (Int32 × St)} {K63 : Nat → Nat → Int32 → Nat → Int32 → Int32 → Int32 → St → Option (Int32 × St)} (hK50 : ∀ (v0 : Nat) (v1 : Nat) (v2 : Int32) (v3 : Nat) (v4 : Int32) (σ : St) (r : Int32 × St), P v0 → P v3 → K50 v0 v1 v2 v3 v4 σ = some r → Fr P σ r.2) (hK63 : ∀ (v0 : Nat) (v1 : Nat) (v2 : Int32) (v3 : Nat) (v4 : Int32) (v5 : Int32) (v6 : Int32) (σ : St) (r : Int32 × St), P v0 → P v3 → K63 v0 v1 v2 v3 v4 v5 v6 σ = some r → Fr P σ r.2) {v0 : Nat} {v1 : Nat} {v2 : Int32} {v3 : Nat} {v4 : Int32} {v5 : Int32} {v6 : Int32} {v7 : Int32} {t0 : Int32} {σ : St} {r : Int32 × St} (w0 : P v0) (w1 : P v3) (h : Mo_keeps_B149 K50 K63 v0 v1 v2 v3 v4 v5 v6 v7 t0 σ = some r) : Fr P σ r.2 := by
  unfold Mo_keeps_B149 at h
  rcases ite_some h with ⟨_, h⟩ | ⟨_, h⟩
  · exact Fr.trans Fr.refl (fr_Mo_keeps_B214 hK50 hK63 w0 w1 h)
  · rcases ite_some h with ⟨_, h⟩ | ⟨_, h⟩
    · exact Fr.trans Fr.refl (fr_Mo_keeps_B214 hK50 hK63 w0 w1 h)
    · rcases ite_some h with ⟨_, h⟩ | ⟨_, h⟩
      · exact Fr.trans Fr.refl (fr_Mo_keeps_B214 hK50 hK63 w0 w1 h)
      · replace h := (lr_two h).2
        rcases ite_some h with ⟨_, h⟩ | ⟨_, h⟩
        · exact Fr.trans Fr.refl (fr_Mo_keeps_B214 hK50 hK63 w0 w1 h)
        · replace h := (lr_two h).2
          rcases ite_some h with ⟨_, h⟩ | ⟨_, h⟩
          · exact Fr.trans Fr.refl (fr_Mo_keeps_B214 hK50 hK63 w0 w1 h)
          · replace h := (lr_two h).2
            rcases ite_some h with ⟨_, h⟩ | ⟨_, h⟩
            · exact Fr.trans Fr.refl (fr_Mo_keeps_B214 hK50 hK63 w0 w1 h)
            · exact Fr.trans Fr.refl (fr_Mo_keeps_B214 hK50 hK63 w0 w1 h)
theorem fr_Mo_keeps_B63 {P : Nat → Prop} {K50 : Nat → Nat → Int32 → Nat → Int32 → St → Option (Int32 × St)} (hK50 : ∀ (v0 : Nat) (v1 : Nat) (v2 : Int32) (v3 : Nat) (v4 : Int32) (σ : St) (r : Int32 × St), P v0 → P v3 → K50 v0 v1 v2 v3 v4 σ = some r → Fr P σ r.2) : ∀ (n : Nat) (v0 : Nat) (v1 : Nat) (v2 : Int32) (v3 : Nat) (v4 : Int32) (v5 : Int32) (v6 : Int32) (σ : St) (r : Int32 × St), P v0 → P v3 → Mo_keeps_B63 K50 n v0 v1 v2 v3 v4 v5 v6 σ = some r → Fr P σ r.2 := by
  intro n
  induction n with
  | zero => intro v0 v1 v2 v3 v4 v5 v6 σ r w0 w1 h; unfold Mo_keeps_B63 at h; cases h
  | succ n ih =>
    intro v0 v1 v2 v3 v4 v5 v6 σ r w0 w1 h
    unfold Mo_keeps_B63 at h
    rcases ite_some h with ⟨_, h⟩ | ⟨_, h⟩
    · replace h := nm_some h
      exact Fr.trans Fr.refl (hK50 _ _ _ _ _ _ _ w0 w1 h)
    · obtain ⟨_, σ2, e2, h⟩ := cl_some h
      have f2 : Fr P _ _ := Fr.trans Fr.refl (fr_Mo_decode  w0 e2)
      rcases ite_some h with ⟨_, h⟩ | ⟨_, h⟩
      · obtain ⟨_, σ4, e4, h⟩ := cl_some h
        have f4 : Fr P _ _ := Fr.trans f2 (fr_Mo_faults  w0 e4)
        replace h := (zb_some h).2
        rw [← Option.some.inj h]; exact f4
      · rcases ite_some h with ⟨_, h⟩ | ⟨_, h⟩
        · rcases ite_some h with ⟨_, h⟩ | ⟨_, h⟩
          · rcases ite_some h with ⟨_, h⟩ | ⟨_, h⟩
            · exact Fr.trans f2 (fr_Mo_keeps_B149 hK50 ih w0 w1 h)
            · rcases ite_some h with ⟨_, h⟩ | ⟨_, h⟩
              · exact Fr.trans f2 (fr_Mo_keeps_B149 hK50 ih w0 w1 h)
              · exact Fr.trans f2 (fr_Mo_keeps_B149 hK50 ih w0 w1 h)
          · obtain ⟨_, σ6, e6, h⟩ := cl_some h
            have f6 : Fr P _ _ := Fr.trans f2 (fr_Mo_faults  w0 e6)
            replace h := (zb_some h).2
            rw [← Option.some.inj h]; exact f6
        · obtain ⟨_, σ8, e8, h⟩ := cl_some h
          have f8 : Fr P _ _ := Fr.trans f2 (fr_Mo_faults  w0 e8)
          replace h := (zb_some h).2
          rw [← Option.some.inj h]; exact f8
theorem fr_Mo_keeps_B50 {P : Nat → Prop} : ∀ (n : Nat) (v0 : Nat) (v1 : Nat) (v2 : Int32) (v3 : Nat) (v4 : Int32) (σ : St) (r : Int32 × St), P v0 → P v3 → Mo_keeps_B50 n v0 v1 v2 v3 v4 σ = some r → Fr P σ r.2 := by
  intro n
  induction n with
  | zero => intro v0 v1 v2 v3 v4 σ r w0 w1 h; unfold Mo_keeps_B50 at h; cases h
  | succ n ih =>
    intro v0 v1 v2 v3 v4 σ r w0 w1 h
    unfold Mo_keeps_B50 at h
    rcases ite_some h with ⟨_, h⟩ | ⟨_, h⟩
    · exact Fr.trans Fr.refl (fr_Mo_keeps_B310  _ _ _ _ _ _ _ _ w0 h)
    · exact Fr.trans Fr.refl (fr_Mo_keeps_B63 ih _ _ _ _ _ _ _ _ _ _ w0 w1 h)
theorem fr_Mo_keeps_B30 {P : Nat → Prop} : ∀ (n : Nat) (v0 : Nat) (v1 : Nat) (v2 : Int32) (v3 : Nat) (v4 : Int32) (σ : St) (r : Int32 × St), P v0 → P v3 → Mo_keeps_B30 n v0 v1 v2 v3 v4 σ = some r → Fr P σ r.2 := by
  intro n
  induction n with
  | zero => intro v0 v1 v2 v3 v4 σ r w0 w1 h; unfold Mo_keeps_B30 at h; cases h
  | succ n ih =>
    intro v0 v1 v2 v3 v4 σ r w0 w1 h
    unfold Mo_keeps_B30 at h
    rcases ite_some h with ⟨_, h⟩ | ⟨_, h⟩
    · exact Fr.trans Fr.refl (fr_Mo_keeps_B50  _ _ _ _ _ _ _ _ w0 w1 h)
    · replace h := (sr_two h).2
      replace h := nm_some h
      exact Fr.trans (Fr.s2 w1 Fr.refl) (ih _ _ _ _ _ _ _ w0 w1 h)
theorem fr_Mo_keeps {P : Nat → Prop} {v0 : Nat} {v1 : Nat} {v2 : Int32} {v3 : Nat} {σ : St} {r : Int32 × St} (w0 : P v0) (w1 : P v3) (h : Mo_keeps v0 v1 v2 v3 σ = some r) : Fr P σ r.2 := by
  unfold Mo_keeps at h
  rcases ite_some h with ⟨_, h⟩ | ⟨_, h⟩
  · obtain ⟨_, σ1, e1, h⟩ := cl_some h
    have f1 : Fr P _ _ := Fr.trans Fr.refl (fr_Mo_faults  w0 e1)
    replace h := (zb_some h).2
    rw [← Option.some.inj h]; exact f1
  · rcases ite_some h with ⟨_, h⟩ | ⟨_, h⟩
    · obtain ⟨_, σ3, e3, h⟩ := cl_some h
      have f3 : Fr P _ _ := Fr.trans Fr.refl (fr_Mo_faults  w0 e3)
      replace h := (zb_some h).2
      rw [← Option.some.inj h]; exact f3
    · rcases ite_some h with ⟨_, h⟩ | ⟨_, h⟩
      · exact Fr.trans Fr.refl (fr_Mo_keeps_B30  _ _ _ _ _ _ _ _ w0 w1 h)
      · obtain ⟨_, σ5, e5, h⟩ := cl_some h
        have f5 : Fr P _ _ := Fr.trans Fr.refl (fr_Mo_faults  w0 e5)
        replace h := (zb_some h).2
        rw [← Option.some.inj h]; exact f5
theorem fr_Mo_becomes_B7 {P : Nat → Prop} : ∀ (n : Nat) (v0 : Nat) (v1 : Nat) (v2 : Int32) (v3 : Int32) (σ : St) (r : St), P (ch v0 5) → P (ch v0 7) → P (ch v0 30) → Mo_becomes_B7 n v0 v1 v2 v3 σ = some r → Fr P σ r := by
  intro n
  induction n with
  | zero => intro v0 v1 v2 v3 σ r w0 w1 w2 h; unfold Mo_becomes_B7 at h; cases h
  | succ n ih =>
    intro v0 v1 v2 v3 σ r w0 w1 w2 h
    unfold Mo_becomes_B7 at h
    rcases ite_some h with ⟨_, h⟩ | ⟨_, h⟩
    · replace h := (sa_some h).2
      replace h := (sa_some h).2
      rw [← Option.some.inj h]; exact (Fr.s2 w2 (Fr.s2 w2 Fr.refl))
    · replace h := (lr_two h).2
      replace h := (sa_some h).2
      replace h := (ld_some h).2
      replace h := (sa_some h).2
      replace h := nm_some h
      exact Fr.trans (Fr.s2 w1 (Fr.s2 w0 Fr.refl)) (ih _ _ _ _ _ _ w0 w1 w2 h)
theorem fr_Mo_becomes {P : Nat → Prop} {v0 : Nat} {v1 : Nat} {v2 : Int32} {σ : St} {r : St} (w0 : P v0) (w1 : P (ch v0 5)) (w2 : P (ch v0 7)) (w3 : P (ch v0 30)) (h : Mo_becomes v0 v1 v2 σ = some r) : Fr P σ r := by
  unfold Mo_becomes at h
  replace h := nm_some h
  exact Fr.trans (Fr.s2 w0 Fr.refl) (fr_Mo_becomes_B7  _ _ _ _ _ _ _ w1 w2 w3 h)
theorem fr_Mo_check {P : Nat → Prop} {v0 : Nat} {σ : St} {r : Int32 × St} (w0 : P v0) (w1 : P (ch v0 5)) (w2 : P (ch v0 7)) (w3 : P (ch v0 30)) (w4 : P (ch v0 54)) (h : Mo_check v0 σ = some r) : Fr P σ r.2 := by
  unfold Mo_check at h
  replace h := nm_some h
  replace h := nm_some h
  replace h := nm_some h
  obtain ⟨_, σ4, e4, h⟩ := cl_some h
  have f4 : Fr P _ _ := Fr.trans (Fr.s2 w0 (Fr.s2 w0 Fr.refl)) (fr_Mo_keeps  w0 w4 e4)
  rcases ite_some h with ⟨_, h⟩ | ⟨_, h⟩
  · obtain ⟨σ6, e6, h⟩ := cv_some h
    have f6 : Fr P _ _ := Fr.trans f4 (fr_Mo_becomes  w0 w1 w2 w3 e6)
    replace h := nm_some h
    rw [← Option.some.inj h]; exact (Fr.s2 w0 f6)
  · rw [← Option.some.inj h]; exact f4
theorem fr_Mo_fault {P : Nat → Prop} {v0 : Nat} {v1 : Int32} {σ : St} {r : Int32 × St} (w0 : P v0) (h : Mo_fault v0 v1 σ = some r) : Fr P σ r.2 := by
  unfold Mo_fault at h
  replace h := nm_some h
  rcases ite_some h with ⟨_, h⟩ | ⟨_, h⟩
  · rcases ite_some h with ⟨_, h⟩ | ⟨_, h⟩
    · rw [← Option.some.inj h]; exact (Fr.s2 w0 Fr.refl)
    · rw [← Option.some.inj h]; exact (Fr.s2 w0 Fr.refl)
  · rw [← Option.some.inj h]; exact (Fr.s2 w0 Fr.refl)
theorem fr_Mo_isRegister {P : Nat → Prop} {v0 : Int32} {σ : St} {r : Int32 × St} (h : Mo_isRegister v0 σ = some r) : Fr P σ r.2 := by
  unfold Mo_isRegister at h
  rcases ite_some h with ⟨_, h⟩ | ⟨_, h⟩
  · rw [← Option.some.inj h]; exact Fr.refl
  · rcases ite_some h with ⟨_, h⟩ | ⟨_, h⟩
    · rw [← Option.some.inj h]; exact Fr.refl
    · rw [← Option.some.inj h]; exact Fr.refl
theorem fr_Mo_isMemoryX {P : Nat → Prop} {v0 : Int32} {σ : St} {r : Int32 × St} (h : Mo_isMemoryX v0 σ = some r) : Fr P σ r.2 := by
  unfold Mo_isMemoryX at h
  replace h := nm_some h
  replace h := nm_some h
  rcases ite_some h with ⟨_, h⟩ | ⟨_, h⟩
  · rw [← Option.some.inj h]; exact Fr.refl
  · rcases ite_some h with ⟨_, h⟩ | ⟨_, h⟩
    · rw [← Option.some.inj h]; exact Fr.refl
    · rcases ite_some h with ⟨_, h⟩ | ⟨_, h⟩
      · rw [← Option.some.inj h]; exact Fr.refl
      · rcases ite_some h with ⟨_, h⟩ | ⟨_, h⟩
        · rw [← Option.some.inj h]; exact Fr.refl
        · rcases ite_some h with ⟨_, h⟩ | ⟨_, h⟩
          · rw [← Option.some.inj h]; exact Fr.refl
          · rcases ite_some h with ⟨_, h⟩ | ⟨_, h⟩
            · rw [← Option.some.inj h]; exact Fr.refl
            · rcases ite_some h with ⟨_, h⟩ | ⟨_, h⟩
              · rw [← Option.some.inj h]; exact Fr.refl
              · rw [← Option.some.inj h]; exact Fr.refl
theorem fr_Mo_hasForm {P : Nat → Prop} {v0 : Int32} {v1 : Int32} {σ : St} {r : Int32 × St} (h : Mo_hasForm v0 v1 σ = some r) : Fr P σ r.2 := by
  unfold Mo_hasForm at h
  rcases ite_some h with ⟨_, h⟩ | ⟨_, h⟩
  · rw [← Option.some.inj h]; exact Fr.refl
  · rcases ite_some h with ⟨_, h⟩ | ⟨_, h⟩
    · rcases ite_some h with ⟨_, h⟩ | ⟨_, h⟩
      · rcases ite_some h with ⟨_, h⟩ | ⟨_, h⟩
        · rcases ite_some h with ⟨_, h⟩ | ⟨_, h⟩
          · rw [← Option.some.inj h]; exact Fr.refl
          · rcases ite_some h with ⟨_, h⟩ | ⟨_, h⟩
            · rw [← Option.some.inj h]; exact Fr.refl
            · rw [← Option.some.inj h]; exact Fr.refl
        · rcases ite_some h with ⟨_, h⟩ | ⟨_, h⟩
          · rcases ite_some h with ⟨_, h⟩ | ⟨_, h⟩
            · rw [← Option.some.inj h]; exact Fr.refl
            · rw [← Option.some.inj h]; exact Fr.refl
          · rcases ite_some h with ⟨_, h⟩ | ⟨_, h⟩
            · rcases ite_some h with ⟨_, h⟩ | ⟨_, h⟩
              · rw [← Option.some.inj h]; exact Fr.refl
              · rcases ite_some h with ⟨_, h⟩ | ⟨_, h⟩
                · rw [← Option.some.inj h]; exact Fr.refl
                · rw [← Option.some.inj h]; exact Fr.refl
            · rcases ite_some h with ⟨_, h⟩ | ⟨_, h⟩
              · rcases ite_some h with ⟨_, h⟩ | ⟨_, h⟩
                · rw [← Option.some.inj h]; exact Fr.refl
                · rcases ite_some h with ⟨_, h⟩ | ⟨_, h⟩
                  · rw [← Option.some.inj h]; exact Fr.refl
                  · rw [← Option.some.inj h]; exact Fr.refl
              · rcases ite_some h with ⟨_, h⟩ | ⟨_, h⟩
                · rcases ite_some h with ⟨_, h⟩ | ⟨_, h⟩
                  · rw [← Option.some.inj h]; exact Fr.refl
                  · rcases ite_some h with ⟨_, h⟩ | ⟨_, h⟩
                    · rw [← Option.some.inj h]; exact Fr.refl
                    · rw [← Option.some.inj h]; exact Fr.refl
                · rcases ite_some h with ⟨_, h⟩ | ⟨_, h⟩
                  · rcases ite_some h with ⟨_, h⟩ | ⟨_, h⟩
                    · rw [← Option.some.inj h]; exact Fr.refl
                    · rcases ite_some h with ⟨_, h⟩ | ⟨_, h⟩
                      · rw [← Option.some.inj h]; exact Fr.refl
                      · rw [← Option.some.inj h]; exact Fr.refl
                  · rcases ite_some h with ⟨_, h⟩ | ⟨_, h⟩
                    · rcases ite_some h with ⟨_, h⟩ | ⟨_, h⟩
                      · rw [← Option.some.inj h]; exact Fr.refl
                      · rcases ite_some h with ⟨_, h⟩ | ⟨_, h⟩
                        · rw [← Option.some.inj h]; exact Fr.refl
                        · rw [← Option.some.inj h]; exact Fr.refl
                    · rcases ite_some h with ⟨_, h⟩ | ⟨_, h⟩
                      · rcases ite_some h with ⟨_, h⟩ | ⟨_, h⟩
                        · rw [← Option.some.inj h]; exact Fr.refl
                        · rcases ite_some h with ⟨_, h⟩ | ⟨_, h⟩
                          · rw [← Option.some.inj h]; exact Fr.refl
                          · rw [← Option.some.inj h]; exact Fr.refl
                      · rcases ite_some h with ⟨_, h⟩ | ⟨_, h⟩
                        · rcases ite_some h with ⟨_, h⟩ | ⟨_, h⟩
                          · rw [← Option.some.inj h]; exact Fr.refl
                          · rw [← Option.some.inj h]; exact Fr.refl
                        · rcases ite_some h with ⟨_, h⟩ | ⟨_, h⟩
                          · rcases ite_some h with ⟨_, h⟩ | ⟨_, h⟩
                            · rw [← Option.some.inj h]; exact Fr.refl
                            · rw [← Option.some.inj h]; exact Fr.refl
                          · rcases ite_some h with ⟨_, h⟩ | ⟨_, h⟩
                            · rcases ite_some h with ⟨_, h⟩ | ⟨_, h⟩
                              · rw [← Option.some.inj h]; exact Fr.refl
                              · rcases ite_some h with ⟨_, h⟩ | ⟨_, h⟩
                                · rw [← Option.some.inj h]; exact Fr.refl
                                · rw [← Option.some.inj h]; exact Fr.refl
                            · rcases ite_some h with ⟨_, h⟩ | ⟨_, h⟩
                              · rcases ite_some h with ⟨_, h⟩ | ⟨_, h⟩
                                · rw [← Option.some.inj h]; exact Fr.refl
                                · rw [← Option.some.inj h]; exact Fr.refl
                              · rcases ite_some h with ⟨_, h⟩ | ⟨_, h⟩
                                · rw [← Option.some.inj h]; exact Fr.refl
                                · rw [← Option.some.inj h]; exact Fr.refl
      · rcases ite_some h with ⟨_, h⟩ | ⟨_, h⟩
        · rw [← Option.some.inj h]; exact Fr.refl
        · rcases ite_some h with ⟨_, h⟩ | ⟨_, h⟩
          · rw [← Option.some.inj h]; exact Fr.refl
          · rw [← Option.some.inj h]; exact Fr.refl
    · rw [← Option.some.inj h]; exact Fr.refl
theorem fr_Mo_formHasR {P : Nat → Prop} {v0 : Int32} {σ : St} {r : Int32 × St} (h : Mo_formHasR v0 σ = some r) : Fr P σ r.2 := by
  unfold Mo_formHasR at h
  rcases ite_some h with ⟨_, h⟩ | ⟨_, h⟩
  · rw [← Option.some.inj h]; exact Fr.refl
  · rcases ite_some h with ⟨_, h⟩ | ⟨_, h⟩
    · rw [← Option.some.inj h]; exact Fr.refl
    · rw [← Option.some.inj h]; exact Fr.refl
theorem fr_Mo_formHasMemory {P : Nat → Prop} {v0 : Int32} {σ : St} {r : Int32 × St} (h : Mo_formHasMemory v0 σ = some r) : Fr P σ r.2 := by
  unfold Mo_formHasMemory at h
  rcases ite_some h with ⟨_, h⟩ | ⟨_, h⟩
  · rw [← Option.some.inj h]; exact Fr.refl
  · rcases ite_some h with ⟨_, h⟩ | ⟨_, h⟩
    · rw [← Option.some.inj h]; exact Fr.refl
    · rcases ite_some h with ⟨_, h⟩ | ⟨_, h⟩
      · rw [← Option.some.inj h]; exact Fr.refl
      · rcases ite_some h with ⟨_, h⟩ | ⟨_, h⟩
        · rw [← Option.some.inj h]; exact Fr.refl
        · rw [← Option.some.inj h]; exact Fr.refl
theorem fr_Mo_formHasI {P : Nat → Prop} {v0 : Int32} {σ : St} {r : Int32 × St} (h : Mo_formHasI v0 σ = some r) : Fr P σ r.2 := by
  unfold Mo_formHasI at h
  rcases ite_some h with ⟨_, h⟩ | ⟨_, h⟩
  · rw [← Option.some.inj h]; exact Fr.refl
  · rcases ite_some h with ⟨_, h⟩ | ⟨_, h⟩
    · rw [← Option.some.inj h]; exact Fr.refl
    · rcases ite_some h with ⟨_, h⟩ | ⟨_, h⟩
      · rw [← Option.some.inj h]; exact Fr.refl
      · rw [← Option.some.inj h]; exact Fr.refl
theorem fr_Mo_plain_B209 {P : Nat → Prop} {v0 : Nat} {t0 : Nat} {t1 : Int32} {t2 : Int32} {σ : St} {r : Int32 × St} (w0 : P t0) (w1 : P v0) (h : Mo_plain_B209 v0 t0 t1 t2 σ = some r) : Fr P σ r.2 := by
  unfold Mo_plain_B209 at h
  replace h := (sr_two h).2
  replace h := nm_some h
  rw [← Option.some.inj h]; exact (Fr.s2 w1 (Fr.s2 w0 Fr.refl))
theorem fr_Mo_plain_B189 {P : Nat → Prop} {v0 : Nat} {v2 : Int32} {v6 : Int32} {v7 : Int32} {t0 : Nat} {t1 : Int32} {t2 : Int32} {σ : St} {r : Int32 × St} (w0 : P t0) (w1 : P v0) (w2 : P (ch v0 17)) (h : Mo_plain_B189 v0 v2 v6 v7 t0 t1 t2 σ = some r) : Fr P σ r.2 := by
  unfold Mo_plain_B189 at h
  replace h := (sr_two h).2
  obtain ⟨_, σ2, e2, h⟩ := cl_some h
  have f2 : Fr P _ _ := Fr.trans (Fr.s2 w0 Fr.refl) (fr_Mo_formHasI   e2)
  rcases ite_some h with ⟨_, h⟩ | ⟨_, h⟩
  · exact Fr.trans f2 (fr_Mo_plain_B209  w2 w1 h)
  · exact Fr.trans f2 (fr_Mo_plain_B209  w2 w1 h)
theorem fr_Mo_plain_B169 {P : Nat → Prop} {v0 : Nat} {v2 : Int32} {v5 : Int32} {v6 : Int32} {v7 : Int32} {t0 : Nat} {t1 : Int32} {t2 : Int32} {σ : St} {r : Int32 × St} (w0 : P t0) (w1 : P v0) (w2 : P (ch v0 16)) (w3 : P (ch v0 17)) (h : Mo_plain_B169 v0 v2 v5 v6 v7 t0 t1 t2 σ = some r) : Fr P σ r.2 := by
  unfold Mo_plain_B169 at h
  replace h := (sr_two h).2
  obtain ⟨_, σ2, e2, h⟩ := cl_some h
  have f2 : Fr P _ _ := Fr.trans (Fr.s2 w0 Fr.refl) (fr_Mo_formHasMemory   e2)
  rcases ite_some h with ⟨_, h⟩ | ⟨_, h⟩
  · exact Fr.trans f2 (fr_Mo_plain_B189  w2 w1 w3 h)
  · exact Fr.trans f2 (fr_Mo_plain_B189  w2 w1 w3 h)
theorem fr_Mo_plain_B144 {P : Nat → Prop} {v0 : Nat} {v2 : Int32} {v4 : Int32} {v5 : Int32} {v6 : Int32} {v7 : Int32} {t0 : Nat} {t1 : Int32} {t2 : Int32} {σ : St} {r : Int32 × St} (w0 : P t0) (w1 : P v0) (w2 : P (ch v0 15)) (w3 : P (ch v0 16)) (w4 : P (ch v0 17)) (h : Mo_plain_B144 v0 v2 v4 v5 v6 v7 t0 t1 t2 σ = some r) : Fr P σ r.2 := by
  unfold Mo_plain_B144 at h
  replace h := (sr_two h).2
  rcases ite_some h with ⟨_, h⟩ | ⟨_, h⟩
  · exact Fr.trans (Fr.s2 w0 Fr.refl) (fr_Mo_plain_B169  w2 w1 w3 w4 h)
  · obtain ⟨_, σ2, e2, h⟩ := cl_some h
    have f2 : Fr P _ _ := Fr.trans (Fr.s2 w0 Fr.refl) (fr_Mo_formHasMemory   e2)
    rcases ite_some h with ⟨_, h⟩ | ⟨_, h⟩
    · exact Fr.trans f2 (fr_Mo_plain_B169  w2 w1 w3 w4 h)
    · exact Fr.trans f2 (fr_Mo_plain_B169  w2 w1 w3 w4 h)
theorem fr_Mo_plain_B95 {P : Nat → Prop} {v0 : Nat} {v1 : Int32} {v2 : Int32} {v3 : Int32} {v4 : Int32} {v5 : Int32} {v6 : Int32} {σ : St} {r : Int32 × St} (w0 : P v0) (w1 : P (ch v0 11)) (w2 : P (ch v0 12)) (w3 : P (ch v0 13)) (w4 : P (ch v0 14)) (w5 : P (ch v0 15)) (w6 : P (ch v0 16)) (w7 : P (ch v0 17)) (h : Mo_plain_B95 v0 v1 v2 v3 v4 v5 v6 σ = some r) : Fr P σ r.2 := by
  unfold Mo_plain_B95 at h
  replace h := nm_some h
  replace h := (sa_some h).2
  replace h := (sa_some h).2
  replace h := (sa_some h).2
  obtain ⟨_, σ5, e5, h⟩ := cl_some h
  have f5 : Fr P _ _ := Fr.trans (Fr.s2 w3 (Fr.s2 w2 (Fr.s2 w1 Fr.refl))) (fr_Mo_formHasR   e5)
  rcases ite_some h with ⟨_, h⟩ | ⟨_, h⟩
  · exact Fr.trans f5 (fr_Mo_plain_B144  w4 w0 w5 w6 w7 h)
  · exact Fr.trans f5 (fr_Mo_plain_B144  w4 w0 w5 w6 w7 h)
theorem fr_Mo_plain_B68 {P : Nat → Prop} {v0 : Nat} {v1 : Int32} {v2 : Int32} {v3 : Int32} {v4 : Int32} {v5 : Int32} {v6 : Int32} {σ : St} {r : Int32 × St} (w0 : P v0) (w1 : P (ch v0 11)) (w2 : P (ch v0 12)) (w3 : P (ch v0 13)) (w4 : P (ch v0 14)) (w5 : P (ch v0 15)) (w6 : P (ch v0 16)) (w7 : P (ch v0 17)) (h : Mo_plain_B68 v0 v1 v2 v3 v4 v5 v6 σ = some r) : Fr P σ r.2 := by
  unfold Mo_plain_B68 at h
  rcases ite_some h with ⟨_, h⟩ | ⟨_, h⟩
  · exact Fr.trans Fr.refl (fr_Mo_plain_B95  w0 w1 w2 w3 w4 w5 w6 w7 h)
  · rcases ite_some h with ⟨_, h⟩ | ⟨_, h⟩
    · exact Fr.trans Fr.refl (fr_Mo_plain_B95  w0 w1 w2 w3 w4 w5 w6 w7 h)
    · rcases ite_some h with ⟨_, h⟩ | ⟨_, h⟩
      · rw [← Option.some.inj h]; exact Fr.refl
      · rcases ite_some h with ⟨_, h⟩ | ⟨_, h⟩
        · exact Fr.trans Fr.refl (fr_Mo_plain_B95  w0 w1 w2 w3 w4 w5 w6 w7 h)
        · rw [← Option.some.inj h]; exact Fr.refl
theorem fr_Mo_plain_B51 {P : Nat → Prop} {v0 : Nat} {v1 : Int32} {v2 : Int32} {v3 : Int32} {v4 : Int32} {v5 : Int32} {v6 : Int32} {σ : St} {r : Int32 × St} (w0 : P v0) (w1 : P (ch v0 11)) (w2 : P (ch v0 12)) (w3 : P (ch v0 13)) (w4 : P (ch v0 14)) (w5 : P (ch v0 15)) (w6 : P (ch v0 16)) (w7 : P (ch v0 17)) (h : Mo_plain_B51 v0 v1 v2 v3 v4 v5 v6 σ = some r) : Fr P σ r.2 := by
  unfold Mo_plain_B51 at h
  obtain ⟨_, σ1, e1, h⟩ := cl_some h
  have f1 : Fr P _ _ := Fr.trans Fr.refl (fr_Mo_formHasMemory   e1)
  rcases ite_some h with ⟨_, h⟩ | ⟨_, h⟩
  · exact Fr.trans f1 (fr_Mo_plain_B68  w0 w1 w2 w3 w4 w5 w6 w7 h)
  · obtain ⟨_, σ3, e3, h⟩ := cl_some h
    have f3 : Fr P _ _ := Fr.trans f1 (fr_Mo_isMemoryX   e3)
    rcases ite_some h with ⟨_, h⟩ | ⟨_, h⟩
    · exact Fr.trans f3 (fr_Mo_plain_B68  w0 w1 w2 w3 w4 w5 w6 w7 h)
    · rw [← Option.some.inj h]; exact f3
theorem fr_Mo_plain_B38 {P : Nat → Prop} {v0 : Nat} {v1 : Int32} {v2 : Int32} {v3 : Int32} {v4 : Int32} {v5 : Int32} {v6 : Int32} {σ : St} {r : Int32 × St} (w0 : P v0) (w1 : P (ch v0 11)) (w2 : P (ch v0 12)) (w3 : P (ch v0 13)) (w4 : P (ch v0 14)) (w5 : P (ch v0 15)) (w6 : P (ch v0 16)) (w7 : P (ch v0 17)) (h : Mo_plain_B38 v0 v1 v2 v3 v4 v5 v6 σ = some r) : Fr P σ r.2 := by
  unfold Mo_plain_B38 at h
  rcases ite_some h with ⟨_, h⟩ | ⟨_, h⟩
  · exact Fr.trans Fr.refl (fr_Mo_plain_B51  w0 w1 w2 w3 w4 w5 w6 w7 h)
  · obtain ⟨_, σ1, e1, h⟩ := cl_some h
    have f1 : Fr P _ _ := Fr.trans Fr.refl (fr_Mo_isRegister   e1)
    rcases ite_some h with ⟨_, h⟩ | ⟨_, h⟩
    · rw [← Option.some.inj h]; exact f1
    · exact Fr.trans f1 (fr_Mo_plain_B51  w0 w1 w2 w3 w4 w5 w6 w7 h)
theorem fr_Mo_plain {P : Nat → Prop} {v0 : Nat} {v1 : Int32} {v2 : Int32} {v3 : Int32} {v4 : Int32} {v5 : Int32} {v6 : Int32} {σ : St} {r : Int32 × St} (w0 : P v0) (w1 : P (ch v0 11)) (w2 : P (ch v0 12)) (w3 : P (ch v0 13)) (w4 : P (ch v0 14)) (w5 : P (ch v0 15)) (w6 : P (ch v0 16)) (w7 : P (ch v0 17)) (h : Mo_plain v0 v1 v2 v3 v4 v5 v6 σ = some r) : Fr P σ r.2 := by
  unfold Mo_plain at h
  replace h := nm_some h
  rcases ite_some h with ⟨_, h⟩ | ⟨_, h⟩
  · rw [← Option.some.inj h]; exact (Fr.s2 w0 Fr.refl)
  · obtain ⟨_, σ2, e2, h⟩ := cl_some h
    have f2 : Fr P _ _ := Fr.trans (Fr.s2 w0 Fr.refl) (fr_Mo_hasForm   e2)
    rcases ite_some h with ⟨_, h⟩ | ⟨_, h⟩
    · obtain ⟨_, σ4, e4, h⟩ := cl_some h
      have f4 : Fr P _ _ := Fr.trans f2 (fr_Mo_formHasR   e4)
      rcases ite_some h with ⟨_, h⟩ | ⟨_, h⟩
      · exact Fr.trans f4 (fr_Mo_plain_B38  w0 w1 w2 w3 w4 w5 w6 w7 h)
      · obtain ⟨_, σ6, e6, h⟩ := cl_some h
        have f6 : Fr P _ _ := Fr.trans f4 (fr_Mo_isRegister   e6)
        rcases ite_some h with ⟨_, h⟩ | ⟨_, h⟩
        · rw [← Option.some.inj h]; exact f6
        · exact Fr.trans f6 (fr_Mo_plain_B38  w0 w1 w2 w3 w4 w5 w6 w7 h)
    · rw [← Option.some.inj h]; exact f2
theorem fr_Mo_flow_B286 {P : Nat → Prop} {v0 : Nat} {t0 : Nat} {t1 : Int32} {t2 : Int32} {σ : St} {r : Int32 × St} (w0 : P t0) (w1 : P v0) (h : Mo_flow_B286 v0 t0 t1 t2 σ = some r) : Fr P σ r.2 := by
  unfold Mo_flow_B286 at h
  replace h := (sr_two h).2
  replace h := nm_some h
  rw [← Option.some.inj h]; exact (Fr.s2 w1 (Fr.s2 w0 Fr.refl))
theorem fr_Mo_flow_B259 {P : Nat → Prop} {v0 : Nat} {v1 : Int32} {v3 : Int32} {v6 : Int32} {t0 : Nat} {t1 : Int32} {t2 : Int32} {σ : St} {r : Int32 × St} (w0 : P t0) (w1 : P v0) (w2 : P (ch v0 15)) (h : Mo_flow_B259 v0 v1 v3 v6 t0 t1 t2 σ = some r) : Fr P σ r.2 := by
  unfold Mo_flow_B259 at h
  replace h := (sr_two h).2
  rcases ite_some h with ⟨_, h⟩ | ⟨_, h⟩
  · exact Fr.trans (Fr.s2 w0 Fr.refl) (fr_Mo_flow_B286  w2 w1 h)
  · rcases ite_some h with ⟨_, h⟩ | ⟨_, h⟩
    · exact Fr.trans (Fr.s2 w0 Fr.refl) (fr_Mo_flow_B286  w2 w1 h)
    · rcases ite_some h with ⟨_, h⟩ | ⟨_, h⟩
      · exact Fr.trans (Fr.s2 w0 Fr.refl) (fr_Mo_flow_B286  w2 w1 h)
      · exact Fr.trans (Fr.s2 w0 Fr.refl) (fr_Mo_flow_B286  w2 w1 h)
theorem fr_Mo_flow_B212 {P : Nat → Prop} {v0 : Nat} {v1 : Int32} {v2 : Int32} {v3 : Int32} {v5 : Int32} {σ : St} {r : Int32 × St} (w0 : P v0) (w1 : P (ch v0 11)) (w2 : P (ch v0 14)) (w3 : P (ch v0 15)) (h : Mo_flow_B212 v0 v1 v2 v3 v5 σ = some r) : Fr P σ r.2 := by
  unfold Mo_flow_B212 at h
  rcases ite_some h with ⟨_, h⟩ | ⟨_, h⟩
  · rw [← Option.some.inj h]; exact Fr.refl
  · rcases ite_some h with ⟨_, h⟩ | ⟨_, h⟩
    · replace h := nm_some h
      replace h := (sa_some h).2
      rcases ite_some h with ⟨_, h⟩ | ⟨_, h⟩
      · exact Fr.trans (Fr.s2 w1 Fr.refl) (fr_Mo_flow_B259  w2 w0 w3 h)
      · exact Fr.trans (Fr.s2 w1 Fr.refl) (fr_Mo_flow_B259  w2 w0 w3 h)
    · rw [← Option.some.inj h]; exact Fr.refl
theorem fr_Mo_flow_B159 {P : Nat → Prop} {v0 : Nat} {v1 : Int32} {v2 : Int32} {v3 : Int32} {σ : St} {r : Int32 × St} (w0 : P v0) (w1 : P (ch v0 11)) (w2 : P (ch v0 14)) (w3 : P (ch v0 15)) (h : Mo_flow_B159 v0 v1 v2 v3 σ = some r) : Fr P σ r.2 := by
  unfold Mo_flow_B159 at h
  obtain ⟨_, σ1, e1, h⟩ := cl_some h
  have f1 : Fr P _ _ := Fr.trans Fr.refl (fr_Mo_isRegister   e1)
  rcases ite_some h with ⟨_, h⟩ | ⟨_, h⟩
  · exact Fr.trans f1 (fr_Mo_flow_B212  w0 w1 w2 w3 h)
  · rcases ite_some h with ⟨_, h⟩ | ⟨_, h⟩
    · exact Fr.trans f1 (fr_Mo_flow_B212  w0 w1 w2 w3 h)
    · exact Fr.trans f1 (fr_Mo_flow_B212  w0 w1 w2 w3 h)
theorem fr_Mo_flow_B20 {P : Nat → Prop} {v0 : Nat} {v1 : Int32} {v2 : Int32} {v3 : Int32} {t0 : Int32} {σ : St} {r : Int32 × St} (w0 : P v0) (w1 : P (ch v0 11)) (w2 : P (ch v0 14)) (w3 : P (ch v0 15)) (h : Mo_flow_B20 v0 v1 v2 v3 t0 σ = some r) : Fr P σ r.2 := by
  unfold Mo_flow_B20 at h
  rcases ite_some h with ⟨_, h⟩ | ⟨_, h⟩
  · rcases ite_some h with ⟨_, h⟩ | ⟨_, h⟩
    · exact Fr.trans Fr.refl (fr_Mo_flow_B212  w0 w1 w2 w3 h)
    · rcases ite_some h with ⟨_, h⟩ | ⟨_, h⟩
      · exact Fr.trans Fr.refl (fr_Mo_flow_B212  w0 w1 w2 w3 h)
      · rcases ite_some h with ⟨_, h⟩ | ⟨_, h⟩
        · exact Fr.trans Fr.refl (fr_Mo_flow_B212  w0 w1 w2 w3 h)
        · exact Fr.trans Fr.refl (fr_Mo_flow_B212  w0 w1 w2 w3 h)
  · rcases ite_some h with ⟨_, h⟩ | ⟨_, h⟩
    · exact Fr.trans Fr.refl (fr_Mo_flow_B212  w0 w1 w2 w3 h)
    · rcases ite_some h with ⟨_, h⟩ | ⟨_, h⟩
      · rcases ite_some h with ⟨_, h⟩ | ⟨_, h⟩
        · exact Fr.trans Fr.refl (fr_Mo_flow_B212  w0 w1 w2 w3 h)
        · rcases ite_some h with ⟨_, h⟩ | ⟨_, h⟩
          · exact Fr.trans Fr.refl (fr_Mo_flow_B212  w0 w1 w2 w3 h)
          · rcases ite_some h with ⟨_, h⟩ | ⟨_, h⟩
            · exact Fr.trans Fr.refl (fr_Mo_flow_B212  w0 w1 w2 w3 h)
            · rcases ite_some h with ⟨_, h⟩ | ⟨_, h⟩
              · exact Fr.trans Fr.refl (fr_Mo_flow_B212  w0 w1 w2 w3 h)
              · rcases ite_some h with ⟨_, h⟩ | ⟨_, h⟩
                · exact Fr.trans Fr.refl (fr_Mo_flow_B212  w0 w1 w2 w3 h)
                · exact Fr.trans Fr.refl (fr_Mo_flow_B212  w0 w1 w2 w3 h)
      · rcases ite_some h with ⟨_, h⟩ | ⟨_, h⟩
        · exact Fr.trans Fr.refl (fr_Mo_flow_B212  w0 w1 w2 w3 h)
        · rcases ite_some h with ⟨_, h⟩ | ⟨_, h⟩
          · rcases ite_some h with ⟨_, h⟩ | ⟨_, h⟩
            · exact Fr.trans Fr.refl (fr_Mo_flow_B212  w0 w1 w2 w3 h)
            · rcases ite_some h with ⟨_, h⟩ | ⟨_, h⟩
              · exact Fr.trans Fr.refl (fr_Mo_flow_B212  w0 w1 w2 w3 h)
              · exact Fr.trans Fr.refl (fr_Mo_flow_B212  w0 w1 w2 w3 h)
          · rcases ite_some h with ⟨_, h⟩ | ⟨_, h⟩
            · exact Fr.trans Fr.refl (fr_Mo_flow_B159  w0 w1 w2 w3 h)
            · rcases ite_some h with ⟨_, h⟩ | ⟨_, h⟩
              · exact Fr.trans Fr.refl (fr_Mo_flow_B159  w0 w1 w2 w3 h)
              · rcases ite_some h with ⟨_, h⟩ | ⟨_, h⟩
                · exact Fr.trans Fr.refl (fr_Mo_flow_B212  w0 w1 w2 w3 h)
                · rcases ite_some h with ⟨_, h⟩ | ⟨_, h⟩
                  · rcases ite_some h with ⟨_, h⟩ | ⟨_, h⟩
                    · exact Fr.trans Fr.refl (fr_Mo_flow_B212  w0 w1 w2 w3 h)
                    · obtain ⟨_, σ1, e1, h⟩ := cl_some h
                      have f1 : Fr P _ _ := Fr.trans Fr.refl (fr_Mo_isRegister   e1)
                      rcases ite_some h with ⟨_, h⟩ | ⟨_, h⟩
                      · exact Fr.trans f1 (fr_Mo_flow_B212  w0 w1 w2 w3 h)
                      · exact Fr.trans f1 (fr_Mo_flow_B212  w0 w1 w2 w3 h)
                  · exact Fr.trans Fr.refl (fr_Mo_flow_B212  w0 w1 w2 w3 h)
theorem fr_Mo_flow {P : Nat → Prop} {v0 : Nat} {v1 : Int32} {v2 : Int32} {v3 : Int32} {σ : St} {r : Int32 × St} (w0 : P v0) (w1 : P (ch v0 11)) (w2 : P (ch v0 14)) (w3 : P (ch v0 15)) (h : Mo_flow v0 v1 v2 v3 σ = some r) : Fr P σ r.2 := by
  unfold Mo_flow at h
  replace h := nm_some h
  rcases ite_some h with ⟨_, h⟩ | ⟨_, h⟩
  · exact Fr.trans (Fr.s2 w0 Fr.refl) (fr_Mo_flow_B20  w0 w1 w2 w3 h)
  · rcases ite_some h with ⟨_, h⟩ | ⟨_, h⟩
    · exact Fr.trans (Fr.s2 w0 Fr.refl) (fr_Mo_flow_B20  w0 w1 w2 w3 h)
    · exact Fr.trans (Fr.s2 w0 Fr.refl) (fr_Mo_flow_B20  w0 w1 w2 w3 h)
theorem fr_Mo_clear {P : Nat → Prop} {v0 : Nat} {σ : St} {r : Int32 × St} (w0 : P v0) (h : Mo_clear v0 σ = some r) : Fr P σ r.2 := by
  unfold Mo_clear at h
  replace h := nm_some h
  replace h := nm_some h
  replace h := nm_some h
  rw [← Option.some.inj h]; exact (Fr.s2 w0 (Fr.s2 w0 Fr.refl))
theorem fr_Mo_put {P : Nat → Prop} {v0 : Nat} {v1 : Int32} {σ : St} {r : St} (w0 : P v0) (w1 : P (ch v0 24)) (h : Mo_put v0 v1 σ = some r) : Fr P σ r := by
  unfold Mo_put at h
  replace h := (sa_some h).2
  replace h := nm_some h
  rw [← Option.some.inj h]; exact (Fr.s2 w0 (Fr.s2 w1 Fr.refl))
theorem fr_Mo_putFour_B2 {P : Nat → Prop} : ∀ (n : Nat) (v0 : Nat) (v1 : Int32) (v2 : Int32) (σ : St) (r : St), P v0 → P (ch v0 24) → Mo_putFour_B2 n v0 v1 v2 σ = some r → Fr P σ r := by
  intro n
  induction n with
  | zero => intro v0 v1 v2 σ r w0 w1 h; unfold Mo_putFour_B2 at h; cases h
  | succ n ih =>
    intro v0 v1 v2 σ r w0 w1 h
    unfold Mo_putFour_B2 at h
    rcases ite_some h with ⟨_, h⟩ | ⟨_, h⟩
    · rw [← Option.some.inj h]; exact Fr.refl
    · obtain ⟨σ1, e1, h⟩ := cv_some h
      have f1 : Fr P _ _ := Fr.trans Fr.refl (fr_Mo_put  w0 w1 e1)
      replace h := nm_some h
      exact Fr.trans f1 (ih _ _ _ _ _ w0 w1 h)
theorem fr_Mo_putFour {P : Nat → Prop} {v0 : Nat} {v1 : Int32} {σ : St} {r : St} (w0 : P v0) (w1 : P (ch v0 24)) (h : Mo_putFour v0 v1 σ = some r) : Fr P σ r := by
  unfold Mo_putFour at h
  exact Fr.trans Fr.refl (fr_Mo_putFour_B2  _ _ _ _ _ _ w0 w1 h)
theorem fr_Mo_isSmall {P : Nat → Prop} {v0 : Int32} {σ : St} {r : Int32 × St} (h : Mo_isSmall v0 σ = some r) : Fr P σ r.2 := by
  unfold Mo_isSmall at h
  rcases ite_some h with ⟨_, h⟩ | ⟨_, h⟩
  · rw [← Option.some.inj h]; exact Fr.refl
  · rcases ite_some h with ⟨_, h⟩ | ⟨_, h⟩
    · rw [← Option.some.inj h]; exact Fr.refl
    · rw [← Option.some.inj h]; exact Fr.refl
theorem fr_Mo_putRegister {P : Nat → Prop} {v0 : Nat} {v1 : Int32} {v2 : Int32} {σ : St} {r : St} (w0 : P v0) (w1 : P (ch v0 24)) (h : Mo_putRegister v0 v1 v2 σ = some r) : Fr P σ r := by
  unfold Mo_putRegister at h
  obtain ⟨σ1, e1, h⟩ := cv_some h
  have f1 : Fr P _ _ := Fr.trans Fr.refl (fr_Mo_put  w0 w1 e1)
  rw [← Option.some.inj h]; exact f1
theorem fr_Mo_putMemory_B179 {P : Nat → Prop} {v0 : Nat} {v3 : Int32} {v4 : Int32} {v6 : Int32} {σ : St} {r : St} (w0 : P v0) (w1 : P (ch v0 24)) (h : Mo_putMemory_B179 v0 v3 v4 v6 σ = some r) : Fr P σ r := by
  unfold Mo_putMemory_B179 at h
  rcases ite_some h with ⟨_, h⟩ | ⟨_, h⟩
  · rcases ite_some h with ⟨_, h⟩ | ⟨_, h⟩
    · obtain ⟨σ1, e1, h⟩ := cv_some h
      have f1 : Fr P _ _ := Fr.trans Fr.refl (fr_Mo_putFour  w0 w1 e1)
      rw [← Option.some.inj h]; exact f1
    · rcases ite_some h with ⟨_, h⟩ | ⟨_, h⟩
      · rw [← Option.some.inj h]; exact Fr.refl
      · obtain ⟨σ2, e2, h⟩ := cv_some h
        have f2 : Fr P _ _ := Fr.trans Fr.refl (fr_Mo_putFour  w0 w1 e2)
        rw [← Option.some.inj h]; exact f2
  · obtain ⟨σ3, e3, h⟩ := cv_some h
    have f3 : Fr P _ _ := Fr.trans Fr.refl (fr_Mo_put  w0 w1 e3)
    rcases ite_some h with ⟨_, h⟩ | ⟨_, h⟩
    · obtain ⟨σ4, e4, h⟩ := cv_some h
      have f4 : Fr P _ _ := Fr.trans f3 (fr_Mo_putFour  w0 w1 e4)
      rw [← Option.some.inj h]; exact f4
    · rcases ite_some h with ⟨_, h⟩ | ⟨_, h⟩
      · rw [← Option.some.inj h]; exact f3
      · obtain ⟨σ5, e5, h⟩ := cv_some h
        have f5 : Fr P _ _ := Fr.trans f3 (fr_Mo_putFour  w0 w1 e5)
        rw [← Option.some.inj h]; exact f5
theorem fr_Mo_putMemory_B167 {P : Nat → Prop} {v0 : Nat} {v2 : Int32} {v3 : Int32} {v4 : Int32} {v6 : Int32} {t0 : Nat} {t1 : Int32} {t2 : Int32} {σ : St} {r : St} (w0 : P t0) (w1 : P (ch t0 24)) (w2 : P v0) (w3 : P (ch v0 24)) (h : Mo_putMemory_B167 v0 v2 v3 v4 v6 t0 t1 t2 σ = some r) : Fr P σ r := by
  unfold Mo_putMemory_B167 at h
  obtain ⟨σ1, e1, h⟩ := cv_some h
  have f1 : Fr P _ _ := Fr.trans Fr.refl (fr_Mo_put  w0 w1 e1)
  exact Fr.trans f1 (fr_Mo_putMemory_B179  w2 w3 h)
theorem fr_Mo_putMemory_B128 {P : Nat → Prop} {v0 : Nat} {v2 : Int32} {v3 : Int32} {v4 : Int32} {v5 : Int32} {v6 : Int32} {v7 : Int32} {t0 : Nat} {t1 : Int32} {t2 : Int32} {σ : St} {r : St} (w0 : P t0) (w1 : P (ch t0 24)) (w2 : P v0) (w3 : P (ch v0 24)) (h : Mo_putMemory_B128 v0 v2 v3 v4 v5 v6 v7 t0 t1 t2 σ = some r) : Fr P σ r := by
  unfold Mo_putMemory_B128 at h
  obtain ⟨σ1, e1, h⟩ := cv_some h
  have f1 : Fr P _ _ := Fr.trans Fr.refl (fr_Mo_put  w0 w1 e1)
  rcases ite_some h with ⟨_, h⟩ | ⟨_, h⟩
  · exact Fr.trans f1 (fr_Mo_putMemory_B179  w2 w3 h)
  · rcases ite_some h with ⟨_, h⟩ | ⟨_, h⟩
    · rcases ite_some h with ⟨_, h⟩ | ⟨_, h⟩
      · exact Fr.trans f1 (fr_Mo_putMemory_B167  w2 w3 w2 w3 h)
      · exact Fr.trans f1 (fr_Mo_putMemory_B167  w2 w3 w2 w3 h)
    · rcases ite_some h with ⟨_, h⟩ | ⟨_, h⟩
      · exact Fr.trans f1 (fr_Mo_putMemory_B167  w2 w3 w2 w3 h)
      · exact Fr.trans f1 (fr_Mo_putMemory_B167  w2 w3 w2 w3 h)
theorem fr_Mo_putMemory_B104 {P : Nat → Prop} {v0 : Nat} {v1 : Int32} {v2 : Int32} {v3 : Int32} {v4 : Int32} {v5 : Int32} {v6 : Int32} {t0 : Int32} {σ : St} {r : St} (w0 : P v0) (w1 : P (ch v0 24)) (h : Mo_putMemory_B104 v0 v1 v2 v3 v4 v5 v6 t0 σ = some r) : Fr P σ r := by
  unfold Mo_putMemory_B104 at h
  rcases ite_some h with ⟨_, h⟩ | ⟨_, h⟩
  · exact Fr.trans Fr.refl (fr_Mo_putMemory_B128  w0 w1 w0 w1 h)
  · exact Fr.trans Fr.refl (fr_Mo_putMemory_B128  w0 w1 w0 w1 h)
theorem fr_Mo_putMemory_B77 {P : Nat → Prop} {v0 : Nat} {v1 : Int32} {v2 : Int32} {v3 : Int32} {v4 : Int32} {v5 : Int32} {t0 : Int32} {σ : St} {r : St} (w0 : P v0) (w1 : P (ch v0 24)) (h : Mo_putMemory_B77 v0 v1 v2 v3 v4 v5 t0 σ = some r) : Fr P σ r := by
  unfold Mo_putMemory_B77 at h
  rcases ite_some h with ⟨_, h⟩ | ⟨_, h⟩
  · exact Fr.trans Fr.refl (fr_Mo_putMemory_B104  w0 w1 h)
  · rcases ite_some h with ⟨_, h⟩ | ⟨_, h⟩
    · exact Fr.trans Fr.refl (fr_Mo_putMemory_B104  w0 w1 h)
    · rcases ite_some h with ⟨_, h⟩ | ⟨_, h⟩
      · exact Fr.trans Fr.refl (fr_Mo_putMemory_B104  w0 w1 h)
      · exact Fr.trans Fr.refl (fr_Mo_putMemory_B104  w0 w1 h)
theorem fr_Mo_putMemory_B44 {P : Nat → Prop} {v0 : Nat} {v1 : Int32} {v2 : Int32} {v3 : Int32} {v4 : Int32} {v5 : Int32} {σ : St} {r : St} (w0 : P v0) (w1 : P (ch v0 24)) (h : Mo_putMemory_B44 v0 v1 v2 v3 v4 v5 σ = some r) : Fr P σ r := by
  unfold Mo_putMemory_B44 at h
  rcases ite_some h with ⟨_, h⟩ | ⟨_, h⟩
  · exact Fr.trans Fr.refl (fr_Mo_putMemory_B77  w0 w1 h)
  · rcases ite_some h with ⟨_, h⟩ | ⟨_, h⟩
    · obtain ⟨_, σ1, e1, h⟩ := cl_some h
      have f1 : Fr P _ _ := Fr.trans Fr.refl (fr_Mo_isSmall   e1)
      rcases ite_some h with ⟨_, h⟩ | ⟨_, h⟩
      · exact Fr.trans f1 (fr_Mo_putMemory_B77  w0 w1 h)
      · exact Fr.trans f1 (fr_Mo_putMemory_B77  w0 w1 h)
    · rcases ite_some h with ⟨_, h⟩ | ⟨_, h⟩
      · obtain ⟨_, σ3, e3, h⟩ := cl_some h
        have f3 : Fr P _ _ := Fr.trans Fr.refl (fr_Mo_isSmall   e3)
        rcases ite_some h with ⟨_, h⟩ | ⟨_, h⟩
        · exact Fr.trans f3 (fr_Mo_putMemory_B77  w0 w1 h)
        · exact Fr.trans f3 (fr_Mo_putMemory_B77  w0 w1 h)
      · exact Fr.trans Fr.refl (fr_Mo_putMemory_B77  w0 w1 h)
theorem fr_Mo_putMemory {P : Nat → Prop} {v0 : Nat} {v1 : Int32} {v2 : Int32} {v3 : Int32} {σ : St} {r : St} (w0 : P v0) (w1 : P (ch v0 24)) (h : Mo_putMemory v0 v1 v2 v3 σ = some r) : Fr P σ r := by
  unfold Mo_putMemory at h
  replace h := nm_some h
  replace h := nm_some h
  rcases ite_some h with ⟨_, h⟩ | ⟨_, h⟩
  · exact Fr.trans Fr.refl (fr_Mo_putMemory_B44  w0 w1 h)
  · rcases ite_some h with ⟨_, h⟩ | ⟨_, h⟩
    · exact Fr.trans Fr.refl (fr_Mo_putMemory_B44  w0 w1 h)
    · obtain ⟨σ3, e3, h⟩ := cv_some h
      have f3 : Fr P _ _ := Fr.trans Fr.refl (fr_Mo_put  w0 w1 e3)
      obtain ⟨σ4, e4, h⟩ := cv_some h
      have f4 : Fr P _ _ := Fr.trans f3 (fr_Mo_putFour  w0 w1 e4)
      rw [← Option.some.inj h]; exact f4
theorem fr_Mo_leftCode {P : Nat → Prop} {v0 : Int32} {σ : St} {r : Int32 × St} (h : Mo_leftCode v0 σ = some r) : Fr P σ r.2 := by
  unfold Mo_leftCode at h
  rcases ite_some h with ⟨_, h⟩ | ⟨_, h⟩
  · rcases ite_some h with ⟨_, h⟩ | ⟨_, h⟩
    · rw [← Option.some.inj h]; exact Fr.refl
    · rw [← Option.some.inj h]; exact Fr.refl
  · rw [← Option.some.inj h]; exact Fr.refl
theorem fr_Mo_encodeNumber_B197 {P : Nat → Prop} {v0 : Nat} {v5 : Int32} {v9 : Int32} {σ : St} {r : St} (w0 : P v0) (w1 : P (ch v0 24)) (h : Mo_encodeNumber_B197 v0 v5 v9 σ = some r) : Fr P σ r := by
  unfold Mo_encodeNumber_B197 at h
  rcases ite_some h with ⟨_, h⟩ | ⟨_, h⟩
  · obtain ⟨σ1, e1, h⟩ := cv_some h
    have f1 : Fr P _ _ := Fr.trans Fr.refl (fr_Mo_putFour  w0 w1 e1)
    rw [← Option.some.inj h]; exact f1
  · obtain ⟨σ2, e2, h⟩ := cv_some h
    have f2 : Fr P _ _ := Fr.trans Fr.refl (fr_Mo_put  w0 w1 e2)
    rw [← Option.some.inj h]; exact f2
theorem fr_Mo_encodeNumber_B165 {P : Nat → Prop} {v0 : Nat} {v1 : Int32} {v3 : Int32} {v4 : Int32} {v5 : Int32} {v6 : Int32} {v8 : Int32} {v9 : Int32} {t0 : Nat} {t1 : Int32} {σ : St} {r : St} (w0 : P t0) (w1 : P (ch t0 24)) (w2 : P v0) (w3 : P (ch v0 24)) (h : Mo_encodeNumber_B165 v0 v1 v3 v4 v5 v6 v8 v9 t0 t1 σ = some r) : Fr P σ r := by
  unfold Mo_encodeNumber_B165 at h
  obtain ⟨σ1, e1, h⟩ := cv_some h
  have f1 : Fr P _ _ := Fr.trans Fr.refl (fr_Mo_put  w0 w1 e1)
  rcases ite_some h with ⟨_, h⟩ | ⟨_, h⟩
  · replace h := (ld_some h).2
    obtain ⟨σ3, e3, h⟩ := cv_some h
    have f3 : Fr P _ _ := Fr.trans f1 (fr_Mo_putMemory  w2 w3 e3)
    exact Fr.trans f3 (fr_Mo_encodeNumber_B197  w2 w3 h)
  · obtain ⟨σ4, e4, h⟩ := cv_some h
    have f4 : Fr P _ _ := Fr.trans f1 (fr_Mo_putRegister  w2 w3 e4)
    exact Fr.trans f4 (fr_Mo_encodeNumber_B197  w2 w3 h)
theorem fr_Mo_encodeNumber_B125 {P : Nat → Prop} {v0 : Nat} {v1 : Int32} {v2 : Int32} {v3 : Int32} {v4 : Int32} {v5 : Int32} {v6 : Int32} {v7 : Int32} {v8 : Int32} {t0 : Int32} {σ : St} {r : St} (w0 : P v0) (w1 : P (ch v0 24)) (h : Mo_encodeNumber_B125 v0 v1 v2 v3 v4 v5 v6 v7 v8 t0 σ = some r) : Fr P σ r := by
  unfold Mo_encodeNumber_B125 at h
  rcases ite_some h with ⟨_, h⟩ | ⟨_, h⟩
  · rcases ite_some h with ⟨_, h⟩ | ⟨_, h⟩
    · rcases ite_some h with ⟨_, h⟩ | ⟨_, h⟩
      · exact Fr.trans Fr.refl (fr_Mo_encodeNumber_B165  w0 w1 w0 w1 h)
      · exact Fr.trans Fr.refl (fr_Mo_encodeNumber_B165  w0 w1 w0 w1 h)
    · exact Fr.trans Fr.refl (fr_Mo_encodeNumber_B165  w0 w1 w0 w1 h)
  · exact Fr.trans Fr.refl (fr_Mo_encodeNumber_B165  w0 w1 w0 w1 h)
theorem fr_Mo_encodeNumber_B99 {P : Nat → Prop} {v0 : Nat} {v1 : Int32} {v2 : Int32} {v3 : Int32} {v4 : Int32} {v5 : Int32} {v6 : Int32} {v7 : Int32} {t0 : Int32} {σ : St} {r : St} (w0 : P v0) (w1 : P (ch v0 24)) (h : Mo_encodeNumber_B99 v0 v1 v2 v3 v4 v5 v6 v7 t0 σ = some r) : Fr P σ r := by
  unfold Mo_encodeNumber_B99 at h
  rcases ite_some h with ⟨_, h⟩ | ⟨_, h⟩
  · exact Fr.trans Fr.refl (fr_Mo_encodeNumber_B125  w0 w1 h)
  · rcases ite_some h with ⟨_, h⟩ | ⟨_, h⟩
    · exact Fr.trans Fr.refl (fr_Mo_encodeNumber_B125  w0 w1 h)
    · obtain ⟨_, σ1, e1, h⟩ := cl_some h
      have f1 : Fr P _ _ := Fr.trans Fr.refl (fr_Mo_isSmall   e1)
      rcases ite_some h with ⟨_, h⟩ | ⟨_, h⟩
      · exact Fr.trans f1 (fr_Mo_encodeNumber_B125  w0 w1 h)
      · exact Fr.trans f1 (fr_Mo_encodeNumber_B125  w0 w1 h)
theorem fr_Mo_encodeNumber_B55 {P : Nat → Prop} {v0 : Nat} {v1 : Int32} {v2 : Int32} {v3 : Int32} {v4 : Int32} {v5 : Int32} {v6 : Int32} {t0 : Int32} {σ : St} {r : St} (w0 : P v0) (w1 : P (ch v0 24)) (h : Mo_encodeNumber_B55 v0 v1 v2 v3 v4 v5 v6 t0 σ = some r) : Fr P σ r := by
  unfold Mo_encodeNumber_B55 at h
  rcases ite_some h with ⟨_, h⟩ | ⟨_, h⟩
  · rcases ite_some h with ⟨_, h⟩ | ⟨_, h⟩
    · rcases ite_some h with ⟨_, h⟩ | ⟨_, h⟩
      · rcases ite_some h with ⟨_, h⟩ | ⟨_, h⟩
        · exact Fr.trans Fr.refl (fr_Mo_encodeNumber_B99  w0 w1 h)
        · exact Fr.trans Fr.refl (fr_Mo_encodeNumber_B99  w0 w1 h)
      · exact Fr.trans Fr.refl (fr_Mo_encodeNumber_B99  w0 w1 h)
    · exact Fr.trans Fr.refl (fr_Mo_encodeNumber_B99  w0 w1 h)
  · exact Fr.trans Fr.refl (fr_Mo_encodeNumber_B99  w0 w1 h)
theorem fr_Mo_encodeNumber_B15 {P : Nat → Prop} {v0 : Nat} {v1 : Int32} {v2 : Int32} {v3 : Int32} {v4 : Int32} {v5 : Int32} {t0 : Int32} {σ : St} {r : St} (w0 : P v0) (w1 : P (ch v0 24)) (h : Mo_encodeNumber_B15 v0 v1 v2 v3 v4 v5 t0 σ = some r) : Fr P σ r := by
  unfold Mo_encodeNumber_B15 at h
  rcases ite_some h with ⟨_, h⟩ | ⟨_, h⟩
  · rcases ite_some h with ⟨_, h⟩ | ⟨_, h⟩
    · exact Fr.trans Fr.refl (fr_Mo_encodeNumber_B55  w0 w1 h)
    · exact Fr.trans Fr.refl (fr_Mo_encodeNumber_B55  w0 w1 h)
  · rcases ite_some h with ⟨_, h⟩ | ⟨_, h⟩
    · rcases ite_some h with ⟨_, h⟩ | ⟨_, h⟩
      · exact Fr.trans Fr.refl (fr_Mo_encodeNumber_B55  w0 w1 h)
      · exact Fr.trans Fr.refl (fr_Mo_encodeNumber_B55  w0 w1 h)
    · obtain ⟨σ1, e1, h⟩ := cv_some h
      have f1 : Fr P _ _ := Fr.trans Fr.refl (fr_Mo_put  w0 w1 e1)
      obtain ⟨σ2, e2, h⟩ := cv_some h
      have f2 : Fr P _ _ := Fr.trans f1 (fr_Mo_putFour  w0 w1 e2)
      rw [← Option.some.inj h]; exact f2
theorem fr_Mo_encodeNumber {P : Nat → Prop} {v0 : Nat} {v1 : Int32} {v2 : Int32} {v3 : Int32} {v4 : Int32} {v5 : Int32} {σ : St} {r : St} (w0 : P v0) (w1 : P (ch v0 24)) (h : Mo_encodeNumber v0 v1 v2 v3 v4 v5 σ = some r) : Fr P σ r := by
  unfold Mo_encodeNumber at h
  replace h := (ld_some h).2
  rcases ite_some h with ⟨_, h⟩ | ⟨_, h⟩
  · exact Fr.trans Fr.refl (fr_Mo_encodeNumber_B15  w0 w1 h)
  · exact Fr.trans Fr.refl (fr_Mo_encodeNumber_B15  w0 w1 h)
theorem fr_Mo_encode_B126 {P : Nat → Prop} {v0 : Nat} {v2 : Int32} {v3 : Int32} {σ : St} {r : St} (w0 : P v0) (w1 : P (ch v0 24)) (h : Mo_encode_B126 v0 v2 v3 σ = some r) : Fr P σ r := by
  unfold Mo_encode_B126 at h
  obtain ⟨σ1, e1, h⟩ := cv_some h
  have f1 : Fr P _ _ := Fr.trans Fr.refl (fr_Mo_put  w0 w1 e1)
  obtain ⟨σ2, e2, h⟩ := cv_some h
  have f2 : Fr P _ _ := Fr.trans f1 (fr_Mo_putRegister  w0 w1 e2)
  rw [← Option.some.inj h]; exact f2
theorem fr_Mo_encode_B266 {P : Nat → Prop} {v0 : Nat} {v1 : Int32} {v3 : Int32} {v4 : Int32} {t0 : Nat} {t1 : Int32} {σ : St} {r : St} (w0 : P t0) (w1 : P (ch t0 24)) (w2 : P v0) (w3 : P (ch v0 24)) (h : Mo_encode_B266 v0 v1 v3 v4 t0 t1 σ = some r) : Fr P σ r := by
  unfold Mo_encode_B266 at h
  obtain ⟨σ1, e1, h⟩ := cv_some h
  have f1 : Fr P _ _ := Fr.trans Fr.refl (fr_Mo_put  w0 w1 e1)
  replace h := (ld_some h).2
  obtain ⟨σ3, e3, h⟩ := cv_some h
  have f3 : Fr P _ _ := Fr.trans f1 (fr_Mo_putMemory  w2 w3 e3)
  rw [← Option.some.inj h]; exact f3
theorem fr_Mo_encode_B223 {P : Nat → Prop} {v0 : Nat} {v1 : Int32} {v2 : Int32} {v3 : Int32} {v4 : Int32} {σ : St} {r : St} (w0 : P v0) (w1 : P (ch v0 24)) (h : Mo_encode_B223 v0 v1 v2 v3 v4 σ = some r) : Fr P σ r := by
  unfold Mo_encode_B223 at h
  rcases ite_some h with ⟨_, h⟩ | ⟨_, h⟩
  · rcases ite_some h with ⟨_, h⟩ | ⟨_, h⟩
    · rcases ite_some h with ⟨_, h⟩ | ⟨_, h⟩
      · exact Fr.trans Fr.refl (fr_Mo_encode_B266  w0 w1 w0 w1 h)
      · exact Fr.trans Fr.refl (fr_Mo_encode_B266  w0 w1 w0 w1 h)
    · exact Fr.trans Fr.refl (fr_Mo_encode_B266  w0 w1 w0 w1 h)
  · exact Fr.trans Fr.refl (fr_Mo_encode_B266  w0 w1 w0 w1 h)
theorem fr_Mo_encode_B351 {P : Nat → Prop} {v0 : Nat} {v5 : Int32} {t0 : Nat} {t1 : Int32} {σ : St} {r : St} (w0 : P t0) (w1 : P (ch t0 24)) (w2 : P v0) (w3 : P (ch v0 24)) (h : Mo_encode_B351 v0 v5 t0 t1 σ = some r) : Fr P σ r := by
  unfold Mo_encode_B351 at h
  obtain ⟨σ1, e1, h⟩ := cv_some h
  have f1 : Fr P _ _ := Fr.trans Fr.refl (fr_Mo_put  w0 w1 e1)
  obtain ⟨_, σ2, e2, h⟩ := cl_some h
  have f2 : Fr P _ _ := Fr.trans f1 (fr_Mo_isSmall   e2)
  rcases ite_some h with ⟨_, h⟩ | ⟨_, h⟩
  · obtain ⟨σ4, e4, h⟩ := cv_some h
    have f4 : Fr P _ _ := Fr.trans f2 (fr_Mo_putFour  w2 w3 e4)
    rw [← Option.some.inj h]; exact f4
  · obtain ⟨σ5, e5, h⟩ := cv_some h
    have f5 : Fr P _ _ := Fr.trans f2 (fr_Mo_put  w2 w3 e5)
    rw [← Option.some.inj h]; exact f5
theorem fr_Mo_encode_B380 {P : Nat → Prop} {v0 : Nat} {v1 : Int32} {v2 : Int32} {v3 : Int32} {v4 : Int32} {v5 : Int32} {σ : St} {r : St} (w0 : P v0) (w1 : P (ch v0 24)) (h : Mo_encode_B380 v0 v1 v2 v3 v4 v5 σ = some r) : Fr P σ r := by
  unfold Mo_encode_B380 at h
  obtain ⟨σ1, e1, h⟩ := cv_some h
  have f1 : Fr P _ _ := Fr.trans Fr.refl (fr_Mo_encodeNumber  w0 w1 e1)
  rw [← Option.some.inj h]; exact f1
theorem fr_Mo_encode {P : Nat → Prop} {v0 : Nat} {v1 : Int32} {σ : St} {r : St} (w0 : P v0) (w1 : P (ch v0 24)) (h : Mo_encode v0 v1 σ = some r) : Fr P σ r := by
  unfold Mo_encode at h
  replace h := (ld_some h).2
  replace h := (ld_some h).2
  replace h := (ld_some h).2
  replace h := (ld_some h).2
  replace h := nm_some h
  replace h := (ld_some h).2
  rcases ite_some h with ⟨_, h⟩ | ⟨_, h⟩
  · rcases ite_some h with ⟨_, h⟩ | ⟨_, h⟩
    · obtain ⟨σ7, e7, h⟩ := cv_some h
      have f7 : Fr P _ _ := Fr.trans (Fr.s2 w0 Fr.refl) (fr_Mo_put  w0 w1 e7)
      rw [← Option.some.inj h]; exact f7
    · obtain ⟨σ8, e8, h⟩ := cv_some h
      have f8 : Fr P _ _ := Fr.trans (Fr.s2 w0 Fr.refl) (fr_Mo_put  w0 w1 e8)
      rw [← Option.some.inj h]; exact f8
  · rcases ite_some h with ⟨_, h⟩ | ⟨_, h⟩
    · rcases ite_some h with ⟨_, h⟩ | ⟨_, h⟩
      · exact Fr.trans (Fr.s2 w0 Fr.refl) (fr_Mo_encode_B126  w0 w1 h)
      · rcases ite_some h with ⟨_, h⟩ | ⟨_, h⟩
        · obtain ⟨σ9, e9, h⟩ := cv_some h
          have f9 : Fr P _ _ := Fr.trans (Fr.s2 w0 Fr.refl) (fr_Mo_put  w0 w1 e9)
          rw [← Option.some.inj h]; exact f9
        · exact Fr.trans (Fr.s2 w0 Fr.refl) (fr_Mo_encode_B126  w0 w1 h)
    · rcases ite_some h with ⟨_, h⟩ | ⟨_, h⟩
      · rcases ite_some h with ⟨_, h⟩ | ⟨_, h⟩
        · obtain ⟨_, σ10, e10, h⟩ := cl_some h
          have f10 : Fr P _ _ := Fr.trans (Fr.s2 w0 Fr.refl) (fr_Mo_leftCode   e10)
          obtain ⟨σ12, e12, h⟩ := cv_some h
          have f12 : Fr P _ _ := Fr.trans f10 (fr_Mo_put  w0 w1 e12)
          obtain ⟨σ13, e13, h⟩ := cv_some h
          have f13 : Fr P _ _ := Fr.trans f12 (fr_Mo_putRegister  w0 w1 e13)
          rw [← Option.some.inj h]; exact f13
        · obtain ⟨σ14, e14, h⟩ := cv_some h
          have f14 : Fr P _ _ := Fr.trans (Fr.s2 w0 Fr.refl) (fr_Mo_put  w0 w1 e14)
          obtain ⟨σ15, e15, h⟩ := cv_some h
          have f15 : Fr P _ _ := Fr.trans f14 (fr_Mo_put  w0 w1 e15)
          obtain ⟨σ16, e16, h⟩ := cv_some h
          have f16 : Fr P _ _ := Fr.trans f15 (fr_Mo_putRegister  w0 w1 e16)
          rw [← Option.some.inj h]; exact f16
      · rcases ite_some h with ⟨_, h⟩ | ⟨_, h⟩
        · rcases ite_some h with ⟨_, h⟩ | ⟨_, h⟩
          · exact Fr.trans (Fr.s2 w0 Fr.refl) (fr_Mo_encode_B223  w0 w1 h)
          · obtain ⟨σ17, e17, h⟩ := cv_some h
            have f17 : Fr P _ _ := Fr.trans (Fr.s2 w0 Fr.refl) (fr_Mo_put  w0 w1 e17)
            exact Fr.trans f17 (fr_Mo_encode_B223  w0 w1 h)
        · rcases ite_some h with ⟨_, h⟩ | ⟨_, h⟩
          · obtain ⟨_, σ18, e18, h⟩ := cl_some h
            have f18 : Fr P _ _ := Fr.trans (Fr.s2 w0 Fr.refl) (fr_Mo_leftCode   e18)
            obtain ⟨σ20, e20, h⟩ := cv_some h
            have f20 : Fr P _ _ := Fr.trans f18 (fr_Mo_put  w0 w1 e20)
            replace h := (ld_some h).2
            obtain ⟨σ22, e22, h⟩ := cv_some h
            have f22 : Fr P _ _ := Fr.trans f20 (fr_Mo_putMemory  w0 w1 e22)
            rw [← Option.some.inj h]; exact f22
          · rcases ite_some h with ⟨_, h⟩ | ⟨_, h⟩
            · exact Fr.trans (Fr.s2 w0 Fr.refl) (fr_Mo_encode_B380  w0 w1 h)
            · rcases ite_some h with ⟨_, h⟩ | ⟨_, h⟩
              · exact Fr.trans (Fr.s2 w0 Fr.refl) (fr_Mo_encode_B380  w0 w1 h)
              · rcases ite_some h with ⟨_, h⟩ | ⟨_, h⟩
                · obtain ⟨σ23, e23, h⟩ := cv_some h
                  have f23 : Fr P _ _ := Fr.trans (Fr.s2 w0 Fr.refl) (fr_Mo_put  w0 w1 e23)
                  replace h := (ld_some h).2
                  obtain ⟨σ25, e25, h⟩ := cv_some h
                  have f25 : Fr P _ _ := Fr.trans f23 (fr_Mo_putMemory  w0 w1 e25)
                  rw [← Option.some.inj h]; exact f25
                · rcases ite_some h with ⟨_, h⟩ | ⟨_, h⟩
                  · obtain ⟨_, σ26, e26, h⟩ := cl_some h
                    have f26 : Fr P _ _ := Fr.trans (Fr.s2 w0 Fr.refl) (fr_Mo_isSmall   e26)
                    rcases ite_some h with ⟨_, h⟩ | ⟨_, h⟩
                    · exact Fr.trans f26 (fr_Mo_encode_B351  w0 w1 w0 w1 h)
                    · exact Fr.trans f26 (fr_Mo_encode_B351  w0 w1 w0 w1 h)
                  · exact Fr.trans (Fr.s2 w0 Fr.refl) (fr_Mo_encode_B380  w0 w1 h)
theorem fr_Mo_lay_B58 {P : Nat → Prop} {v0 : Nat} {v1 : Int32} {σ : St} {r : Int32 × St} (w0 : P v0) (h : Mo_lay_B58 v0 v1 σ = some r) : Fr P σ r.2 := by
  unfold Mo_lay_B58 at h
  replace h := nm_some h
  replace h := nm_some h
  rw [← Option.some.inj h]; exact (Fr.s2 w0 Fr.refl)
theorem fr_Mo_lay_B33 {P : Nat → Prop} {v0 : Nat} {v1 : Int32} {v2 : Int32} {σ : St} {r : Int32 × St} (w0 : P v0) (h : Mo_lay_B33 v0 v1 v2 σ = some r) : Fr P σ r.2 := by
  unfold Mo_lay_B33 at h
  rcases ite_some h with ⟨_, h⟩ | ⟨_, h⟩
  · exact Fr.trans Fr.refl (fr_Mo_lay_B58  w0 h)
  · replace h := nm_some h
    exact Fr.trans (Fr.s2 w0 Fr.refl) (fr_Mo_lay_B58  w0 h)
theorem fr_Mo_lay {P : Nat → Prop} {v0 : Nat} {v1 : Int32} {v2 : Int32} {σ : St} {r : Int32 × St} (w0 : P v0) (h : Mo_lay v0 v1 v2 σ = some r) : Fr P σ r.2 := by
  unfold Mo_lay at h
  rcases ite_some h with ⟨_, h⟩ | ⟨_, h⟩
  · exact Fr.trans Fr.refl (fr_Mo_lay_B33  w0 h)
  · replace h := nm_some h
    exact Fr.trans (Fr.s2 w0 Fr.refl) (fr_Mo_lay_B33  w0 h)
theorem fr_Mo_sizeOf {P : Nat → Prop} {v0 : Nat} {v1 : Int32} {σ : St} {r : Int32 × St} (w0 : P v0) (w1 : P (ch v0 24)) (h : Mo_sizeOf v0 v1 σ = some r) : Fr P σ r.2 := by
  unfold Mo_sizeOf at h
  replace h := (ld_some h).2
  rcases ite_some h with ⟨_, h⟩ | ⟨_, h⟩
  · replace h := (ld_some h).2
    rcases ite_some h with ⟨_, h⟩ | ⟨_, h⟩
    · rw [← Option.some.inj h]; exact Fr.refl
    · rw [← Option.some.inj h]; exact Fr.refl
  · rcases ite_some h with ⟨_, h⟩ | ⟨_, h⟩
    · replace h := (ld_some h).2
      rcases ite_some h with ⟨_, h⟩ | ⟨_, h⟩
      · rw [← Option.some.inj h]; exact Fr.refl
      · rw [← Option.some.inj h]; exact Fr.refl
    · rcases ite_some h with ⟨_, h⟩ | ⟨_, h⟩
      · obtain ⟨σ4, e4, h⟩ := cv_some h
        have f4 : Fr P _ _ := Fr.trans Fr.refl (fr_Mo_encode  w0 w1 e4)
        rw [← Option.some.inj h]; exact f4
      · rw [← Option.some.inj h]; exact Fr.refl
theorem fr_Mo_layAll_B65 {P : Nat → Prop} {K7 : Nat → Int32 → St → Option (St)} (hK7 : ∀ (v0 : Nat) (v1 : Int32) (σ : St) (r : St), P v0 → P (ch v0 18) → P (ch v0 19) → P (ch v0 24) → K7 v0 v1 σ = some r → Fr P σ r) {v0 : Nat} {v1 : Int32} {σ : St} {r : St} (w0 : P v0) (w1 : P (ch v0 18)) (w2 : P (ch v0 19)) (w3 : P (ch v0 24)) (h : Mo_layAll_B65 K7 v0 v1 σ = some r) : Fr P σ r := by
  unfold Mo_layAll_B65 at h
  replace h := (sa_some h).2
  replace h := (ld_some h).2
  replace h := (sa_some h).2
  replace h := nm_some h
  exact Fr.trans (Fr.s2 w2 (Fr.s2 w1 Fr.refl)) (hK7 _ _ _ _ w0 w1 w2 w3 h)
theorem fr_Mo_layAll_B7 {P : Nat → Prop} : ∀ (n : Nat) (v0 : Nat) (v1 : Int32) (σ : St) (r : St), P v0 → P (ch v0 18) → P (ch v0 19) → P (ch v0 24) → Mo_layAll_B7 n v0 v1 σ = some r → Fr P σ r := by
  intro n
  induction n with
  | zero => intro v0 v1 σ r w0 w1 w2 w3 h; unfold Mo_layAll_B7 at h; cases h
  | succ n ih =>
    intro v0 v1 σ r w0 w1 w2 w3 h
    unfold Mo_layAll_B7 at h
    rcases ite_some h with ⟨_, h⟩ | ⟨_, h⟩
    · rw [← Option.some.inj h]; exact Fr.refl
    · replace h := (ld_some h).2
      rcases ite_some h with ⟨_, h⟩ | ⟨_, h⟩
      · rcases ite_some h with ⟨_, h⟩ | ⟨_, h⟩
        · obtain ⟨_, σ2, e2, h⟩ := cl_some h
          have f2 : Fr P _ _ := Fr.trans Fr.refl (fr_Mo_sizeOf  w0 w3 e2)
          rcases ite_some h with ⟨_, h⟩ | ⟨_, h⟩
          · obtain ⟨_, σ4, e4, h⟩ := cl_some h
            have f4 : Fr P _ _ := Fr.trans f2 (fr_Mo_lay  w0 e4)
            replace h := (sa_some h).2
            replace h := nm_some h
            exact Fr.trans (Fr.s2 w1 f4) (ih _ _ _ _ w0 w1 w2 w3 h)
          · rcases ite_some h with ⟨_, h⟩ | ⟨_, h⟩
            · obtain ⟨_, σ8, e8, h⟩ := cl_some h
              have f8 : Fr P _ _ := Fr.trans f2 (fr_Mo_lay  w0 e8)
              replace h := (sa_some h).2
              replace h := nm_some h
              exact Fr.trans (Fr.s2 w1 f8) (ih _ _ _ _ w0 w1 w2 w3 h)
            · rcases ite_some h with ⟨_, h⟩ | ⟨_, h⟩
              · obtain ⟨_, σ12, e12, h⟩ := cl_some h
                have f12 : Fr P _ _ := Fr.trans f2 (fr_Mo_lay  w0 e12)
                replace h := (sa_some h).2
                replace h := nm_some h
                exact Fr.trans (Fr.s2 w1 f12) (ih _ _ _ _ w0 w1 w2 w3 h)
              · obtain ⟨_, σ16, e16, h⟩ := cl_some h
                have f16 : Fr P _ _ := Fr.trans f2 (fr_Mo_lay  w0 e16)
                replace h := (sa_some h).2
                replace h := nm_some h
                exact Fr.trans (Fr.s2 w1 f16) (ih _ _ _ _ w0 w1 w2 w3 h)
        · obtain ⟨_, σ20, e20, h⟩ := cl_some h
          have f20 : Fr P _ _ := Fr.trans Fr.refl (fr_Mo_lay  w0 e20)
          replace h := (sa_some h).2
          obtain ⟨_, σ23, e23, h⟩ := cl_some h
          have f23 : Fr P _ _ := Fr.trans (Fr.s2 w1 f20) (fr_Mo_lay  w0 e23)
          replace h := nm_some h
          exact Fr.trans f23 (ih _ _ _ _ w0 w1 w2 w3 h)
      · replace h := (ld_some h).2
        rcases ite_some h with ⟨_, h⟩ | ⟨_, h⟩
        · exact Fr.trans Fr.refl (fr_Mo_layAll_B65 ih w0 w1 w2 w3 h)
        · rcases ite_some h with ⟨_, h⟩ | ⟨_, h⟩
          · exact Fr.trans Fr.refl (fr_Mo_layAll_B65 ih w0 w1 w2 w3 h)
          · replace h := nm_some h
            exact Fr.trans (Fr.s2 w0 Fr.refl) (fr_Mo_layAll_B65 ih w0 w1 w2 w3 h)
theorem fr_Mo_layAll {P : Nat → Prop} {v0 : Nat} {σ : St} {r : St} (w0 : P v0) (w1 : P (ch v0 18)) (w2 : P (ch v0 19)) (w3 : P (ch v0 24)) (h : Mo_layAll v0 σ = some r) : Fr P σ r := by
  unfold Mo_layAll at h
  replace h := nm_some h
  exact Fr.trans (Fr.s2 w0 Fr.refl) (fr_Mo_layAll_B7  _ _ _ _ _ w0 w1 w2 w3 h)
theorem fr_Mo_far {P : Nat → Prop} {v0 : Nat} {v1 : Int32} {σ : St} {r : Int32 × St} (w0 : P v0) (w1 : P (ch v0 24)) (h : Mo_far v0 v1 σ = some r) : Fr P σ r.2 := by
  unfold Mo_far at h
  replace h := (ld_some h).2
  replace h := (ld_some h).2
  replace h := (ld_some h).2
  obtain ⟨_, σ4, e4, h⟩ := cl_some h
  have f4 : Fr P _ _ := Fr.trans Fr.refl (fr_Mo_sizeOf  w0 w1 e4)
  rw [← Option.some.inj h]; exact f4
theorem fr_Mo_lengthens_B72 {P : Nat → Prop} : ∀ (n : Nat) (v0 : Nat) (v1 : Int32) (v2 : Int32) (σ : St) (r : Int32 × St), P (ch v0 21) → Mo_lengthens_B72 n v0 v1 v2 σ = some r → Fr P σ r.2 := by
  intro n
  induction n with
  | zero => intro v0 v1 v2 σ r w0 h; unfold Mo_lengthens_B72 at h; cases h
  | succ n ih =>
    intro v0 v1 v2 σ r w0 h
    unfold Mo_lengthens_B72 at h
    rcases ite_some h with ⟨_, h⟩ | ⟨_, h⟩
    · replace h := (zb_some h).2
      rw [← Option.some.inj h]; exact Fr.refl
    · replace h := (ld_some h).2
      rcases ite_some h with ⟨_, h⟩ | ⟨_, h⟩
      · replace h := (sa_some h).2
        replace h := nm_some h
        exact Fr.trans (Fr.s2 w0 Fr.refl) (ih _ _ _ _ _ w0 h)
      · replace h := (ld_some h).2
        rcases ite_some h with ⟨_, h⟩ | ⟨_, h⟩
        · replace h := (sa_some h).2
          replace h := nm_some h
          exact Fr.trans (Fr.s2 w0 Fr.refl) (ih _ _ _ _ _ w0 h)
        · replace h := (sa_some h).2
          replace h := nm_some h
          exact Fr.trans (Fr.s2 w0 Fr.refl) (ih _ _ _ _ _ w0 h)
theorem fr_Mo_lengthens_B32 {P : Nat → Prop} {K4 : Nat → Int32 → Int32 → St → Option (Int32 × St)} (hK4 : ∀ (v0 : Nat) (v1 : Int32) (v2 : Int32) (σ : St) (r : Int32 × St), P v0 → P (ch v0 21) → P (ch v0 24) → P (ch v0 54) → K4 v0 v1 v2 σ = some r → Fr P σ r.2) {v0 : Nat} {v1 : Int32} {v2 : Int32} {σ : St} {r : Int32 × St} (w0 : P v0) (w1 : P (ch v0 21)) (w2 : P (ch v0 24)) (w3 : P (ch v0 54)) (h : Mo_lengthens_B32 K4 v0 v1 v2 σ = some r) : Fr P σ r.2 := by
  unfold Mo_lengthens_B32 at h
  replace h := (ld_some h).2
  rcases ite_some h with ⟨_, h⟩ | ⟨_, h⟩
  · replace h := nm_some h
    exact Fr.trans Fr.refl (hK4 _ _ _ _ _ w0 w1 w2 w3 h)
  · obtain ⟨_, σ3, e3, h⟩ := cl_some h
    have f3 : Fr P _ _ := Fr.trans Fr.refl (fr_Mo_far  w0 w2 e3)
    obtain ⟨_, σ5, e5, h⟩ := cl_some h
    have f5 : Fr P _ _ := Fr.trans f3 (fr_Mo_isSmall   e5)
    rcases ite_some h with ⟨_, h⟩ | ⟨_, h⟩
    · replace h := (sa_some h).2
      replace h := nm_some h
      exact Fr.trans (Fr.s2 w3 f5) (hK4 _ _ _ _ _ w0 w1 w2 w3 h)
    · replace h := nm_some h
      exact Fr.trans f5 (hK4 _ _ _ _ _ w0 w1 w2 w3 h)
theorem fr_Mo_lengthens_B4 {P : Nat → Prop} : ∀ (n : Nat) (v0 : Nat) (v1 : Int32) (v2 : Int32) (σ : St) (r : Int32 × St), P v0 → P (ch v0 21) → P (ch v0 24) → P (ch v0 54) → Mo_lengthens_B4 n v0 v1 v2 σ = some r → Fr P σ r.2 := by
  intro n
  induction n with
  | zero => intro v0 v1 v2 σ r w0 w1 w2 w3 h; unfold Mo_lengthens_B4 at h; cases h
  | succ n ih =>
    intro v0 v1 v2 σ r w0 w1 w2 w3 h
    unfold Mo_lengthens_B4 at h
    rcases ite_some h with ⟨_, h⟩ | ⟨_, h⟩
    · exact Fr.trans Fr.refl (fr_Mo_lengthens_B72  _ _ _ _ _ _ w1 h)
    · replace h := (ld_some h).2
      rcases ite_some h with ⟨_, h⟩ | ⟨_, h⟩
      · exact Fr.trans Fr.refl (fr_Mo_lengthens_B32 ih w0 w1 w2 w3 h)
      · replace h := (ld_some h).2
        rcases ite_some h with ⟨_, h⟩ | ⟨_, h⟩
        · replace h := nm_some h
          exact Fr.trans Fr.refl (ih _ _ _ _ _ w0 w1 w2 w3 h)
        · exact Fr.trans Fr.refl (fr_Mo_lengthens_B32 ih w0 w1 w2 w3 h)
theorem fr_Mo_lengthens {P : Nat → Prop} {v0 : Nat} {σ : St} {r : Int32 × St} (w0 : P v0) (w1 : P (ch v0 21)) (w2 : P (ch v0 24)) (w3 : P (ch v0 54)) (h : Mo_lengthens v0 σ = some r) : Fr P σ r.2 := by
  unfold Mo_lengthens at h
  exact Fr.trans Fr.refl (fr_Mo_lengthens_B4  _ _ _ _ _ _ w0 w1 w2 w3 h)
theorem fr_Mo_firstWrong_B153 {P : Nat → Prop} {K61 : Nat → Int32 → St → Option (Int32 × St)} (hK61 : ∀ (v0 : Nat) (v1 : Int32) (σ : St) (r : Int32 × St), K61 v0 v1 σ = some r → Fr P σ r.2) {v0 : Nat} {v1 : Int32} {v2 : Int32} {σ : St} {r : Int32 × St} (h : Mo_firstWrong_B153 K61 v0 v1 v2 σ = some r) : Fr P σ r.2 := by
  unfold Mo_firstWrong_B153 at h
  rcases ite_some h with ⟨_, h⟩ | ⟨_, h⟩
  · replace h := nm_some h
    exact Fr.trans Fr.refl (hK61 _ _ _ _  h)
  · replace h := (ld_some h).2
    replace h := (ld_some h).2
    replace h := (ld_some h).2
    rcases ite_some h with ⟨_, h⟩ | ⟨_, h⟩
    · replace h := nm_some h
      exact Fr.trans Fr.refl (hK61 _ _ _ _  h)
    · rw [← Option.some.inj h]; exact Fr.refl
theorem fr_Mo_firstWrong_B127 {P : Nat → Prop} {K61 : Nat → Int32 → St → Option (Int32 × St)} (hK61 : ∀ (v0 : Nat) (v1 : Int32) (σ : St) (r : Int32 × St), K61 v0 v1 σ = some r → Fr P σ r.2) {v0 : Nat} {v1 : Int32} {v2 : Int32} {t0 : Int32} {σ : St} {r : Int32 × St} (h : Mo_firstWrong_B127 K61 v0 v1 v2 t0 σ = some r) : Fr P σ r.2 := by
  unfold Mo_firstWrong_B127 at h
  rcases ite_some h with ⟨_, h⟩ | ⟨_, h⟩
  · exact Fr.trans Fr.refl (fr_Mo_firstWrong_B153 hK61  h)
  · replace h := (ld_some h).2
    replace h := (ld_some h).2
    rcases ite_some h with ⟨_, h⟩ | ⟨_, h⟩
    · exact Fr.trans Fr.refl (fr_Mo_firstWrong_B153 hK61  h)
    · rw [← Option.some.inj h]; exact Fr.refl
theorem fr_Mo_firstWrong_B101 {P : Nat → Prop} {K61 : Nat → Int32 → St → Option (Int32 × St)} (hK61 : ∀ (v0 : Nat) (v1 : Int32) (σ : St) (r : Int32 × St), K61 v0 v1 σ = some r → Fr P σ r.2) {v0 : Nat} {v1 : Int32} {v2 : Int32} {σ : St} {r : Int32 × St} (h : Mo_firstWrong_B101 K61 v0 v1 v2 σ = some r) : Fr P σ r.2 := by
  unfold Mo_firstWrong_B101 at h
  rcases ite_some h with ⟨_, h⟩ | ⟨_, h⟩
  · exact Fr.trans Fr.refl (fr_Mo_firstWrong_B127 hK61  h)
  · rcases ite_some h with ⟨_, h⟩ | ⟨_, h⟩
    · exact Fr.trans Fr.refl (fr_Mo_firstWrong_B127 hK61  h)
    · rcases ite_some h with ⟨_, h⟩ | ⟨_, h⟩
      · exact Fr.trans Fr.refl (fr_Mo_firstWrong_B127 hK61  h)
      · rcases ite_some h with ⟨_, h⟩ | ⟨_, h⟩
        · exact Fr.trans Fr.refl (fr_Mo_firstWrong_B127 hK61  h)
        · exact Fr.trans Fr.refl (fr_Mo_firstWrong_B127 hK61  h)
theorem fr_Mo_firstWrong_B61 {P : Nat → Prop} : ∀ (n : Nat) (v0 : Nat) (v1 : Int32) (σ : St) (r : Int32 × St), Mo_firstWrong_B61 n v0 v1 σ = some r → Fr P σ r.2 := by
  intro n
  induction n with
  | zero => intro v0 v1 σ r  h; unfold Mo_firstWrong_B61 at h; cases h
  | succ n ih =>
    intro v0 v1 σ r  h
    unfold Mo_firstWrong_B61 at h
    rcases ite_some h with ⟨_, h⟩ | ⟨_, h⟩
    · rw [← Option.some.inj h]; exact Fr.refl
    · replace h := (ld_some h).2
      rcases ite_some h with ⟨_, h⟩ | ⟨_, h⟩
      · exact Fr.trans Fr.refl (fr_Mo_firstWrong_B101 ih  h)
      · replace h := (ld_some h).2
        replace h := (ld_some h).2
        rcases ite_some h with ⟨_, h⟩ | ⟨_, h⟩
        · exact Fr.trans Fr.refl (fr_Mo_firstWrong_B101 ih  h)
        · rw [← Option.some.inj h]; exact Fr.refl
theorem fr_Mo_firstWrong_B28 {P : Nat → Prop} : ∀ (n : Nat) (v0 : Nat) (v1 : Int32) (σ : St) (r : Int32 × St), P (ch v0 20) → Mo_firstWrong_B28 n v0 v1 σ = some r → Fr P σ r.2 := by
  intro n
  induction n with
  | zero => intro v0 v1 σ r w0 h; unfold Mo_firstWrong_B28 at h; cases h
  | succ n ih =>
    intro v0 v1 σ r w0 h
    unfold Mo_firstWrong_B28 at h
    rcases ite_some h with ⟨_, h⟩ | ⟨_, h⟩
    · exact Fr.trans Fr.refl (fr_Mo_firstWrong_B61  _ _ _ _ _  h)
    · replace h := (ld_some h).2
      rcases ite_some h with ⟨_, h⟩ | ⟨_, h⟩
      · replace h := nm_some h
        exact Fr.trans Fr.refl (ih _ _ _ _ w0 h)
      · replace h := (ld_some h).2
        replace h := (sa_some h).2
        replace h := nm_some h
        exact Fr.trans (Fr.s2 w0 Fr.refl) (ih _ _ _ _ w0 h)
theorem fr_Mo_firstWrong_B2 {P : Nat → Prop} : ∀ (n : Nat) (v0 : Nat) (v1 : Int32) (σ : St) (r : Int32 × St), P (ch v0 20) → Mo_firstWrong_B2 n v0 v1 σ = some r → Fr P σ r.2 := by
  intro n
  induction n with
  | zero => intro v0 v1 σ r w0 h; unfold Mo_firstWrong_B2 at h; cases h
  | succ n ih =>
    intro v0 v1 σ r w0 h
    unfold Mo_firstWrong_B2 at h
    rcases ite_some h with ⟨_, h⟩ | ⟨_, h⟩
    · replace h := nm_some h
      exact Fr.trans Fr.refl (fr_Mo_firstWrong_B28  _ _ _ _ _ w0 h)
    · replace h := (sa_some h).2
      replace h := nm_some h
      exact Fr.trans (Fr.s2 w0 Fr.refl) (ih _ _ _ _ w0 h)
theorem fr_Mo_firstWrong {P : Nat → Prop} {v0 : Nat} {σ : St} {r : Int32 × St} (w0 : P (ch v0 20)) (h : Mo_firstWrong v0 σ = some r) : Fr P σ r.2 := by
  unfold Mo_firstWrong at h
  exact Fr.trans Fr.refl (fr_Mo_firstWrong_B2  _ _ _ _ _ w0 h)
theorem fr_Mo_keepProgram_B151 {P : Nat → Prop} : ∀ (n : Nat) (v0 : Nat) (v1 : Int32) (σ : St) (r : St), P v0 → P (ch v0 19) → P (ch v0 20) → Mo_keepProgram_B151 n v0 v1 σ = some r → Fr P σ r := by
  intro n
  induction n with
  | zero => intro v0 v1 σ r w0 w1 w2 h; unfold Mo_keepProgram_B151 at h; cases h
  | succ n ih =>
    intro v0 v1 σ r w0 w1 w2 h
    unfold Mo_keepProgram_B151 at h
    rcases ite_some h with ⟨_, h⟩ | ⟨_, h⟩
    · replace h := nm_some h
      rw [← Option.some.inj h]; exact (Fr.s2 w0 Fr.refl)
    · replace h := (ld_some h).2
      replace h := (sa_some h).2
      replace h := (ld_some h).2
      replace h := (sa_some h).2
      replace h := nm_some h
      exact Fr.trans (Fr.s2 w1 (Fr.s2 w2 Fr.refl)) (ih _ _ _ _ w0 w1 w2 h)
theorem fr_Mo_keepProgram_B15 {P : Nat → Prop} : ∀ (n : Nat) (v0 : Nat) (v1 : Int32) (σ : St) (r : St), P v0 → P (ch v0 11) → P (ch v0 12) → P (ch v0 13) → P (ch v0 14) → P (ch v0 15) → P (ch v0 16) → P (ch v0 17) → P (ch v0 18) → P (ch v0 19) → P (ch v0 20) → Mo_keepProgram_B15 n v0 v1 σ = some r → Fr P σ r := by
  intro n
  induction n with
  | zero => intro v0 v1 σ r w0 w1 w2 w3 w4 w5 w6 w7 w8 w9 w10 h; unfold Mo_keepProgram_B15 at h; cases h
  | succ n ih =>
    intro v0 v1 σ r w0 w1 w2 w3 w4 w5 w6 w7 w8 w9 w10 h
    unfold Mo_keepProgram_B15 at h
    rcases ite_some h with ⟨_, h⟩ | ⟨_, h⟩
    · exact Fr.trans Fr.refl (fr_Mo_keepProgram_B151  _ _ _ _ _ w0 w9 w10 h)
    · replace h := (ld_some h).2
      replace h := (sa_some h).2
      replace h := (ld_some h).2
      replace h := (sa_some h).2
      replace h := (ld_some h).2
      replace h := (sa_some h).2
      replace h := (ld_some h).2
      replace h := (sa_some h).2
      replace h := (ld_some h).2
      replace h := (sa_some h).2
      replace h := (ld_some h).2
      replace h := (sa_some h).2
      replace h := (ld_some h).2
      replace h := (sa_some h).2
      replace h := (ld_some h).2
      replace h := (sa_some h).2
      replace h := nm_some h
      exact Fr.trans (Fr.s2 w8 (Fr.s2 w7 (Fr.s2 w6 (Fr.s2 w5 (Fr.s2 w4 (Fr.s2 w3 (Fr.s2 w2 (Fr.s2 w1 Fr.refl)))))))) (ih _ _ _ _ w0 w1 w2 w3 w4 w5 w6 w7 w8 w9 w10 h)
theorem fr_Mo_keepProgram {P : Nat → Prop} {v0 : Nat} {σ : St} {r : St} (w0 : P v0) (w1 : P (ch v0 11)) (w2 : P (ch v0 12)) (w3 : P (ch v0 13)) (w4 : P (ch v0 14)) (w5 : P (ch v0 15)) (w6 : P (ch v0 16)) (w7 : P (ch v0 17)) (w8 : P (ch v0 18)) (w9 : P (ch v0 19)) (w10 : P (ch v0 20)) (h : Mo_keepProgram v0 σ = some r) : Fr P σ r := by
  unfold Mo_keepProgram at h
  replace h := nm_some h
  replace h := nm_some h
  exact Fr.trans (Fr.s2 w0 (Fr.s2 w0 Fr.refl)) (fr_Mo_keepProgram_B15  _ _ _ _ _ w0 w1 w2 w3 w4 w5 w6 w7 w8 w9 w10 h)
theorem fr_Mo_starting {P : Nat → Prop} {v0 : Nat} {v1 : Int32} {σ : St} {r : St} (w0 : P v0) (w1 : P (ch v0 54)) (h : Mo_starting v0 v1 σ = some r) : Fr P σ r := by
  unfold Mo_starting at h
  obtain ⟨_, σ1, e1, h⟩ := cl_some h
  have f1 : Fr P _ _ := Fr.trans Fr.refl (fr_Mo_keeps  w0 w1 e1)
  rw [← Option.some.inj h]; exact f1
theorem fr_Mo_copyBytes_B2 {P : Nat → Prop} : ∀ (n : Nat) (v0 : Nat) (v1 : Int32) (v2 : Int32) (σ : St) (r : St), P (ch v0 23) → Mo_copyBytes_B2 n v0 v1 v2 σ = some r → Fr P σ r := by
  intro n
  induction n with
  | zero => intro v0 v1 v2 σ r w0 h; unfold Mo_copyBytes_B2 at h; cases h
  | succ n ih =>
    intro v0 v1 v2 σ r w0 h
    unfold Mo_copyBytes_B2 at h
    rcases ite_some h with ⟨_, h⟩ | ⟨_, h⟩
    · rw [← Option.some.inj h]; exact Fr.refl
    · replace h := (ld_some h).2
      replace h := (sa_some h).2
      replace h := nm_some h
      exact Fr.trans (Fr.s2 w0 Fr.refl) (ih _ _ _ _ _ w0 h)
theorem fr_Mo_copyBytes {P : Nat → Prop} {v0 : Nat} {v1 : Int32} {σ : St} {r : St} (w0 : P (ch v0 23)) (h : Mo_copyBytes v0 v1 σ = some r) : Fr P σ r := by
  unfold Mo_copyBytes at h
  exact Fr.trans Fr.refl (fr_Mo_copyBytes_B2  _ _ _ _ _ _ w0 h)
theorem fr_Mo_putFar_B60 {P : Nat → Prop} {v0 : Nat} {v1 : Int32} {t0 : Int32} {t1 : Int32} {σ : St} {r : St} (w0 : P v0) (w1 : P (ch v0 24)) (h : Mo_putFar_B60 v0 v1 t0 t1 σ = some r) : Fr P σ r := by
  unfold Mo_putFar_B60 at h
  replace h := nm_some h
  replace h := (ld_some h).2
  rcases ite_some h with ⟨_, h⟩ | ⟨_, h⟩
  · obtain ⟨σ3, e3, h⟩ := cv_some h
    have f3 : Fr P _ _ := Fr.trans Fr.refl (fr_Mo_put  w0 w1 e3)
    rw [← Option.some.inj h]; exact f3
  · obtain ⟨σ4, e4, h⟩ := cv_some h
    have f4 : Fr P _ _ := Fr.trans Fr.refl (fr_Mo_putFour  w0 w1 e4)
    rw [← Option.some.inj h]; exact f4
theorem fr_Mo_putFar {P : Nat → Prop} {v0 : Nat} {v1 : Int32} {σ : St} {r : St} (w0 : P v0) (w1 : P (ch v0 24)) (h : Mo_putFar v0 v1 σ = some r) : Fr P σ r := by
  unfold Mo_putFar at h
  replace h := (ld_some h).2
  replace h := (ld_some h).2
  replace h := (ld_some h).2
  replace h := (ld_some h).2
  rcases ite_some h with ⟨_, h⟩ | ⟨_, h⟩
  · replace h := (ld_some h).2
    rcases ite_some h with ⟨_, h⟩ | ⟨_, h⟩
    · exact Fr.trans Fr.refl (fr_Mo_putFar_B60  w0 w1 h)
    · exact Fr.trans Fr.refl (fr_Mo_putFar_B60  w0 w1 h)
  · replace h := (ld_some h).2
    rcases ite_some h with ⟨_, h⟩ | ⟨_, h⟩
    · exact Fr.trans Fr.refl (fr_Mo_putFar_B60  w0 w1 h)
    · exact Fr.trans Fr.refl (fr_Mo_putFar_B60  w0 w1 h)
theorem fr_Mo_putPair {P : Nat → Prop} {v0 : Nat} {v1 : Int32} {v2 : Int32} {σ : St} {r : St} (w0 : P v0) (w1 : P (ch v0 24)) (h : Mo_putPair v0 v1 v2 σ = some r) : Fr P σ r := by
  unfold Mo_putPair at h
  obtain ⟨σ1, e1, h⟩ := cv_some h
  have f1 : Fr P _ _ := Fr.trans Fr.refl (fr_Mo_put  w0 w1 e1)
  obtain ⟨σ2, e2, h⟩ := cv_some h
  have f2 : Fr P _ _ := Fr.trans f1 (fr_Mo_put  w0 w1 e2)
  obtain ⟨σ3, e3, h⟩ := cv_some h
  have f3 : Fr P _ _ := Fr.trans f2 (fr_Mo_put  w0 w1 e3)
  obtain ⟨σ4, e4, h⟩ := cv_some h
  have f4 : Fr P _ _ := Fr.trans f3 (fr_Mo_put  w0 w1 e4)
  rcases ite_some h with ⟨_, h⟩ | ⟨_, h⟩
  · obtain ⟨σ5, e5, h⟩ := cv_some h
    have f5 : Fr P _ _ := Fr.trans f4 (fr_Mo_putRegister  w0 w1 e5)
    rw [← Option.some.inj h]; exact f5
  · obtain ⟨σ6, e6, h⟩ := cv_some h
    have f6 : Fr P _ _ := Fr.trans f4 (fr_Mo_putRegister  w0 w1 e6)
    rw [← Option.some.inj h]; exact f6
theorem fr_Mo_write_B106 {P : Nat → Prop} {v0 : Nat} {v1 : Int32} {v2 : Int32} {t0 : Nat} {t1 : Int32} {σ : St} {r : St} (w0 : P t0) (w1 : P (ch t0 24)) (w2 : P v0) (w3 : P (ch v0 23)) (w4 : P (ch v0 24)) (h : Mo_write_B106 v0 v1 v2 t0 t1 σ = some r) : Fr P σ r := by
  unfold Mo_write_B106 at h
  obtain ⟨σ1, e1, h⟩ := cv_some h
  have f1 : Fr P _ _ := Fr.trans Fr.refl (fr_Mo_put  w0 w1 e1)
  obtain ⟨σ2, e2, h⟩ := cv_some h
  have f2 : Fr P _ _ := Fr.trans f1 (fr_Mo_putFar  w2 w4 e2)
  obtain ⟨σ3, e3, h⟩ := cv_some h
  have f3 : Fr P _ _ := Fr.trans f2 (fr_Mo_copyBytes  w3 e3)
  rw [← Option.some.inj h]; exact f3
theorem fr_Mo_write_B150 {P : Nat → Prop} {v0 : Nat} {v1 : Int32} {v2 : Int32} {t0 : Nat} {t1 : Int32} {σ : St} {r : St} (w0 : P t0) (w1 : P (ch t0 24)) (w2 : P v0) (w3 : P (ch v0 23)) (w4 : P (ch v0 24)) (h : Mo_write_B150 v0 v1 v2 t0 t1 σ = some r) : Fr P σ r := by
  unfold Mo_write_B150 at h
  replace h := (ld_some h).2
  obtain ⟨σ2, e2, h⟩ := cv_some h
  have f2 : Fr P _ _ := Fr.trans Fr.refl (fr_Mo_put  w0 w1 e2)
  obtain ⟨σ3, e3, h⟩ := cv_some h
  have f3 : Fr P _ _ := Fr.trans f2 (fr_Mo_putFar  w2 w4 e3)
  obtain ⟨σ4, e4, h⟩ := cv_some h
  have f4 : Fr P _ _ := Fr.trans f3 (fr_Mo_copyBytes  w3 e4)
  rw [← Option.some.inj h]; exact f4
theorem fr_Mo_write_B132 {P : Nat → Prop} {v0 : Nat} {v1 : Int32} {v2 : Int32} {σ : St} {r : St} (w0 : P v0) (w1 : P (ch v0 23)) (w2 : P (ch v0 24)) (h : Mo_write_B132 v0 v1 v2 σ = some r) : Fr P σ r := by
  unfold Mo_write_B132 at h
  replace h := (ld_some h).2
  rcases ite_some h with ⟨_, h⟩ | ⟨_, h⟩
  · exact Fr.trans Fr.refl (fr_Mo_write_B150  w0 w2 w0 w1 w2 h)
  · exact Fr.trans Fr.refl (fr_Mo_write_B150  w0 w2 w0 w1 w2 h)
theorem fr_Mo_write_B168 {P : Nat → Prop} {v0 : Nat} {v1 : Int32} {v2 : Int32} {v3 : Int32} {σ : St} {r : St} (w0 : P v0) (w1 : P (ch v0 23)) (w2 : P (ch v0 24)) (h : Mo_write_B168 v0 v1 v2 v3 σ = some r) : Fr P σ r := by
  unfold Mo_write_B168 at h
  obtain ⟨σ1, e1, h⟩ := cv_some h
  have f1 : Fr P _ _ := Fr.trans Fr.refl (fr_Mo_put  w0 w2 e1)
  rcases ite_some h with ⟨_, h⟩ | ⟨_, h⟩
  · replace h := (ld_some h).2
    obtain ⟨σ3, e3, h⟩ := cv_some h
    have f3 : Fr P _ _ := Fr.trans f1 (fr_Mo_putFour  w0 w2 e3)
    obtain ⟨σ4, e4, h⟩ := cv_some h
    have f4 : Fr P _ _ := Fr.trans f3 (fr_Mo_copyBytes  w1 e4)
    rw [← Option.some.inj h]; exact f4
  · replace h := (ld_some h).2
    replace h := (ld_some h).2
    obtain ⟨σ7, e7, h⟩ := cv_some h
    have f7 : Fr P _ _ := Fr.trans f1 (fr_Mo_putFour  w0 w2 e7)
    obtain ⟨σ8, e8, h⟩ := cv_some h
    have f8 : Fr P _ _ := Fr.trans f7 (fr_Mo_copyBytes  w1 e8)
    rw [← Option.some.inj h]; exact f8
theorem fr_Mo_write_B297 {P : Nat → Prop} {v0 : Nat} {t0 : Int32} {σ : St} {r : St} (w0 : P v0) (w1 : P (ch v0 23)) (w2 : P (ch v0 24)) (h : Mo_write_B297 v0 t0 σ = some r) : Fr P σ r := by
  unfold Mo_write_B297 at h
  replace h := nm_some h
  obtain ⟨σ2, e2, h⟩ := cv_some h
  have f2 : Fr P _ _ := Fr.trans (Fr.s2 w0 Fr.refl) (fr_Mo_putPair  w0 w2 e2)
  obtain ⟨σ3, e3, h⟩ := cv_some h
  have f3 : Fr P _ _ := Fr.trans f2 (fr_Mo_copyBytes  w1 e3)
  rw [← Option.some.inj h]; exact f3
theorem fr_Mo_write {P : Nat → Prop} {v0 : Nat} {v1 : Int32} {σ : St} {r : St} (w0 : P v0) (w1 : P (ch v0 23)) (w2 : P (ch v0 24)) (h : Mo_write v0 v1 σ = some r) : Fr P σ r := by
  unfold Mo_write at h
  replace h := (ld_some h).2
  replace h := (ld_some h).2
  replace h := nm_some h
  rcases ite_some h with ⟨_, h⟩ | ⟨_, h⟩
  · obtain ⟨σ4, e4, h⟩ := cv_some h
    have f4 : Fr P _ _ := Fr.trans (Fr.s2 w0 Fr.refl) (fr_Mo_copyBytes  w1 e4)
    rw [← Option.some.inj h]; exact f4
  · rcases ite_some h with ⟨_, h⟩ | ⟨_, h⟩
    · replace h := (ld_some h).2
      rcases ite_some h with ⟨_, h⟩ | ⟨_, h⟩
      · exact Fr.trans (Fr.s2 w0 Fr.refl) (fr_Mo_write_B106  w0 w2 w0 w1 w2 h)
      · exact Fr.trans (Fr.s2 w0 Fr.refl) (fr_Mo_write_B106  w0 w2 w0 w1 w2 h)
    · rcases ite_some h with ⟨_, h⟩ | ⟨_, h⟩
      · replace h := (ld_some h).2
        rcases ite_some h with ⟨_, h⟩ | ⟨_, h⟩
        · exact Fr.trans (Fr.s2 w0 Fr.refl) (fr_Mo_write_B132  w0 w1 w2 h)
        · obtain ⟨σ7, e7, h⟩ := cv_some h
          have f7 : Fr P _ _ := Fr.trans (Fr.s2 w0 Fr.refl) (fr_Mo_put  w0 w2 e7)
          exact Fr.trans f7 (fr_Mo_write_B132  w0 w1 w2 h)
      · rcases ite_some h with ⟨_, h⟩ | ⟨_, h⟩
        · exact Fr.trans (Fr.s2 w0 Fr.refl) (fr_Mo_write_B168  w0 w1 w2 h)
        · rcases ite_some h with ⟨_, h⟩ | ⟨_, h⟩
          · exact Fr.trans (Fr.s2 w0 Fr.refl) (fr_Mo_write_B168  w0 w1 w2 h)
          · rcases ite_some h with ⟨_, h⟩ | ⟨_, h⟩
            · rcases ite_some h with ⟨_, h⟩ | ⟨_, h⟩
              · replace h := (ld_some h).2
                obtain ⟨σ9, e9, h⟩ := cv_some h
                have f9 : Fr P _ _ := Fr.trans (Fr.s2 w0 Fr.refl) (fr_Mo_putPair  w0 w2 e9)
                obtain ⟨σ10, e10, h⟩ := cv_some h
                have f10 : Fr P _ _ := Fr.trans f9 (fr_Mo_copyBytes  w1 e10)
                rw [← Option.some.inj h]; exact f10
              · replace h := (ld_some h).2
                obtain ⟨σ12, e12, h⟩ := cv_some h
                have f12 : Fr P _ _ := Fr.trans (Fr.s2 w0 Fr.refl) (fr_Mo_putPair  w0 w2 e12)
                obtain ⟨σ13, e13, h⟩ := cv_some h
                have f13 : Fr P _ _ := Fr.trans f12 (fr_Mo_copyBytes  w1 e13)
                rw [← Option.some.inj h]; exact f13
            · rcases ite_some h with ⟨_, h⟩ | ⟨_, h⟩
              · rcases ite_some h with ⟨_, h⟩ | ⟨_, h⟩
                · replace h := (ld_some h).2
                  obtain ⟨σ15, e15, h⟩ := cv_some h
                  have f15 : Fr P _ _ := Fr.trans (Fr.s2 w0 Fr.refl) (fr_Mo_putPair  w0 w2 e15)
                  obtain ⟨σ16, e16, h⟩ := cv_some h
                  have f16 : Fr P _ _ := Fr.trans f15 (fr_Mo_copyBytes  w1 e16)
                  rw [← Option.some.inj h]; exact f16
                · replace h := (ld_some h).2
                  obtain ⟨σ18, e18, h⟩ := cv_some h
                  have f18 : Fr P _ _ := Fr.trans (Fr.s2 w0 Fr.refl) (fr_Mo_putPair  w0 w2 e18)
                  obtain ⟨σ19, e19, h⟩ := cv_some h
                  have f19 : Fr P _ _ := Fr.trans f18 (fr_Mo_copyBytes  w1 e19)
                  rw [← Option.some.inj h]; exact f19
              · rcases ite_some h with ⟨_, h⟩ | ⟨_, h⟩
                · obtain ⟨σ20, e20, h⟩ := cv_some h
                  have f20 : Fr P _ _ := Fr.trans (Fr.s2 w0 Fr.refl) (fr_Mo_put  w0 w2 e20)
                  obtain ⟨σ21, e21, h⟩ := cv_some h
                  have f21 : Fr P _ _ := Fr.trans f20 (fr_Mo_copyBytes  w1 e21)
                  rcases ite_some h with ⟨_, h⟩ | ⟨_, h⟩
                  · exact Fr.trans f21 (fr_Mo_write_B297  w0 w1 w2 h)
                  · exact Fr.trans f21 (fr_Mo_write_B297  w0 w1 w2 h)
                · rcases ite_some h with ⟨_, h⟩ | ⟨_, h⟩
                  · replace h := (ld_some h).2
                    obtain ⟨σ23, e23, h⟩ := cv_some h
                    have f23 : Fr P _ _ := Fr.trans (Fr.s2 w0 Fr.refl) (fr_Mo_put  w0 w2 e23)
                    replace h := (ld_some h).2
                    replace h := (ld_some h).2
                    obtain ⟨σ26, e26, h⟩ := cv_some h
                    have f26 : Fr P _ _ := Fr.trans f23 (fr_Mo_putFour  w0 w2 e26)
                    obtain ⟨σ27, e27, h⟩ := cv_some h
                    have f27 : Fr P _ _ := Fr.trans f26 (fr_Mo_copyBytes  w1 e27)
                    rw [← Option.some.inj h]; exact f27
                  · rcases ite_some h with ⟨_, h⟩ | ⟨_, h⟩
                    · obtain ⟨σ28, e28, h⟩ := cv_some h
                      have f28 : Fr P _ _ := Fr.trans (Fr.s2 w0 Fr.refl) (fr_Mo_encode  w0 w2 e28)
                      obtain ⟨σ29, e29, h⟩ := cv_some h
                      have f29 : Fr P _ _ := Fr.trans f28 (fr_Mo_copyBytes  w1 e29)
                      rw [← Option.some.inj h]; exact f29
                    · rcases ite_some h with ⟨_, h⟩ | ⟨_, h⟩
                      · replace h := (ld_some h).2
                        obtain ⟨σ31, e31, h⟩ := cv_some h
                        have f31 : Fr P _ _ := Fr.trans (Fr.s2 w0 Fr.refl) (fr_Mo_putPair  w0 w2 e31)
                        obtain ⟨σ32, e32, h⟩ := cv_some h
                        have f32 : Fr P _ _ := Fr.trans f31 (fr_Mo_copyBytes  w1 e32)
                        rw [← Option.some.inj h]; exact f32
                      · replace h := (ld_some h).2
                        obtain ⟨σ34, e34, h⟩ := cv_some h
                        have f34 : Fr P _ _ := Fr.trans (Fr.s2 w0 Fr.refl) (fr_Mo_putPair  w0 w2 e34)
                        obtain ⟨σ35, e35, h⟩ := cv_some h
                        have f35 : Fr P _ _ := Fr.trans f34 (fr_Mo_copyBytes  w1 e35)
                        rw [← Option.some.inj h]; exact f35
theorem fr_Mo_build_B172 {P : Nat → Prop} : ∀ (n : Nat) (v0 : Nat) (v3 : Int32) (v4 : Int32) (σ : St) (r : Int32 × St), P v0 → P (ch v0 5) → P (ch v0 7) → P (ch v0 11) → P (ch v0 12) → P (ch v0 13) → P (ch v0 14) → P (ch v0 15) → P (ch v0 16) → P (ch v0 17) → P (ch v0 18) → P (ch v0 19) → P (ch v0 20) → P (ch v0 23) → P (ch v0 24) → P (ch v0 30) → P (ch v0 54) → Mo_build_B172 n v0 v3 v4 σ = some r → Fr P σ r.2 := by
  intro n
  induction n with
  | zero => intro v0 v3 v4 σ r w0 w1 w2 w3 w4 w5 w6 w7 w8 w9 w10 w11 w12 w13 w14 w15 w16 h; unfold Mo_build_B172 at h; cases h
  | succ n ih =>
    intro v0 v3 v4 σ r w0 w1 w2 w3 w4 w5 w6 w7 w8 w9 w10 w11 w12 w13 w14 w15 w16 h
    unfold Mo_build_B172 at h
    rcases ite_some h with ⟨_, h⟩ | ⟨_, h⟩
    · obtain ⟨σ1, e1, h⟩ := cv_some h
      have f1 : Fr P _ _ := Fr.trans Fr.refl (fr_Mo_starting  w0 w16 e1)
      obtain ⟨σ2, e2, h⟩ := cv_some h
      have f2 : Fr P _ _ := Fr.trans f1 (fr_Mo_becomes  w0 w1 w2 w15 e2)
      obtain ⟨σ3, e3, h⟩ := cv_some h
      have f3 : Fr P _ _ := Fr.trans f2 (fr_Mo_keepProgram  w0 w3 w4 w5 w6 w7 w8 w9 w10 w11 w12 e3)
      obtain ⟨_, σ4, e4, h⟩ := cl_some h
      have f4 : Fr P _ _ := Fr.trans f3 (fr_Mo_faults  w0 e4)
      rw [← Option.some.inj h]; exact f4
    · obtain ⟨σ6, e6, h⟩ := cv_some h
      have f6 : Fr P _ _ := Fr.trans Fr.refl (fr_Mo_write  w0 w13 w14 e6)
      replace h := nm_some h
      exact Fr.trans f6 (ih _ _ _ _ _ w0 w1 w2 w3 w4 w5 w6 w7 w8 w9 w10 w11 w12 w13 w14 w15 w16 h)
theorem fr_Mo_build_B132 {P : Nat → Prop} : ∀ (n : Nat) (v0 : Nat) (v3 : Int32) (v4 : Int32) (σ : St) (r : Int32 × St), P v0 → P (ch v0 5) → P (ch v0 7) → P (ch v0 11) → P (ch v0 12) → P (ch v0 13) → P (ch v0 14) → P (ch v0 15) → P (ch v0 16) → P (ch v0 17) → P (ch v0 18) → P (ch v0 19) → P (ch v0 20) → P (ch v0 23) → P (ch v0 24) → P (ch v0 30) → P (ch v0 54) → Mo_build_B132 n v0 v3 v4 σ = some r → Fr P σ r.2 := by
  intro n
  induction n with
  | zero => intro v0 v3 v4 σ r w0 w1 w2 w3 w4 w5 w6 w7 w8 w9 w10 w11 w12 w13 w14 w15 w16 h; unfold Mo_build_B132 at h; cases h
  | succ n ih =>
    intro v0 v3 v4 σ r w0 w1 w2 w3 w4 w5 w6 w7 w8 w9 w10 w11 w12 w13 w14 w15 w16 h
    unfold Mo_build_B132 at h
    rcases ite_some h with ⟨_, h⟩ | ⟨_, h⟩
    · exact Fr.trans Fr.refl (fr_Mo_build_B172  _ _ _ _ _ _ w0 w1 w2 w3 w4 w5 w6 w7 w8 w9 w10 w11 w12 w13 w14 w15 w16 h)
    · rcases ite_some h with ⟨_, h⟩ | ⟨_, h⟩
      · replace h := (sa_some h).2
        replace h := nm_some h
        exact Fr.trans (Fr.s2 w13 Fr.refl) (ih _ _ _ _ _ w0 w1 w2 w3 w4 w5 w6 w7 w8 w9 w10 w11 w12 w13 w14 w15 w16 h)
      · replace h := (sa_some h).2
        replace h := nm_some h
        exact Fr.trans (Fr.s2 w13 Fr.refl) (ih _ _ _ _ _ w0 w1 w2 w3 w4 w5 w6 w7 w8 w9 w10 w11 w12 w13 w14 w15 w16 h)
theorem fr_Mo_build_B67 {P : Nat → Prop} {K57 : Nat → Int32 → St → Option (Int32 × St)} (hK57 : ∀ (v0 : Nat) (v2 : Int32) (σ : St) (r : Int32 × St), P v0 → P (ch v0 5) → P (ch v0 7) → P (ch v0 11) → P (ch v0 12) → P (ch v0 13) → P (ch v0 14) → P (ch v0 15) → P (ch v0 16) → P (ch v0 17) → P (ch v0 18) → P (ch v0 19) → P (ch v0 20) → P (ch v0 21) → P (ch v0 23) → P (ch v0 24) → P (ch v0 30) → P (ch v0 54) → K57 v0 v2 σ = some r → Fr P σ r.2) : ∀ (n : Nat) (v0 : Nat) (v3 : Int32) (σ : St) (r : Int32 × St), P v0 → P (ch v0 5) → P (ch v0 7) → P (ch v0 11) → P (ch v0 12) → P (ch v0 13) → P (ch v0 14) → P (ch v0 15) → P (ch v0 16) → P (ch v0 17) → P (ch v0 18) → P (ch v0 19) → P (ch v0 20) → P (ch v0 21) → P (ch v0 23) → P (ch v0 24) → P (ch v0 30) → P (ch v0 54) → Mo_build_B67 K57 n v0 v3 σ = some r → Fr P σ r.2 := by
  intro n
  induction n with
  | zero => intro v0 v3 σ r w0 w1 w2 w3 w4 w5 w6 w7 w8 w9 w10 w11 w12 w13 w14 w15 w16 w17 h; unfold Mo_build_B67 at h; cases h
  | succ n ih =>
    intro v0 v3 σ r w0 w1 w2 w3 w4 w5 w6 w7 w8 w9 w10 w11 w12 w13 w14 w15 w16 w17 h
    unfold Mo_build_B67 at h
    rcases ite_some h with ⟨_, h⟩ | ⟨_, h⟩
    · obtain ⟨_, σ1, e1, h⟩ := cl_some h
      have f1 : Fr P _ _ := Fr.trans Fr.refl (fr_Mo_lengthens  w0 w13 w15 w17 e1)
      exact Fr.trans f1 (hK57 _ _ _ _ w0 w1 w2 w3 w4 w5 w6 w7 w8 w9 w10 w11 w12 w13 w14 w15 w16 w17 h)
    · replace h := (sa_some h).2
      replace h := nm_some h
      exact Fr.trans (Fr.s2 w17 Fr.refl) (ih _ _ _ _ w0 w1 w2 w3 w4 w5 w6 w7 w8 w9 w10 w11 w12 w13 w14 w15 w16 w17 h)
theorem fr_Mo_build_B57 {P : Nat → Prop} : ∀ (n : Nat) (v0 : Nat) (v2 : Int32) (σ : St) (r : Int32 × St), P v0 → P (ch v0 5) → P (ch v0 7) → P (ch v0 11) → P (ch v0 12) → P (ch v0 13) → P (ch v0 14) → P (ch v0 15) → P (ch v0 16) → P (ch v0 17) → P (ch v0 18) → P (ch v0 19) → P (ch v0 20) → P (ch v0 21) → P (ch v0 23) → P (ch v0 24) → P (ch v0 30) → P (ch v0 54) → Mo_build_B57 n v0 v2 σ = some r → Fr P σ r.2 := by
  intro n
  induction n with
  | zero => intro v0 v2 σ r w0 w1 w2 w3 w4 w5 w6 w7 w8 w9 w10 w11 w12 w13 w14 w15 w16 w17 h; unfold Mo_build_B57 at h; cases h
  | succ n ih =>
    intro v0 v2 σ r w0 w1 w2 w3 w4 w5 w6 w7 w8 w9 w10 w11 w12 w13 w14 w15 w16 w17 h
    unfold Mo_build_B57 at h
    rcases ite_some h with ⟨_, h⟩ | ⟨_, h⟩
    · replace h := nm_some h
      rcases ite_some h with ⟨_, h⟩ | ⟨_, h⟩
      · exact Fr.trans Fr.refl (fr_Mo_build_B132  _ _ _ _ _ _ w0 w1 w2 w3 w4 w5 w6 w7 w8 w9 w10 w11 w12 w14 w15 w16 w17 h)
      · obtain ⟨_, σ2, e2, h⟩ := cl_some h
        have f2 : Fr P _ _ := Fr.trans Fr.refl (fr_Mo_faults  w0 e2)
        rw [← Option.some.inj h]; exact f2
    · obtain ⟨σ4, e4, h⟩ := cv_some h
      have f4 : Fr P _ _ := Fr.trans Fr.refl (fr_Mo_layAll  w0 w10 w11 w15 e4)
      exact Fr.trans f4 (fr_Mo_build_B67 ih _ _ _ _ _ w0 w1 w2 w3 w4 w5 w6 w7 w8 w9 w10 w11 w12 w13 w14 w15 w16 w17 h)
theorem fr_Mo_build_B36 {P : Nat → Prop} : ∀ (n : Nat) (v0 : Nat) (v2 : Int32) (σ : St) (r : Int32 × St), P v0 → P (ch v0 5) → P (ch v0 7) → P (ch v0 11) → P (ch v0 12) → P (ch v0 13) → P (ch v0 14) → P (ch v0 15) → P (ch v0 16) → P (ch v0 17) → P (ch v0 18) → P (ch v0 19) → P (ch v0 20) → P (ch v0 21) → P (ch v0 23) → P (ch v0 24) → P (ch v0 30) → P (ch v0 54) → Mo_build_B36 n v0 v2 σ = some r → Fr P σ r.2 := by
  intro n
  induction n with
  | zero => intro v0 v2 σ r w0 w1 w2 w3 w4 w5 w6 w7 w8 w9 w10 w11 w12 w13 w14 w15 w16 w17 h; unfold Mo_build_B36 at h; cases h
  | succ n ih =>
    intro v0 v2 σ r w0 w1 w2 w3 w4 w5 w6 w7 w8 w9 w10 w11 w12 w13 w14 w15 w16 w17 h
    unfold Mo_build_B36 at h
    rcases ite_some h with ⟨_, h⟩ | ⟨_, h⟩
    · exact Fr.trans Fr.refl (fr_Mo_build_B57  _ _ _ _ _ w0 w1 w2 w3 w4 w5 w6 w7 w8 w9 w10 w11 w12 w13 w14 w15 w16 w17 h)
    · replace h := (sa_some h).2
      replace h := nm_some h
      exact Fr.trans (Fr.s2 w13 Fr.refl) (ih _ _ _ _ w0 w1 w2 w3 w4 w5 w6 w7 w8 w9 w10 w11 w12 w13 w14 w15 w16 w17 h)
theorem fr_Mo_build {P : Nat → Prop} {v0 : Nat} {σ : St} {r : Int32 × St} (w0 : P v0) (w1 : P (ch v0 5)) (w2 : P (ch v0 7)) (w3 : P (ch v0 11)) (w4 : P (ch v0 12)) (w5 : P (ch v0 13)) (w6 : P (ch v0 14)) (w7 : P (ch v0 15)) (w8 : P (ch v0 16)) (w9 : P (ch v0 17)) (w10 : P (ch v0 18)) (w11 : P (ch v0 19)) (w12 : P (ch v0 20)) (w13 : P (ch v0 21)) (w14 : P (ch v0 23)) (w15 : P (ch v0 24)) (w16 : P (ch v0 30)) (w17 : P (ch v0 54)) (h : Mo_build v0 σ = some r) : Fr P σ r.2 := by
  unfold Mo_build at h
  replace h := nm_some h
  obtain ⟨_, σ2, e2, h⟩ := cl_some h
  have f2 : Fr P _ _ := Fr.trans (Fr.s2 w0 Fr.refl) (fr_Mo_firstWrong  w12 e2)
  rcases ite_some h with ⟨_, h⟩ | ⟨_, h⟩
  · exact Fr.trans f2 (fr_Mo_build_B36  _ _ _ _ _ w0 w1 w2 w3 w4 w5 w6 w7 w8 w9 w10 w11 w12 w13 w14 w15 w16 w17 h)
  · obtain ⟨_, σ4, e4, h⟩ := cl_some h
    have f4 : Fr P _ _ := Fr.trans f2 (fr_Mo_faults  w0 e4)
    rw [← Option.some.inj h]; exact f4
theorem fr_Mo_size {P : Nat → Prop} {v0 : Nat} {σ : St} {r : Int32 × St} (w0 : P v0) (h : Mo_size v0 σ = some r) : Fr P σ r.2 := by
  unfold Mo_size at h
  replace h := nm_some h
  rw [← Option.some.inj h]; exact (Fr.s2 w0 Fr.refl)
theorem fr_Mo_code {P : Nat → Prop} {v0 : Nat} {v1 : Int32} {σ : St} {r : Int32 × St} (w0 : P v0) (h : Mo_code v0 v1 σ = some r) : Fr P σ r.2 := by
  unfold Mo_code at h
  replace h := nm_some h
  rcases ite_some h with ⟨_, h⟩ | ⟨_, h⟩
  · rw [← Option.some.inj h]; exact (Fr.s2 w0 Fr.refl)
  · rcases ite_some h with ⟨_, h⟩ | ⟨_, h⟩
    · rw [← Option.some.inj h]; exact (Fr.s2 w0 Fr.refl)
    · replace h := (ld_some h).2
      rw [← Option.some.inj h]; exact (Fr.s2 w0 Fr.refl)
theorem fr_Mo_decoded_B50 {P : Nat → Prop} {v0 : Nat} {v1 : Int32} {v2 : Int32} {v3 : Int32} {t0 : Nat} {t1 : Int32} {σ : St} {r : Int32 × St} (w0 : P t0) (h : Mo_decoded_B50 v0 v1 v2 v3 t0 t1 σ = some r) : Fr P σ r.2 := by
  unfold Mo_decoded_B50 at h
  obtain ⟨_, σ1, e1, h⟩ := cl_some h
  have f1 : Fr P _ _ := Fr.trans Fr.refl (fr_Mo_throwing  w0 e1)
  rcases ite_some h with ⟨_, h⟩ | ⟨_, h⟩
  · rcases ite_some h with ⟨_, h⟩ | ⟨_, h⟩
    · rw [← Option.some.inj h]; exact f1
    · rcases ite_some h with ⟨_, h⟩ | ⟨_, h⟩
      · rw [← Option.some.inj h]; exact f1
      · rcases ite_some h with ⟨_, h⟩ | ⟨_, h⟩
        · rw [← Option.some.inj h]; exact f1
        · rcases ite_some h with ⟨_, h⟩ | ⟨_, h⟩
          · rw [← Option.some.inj h]; exact f1
          · rcases ite_some h with ⟨_, h⟩ | ⟨_, h⟩
            · rw [← Option.some.inj h]; exact f1
            · rcases ite_some h with ⟨_, h⟩ | ⟨_, h⟩
              · rw [← Option.some.inj h]; exact f1
              · rcases ite_some h with ⟨_, h⟩ | ⟨_, h⟩
                · rw [← Option.some.inj h]; exact f1
                · replace h := (ld_some h).2
                  rw [← Option.some.inj h]; exact f1
  · rw [← Option.some.inj h]; exact f1
theorem fr_Mo_decoded_B29 {P : Nat → Prop} {v0 : Nat} {v1 : Int32} {v2 : Int32} {t0 : Int32} {σ : St} {r : Int32 × St} (w0 : P v0) (h : Mo_decoded_B29 v0 v1 v2 t0 σ = some r) : Fr P σ r.2 := by
  unfold Mo_decoded_B29 at h
  rcases ite_some h with ⟨_, h⟩ | ⟨_, h⟩
  · exact Fr.trans Fr.refl (fr_Mo_decoded_B50  w0 h)
  · rcases ite_some h with ⟨_, h⟩ | ⟨_, h⟩
    · exact Fr.trans Fr.refl (fr_Mo_decoded_B50  w0 h)
    · rcases ite_some h with ⟨_, h⟩ | ⟨_, h⟩
      · exact Fr.trans Fr.refl (fr_Mo_decoded_B50  w0 h)
      · exact Fr.trans Fr.refl (fr_Mo_decoded_B50  w0 h)
theorem fr_Mo_decoded {P : Nat → Prop} {v0 : Nat} {v1 : Int32} {v2 : Int32} {σ : St} {r : Int32 × St} (w0 : P v0) (h : Mo_decoded v0 v1 v2 σ = some r) : Fr P σ r.2 := by
  unfold Mo_decoded at h
  rcases ite_some h with ⟨_, h⟩ | ⟨_, h⟩
  · exact Fr.trans Fr.refl (fr_Mo_decoded_B29  w0 h)
  · rcases ite_some h with ⟨_, h⟩ | ⟨_, h⟩
    · exact Fr.trans Fr.refl (fr_Mo_decoded_B29  w0 h)
    · obtain ⟨_, σ1, e1, h⟩ := cl_some h
      have f1 : Fr P _ _ := Fr.trans Fr.refl (fr_Mo_decode  w0 e1)
      exact Fr.trans f1 (fr_Mo_decoded_B29  w0 h)
theorem fr_Mo_place {P : Nat → Prop} {v0 : Nat} {v1 : Int32} {v2 : Int32} {σ : St} {r : Int32 × St} (w0 : P v0) (h : Mo_place v0 v1 v2 σ = some r) : Fr P σ r.2 := by
  unfold Mo_place at h
  replace h := nm_some h
  rcases ite_some h with ⟨_, h⟩ | ⟨_, h⟩
  · rcases ite_some h with ⟨_, h⟩ | ⟨_, h⟩
    · rcases ite_some h with ⟨_, h⟩ | ⟨_, h⟩
      · rcases ite_some h with ⟨_, h⟩ | ⟨_, h⟩
        · rw [← Option.some.inj h]; exact (Fr.s2 w0 Fr.refl)
        · rcases ite_some h with ⟨_, h⟩ | ⟨_, h⟩
          · rw [← Option.some.inj h]; exact (Fr.s2 w0 Fr.refl)
          · rcases ite_some h with ⟨_, h⟩ | ⟨_, h⟩
            · rw [← Option.some.inj h]; exact (Fr.s2 w0 Fr.refl)
            · replace h := (ld_some h).2
              rcases ite_some h with ⟨_, h⟩ | ⟨_, h⟩
              · rw [← Option.some.inj h]; exact (Fr.s2 w0 Fr.refl)
              · replace h := (ld_some h).2
                rw [← Option.some.inj h]; exact (Fr.s2 w0 Fr.refl)
      · rcases ite_some h with ⟨_, h⟩ | ⟨_, h⟩
        · rw [← Option.some.inj h]; exact (Fr.s2 w0 Fr.refl)
        · rcases ite_some h with ⟨_, h⟩ | ⟨_, h⟩
          · rw [← Option.some.inj h]; exact (Fr.s2 w0 Fr.refl)
          · replace h := (ld_some h).2
            rw [← Option.some.inj h]; exact (Fr.s2 w0 Fr.refl)
    · rw [← Option.some.inj h]; exact (Fr.s2 w0 Fr.refl)
  · rw [← Option.some.inj h]; exact (Fr.s2 w0 Fr.refl)
theorem fr_Mo_set_B70 {P : Nat → Prop} : ∀ (n : Nat) (v0 : Nat) (v2 : Int32) (v3 : Int32) (v4 : Int32) (σ : St) (r : Int32 × St), P (ch v0 27) → Mo_set_B70 n v0 v2 v3 v4 σ = some r → Fr P σ r.2 := by
  intro n
  induction n with
  | zero => intro v0 v2 v3 v4 σ r w0 h; unfold Mo_set_B70 at h; cases h
  | succ n ih =>
    intro v0 v2 v3 v4 σ r w0 h
    unfold Mo_set_B70 at h
    rcases ite_some h with ⟨_, h⟩ | ⟨_, h⟩
    · rw [← Option.some.inj h]; exact Fr.refl
    · replace h := (sa_some h).2
      replace h := nm_some h
      exact Fr.trans (Fr.s2 w0 Fr.refl) (ih _ _ _ _ _ _ w0 h)
theorem fr_Mo_set_B164 {P : Nat → Prop} : ∀ (n : Nat) (v0 : Nat) (v4 : Int32) (σ : St) (r : Int32 × St), P v0 → P (ch v0 27) → Mo_set_B164 n v0 v4 σ = some r → Fr P σ r.2 := by
  intro n
  induction n with
  | zero => intro v0 v4 σ r w0 w1 h; unfold Mo_set_B164 at h; cases h
  | succ n ih =>
    intro v0 v4 σ r w0 w1 h
    unfold Mo_set_B164 at h
    rcases ite_some h with ⟨_, h⟩ | ⟨_, h⟩
    · replace h := nm_some h
      rw [← Option.some.inj h]; exact (Fr.s2 w0 Fr.refl)
    · replace h := (sa_some h).2
      replace h := nm_some h
      exact Fr.trans (Fr.s2 w1 Fr.refl) (ih _ _ _ _ w0 w1 h)
theorem fr_Mo_set_B140 {P : Nat → Prop} : ∀ (n : Nat) (v0 : Nat) (v4 : Int32) (σ : St) (r : Int32 × St), P v0 → P (ch v0 26) → P (ch v0 27) → Mo_set_B140 n v0 v4 σ = some r → Fr P σ r.2 := by
  intro n
  induction n with
  | zero => intro v0 v4 σ r w0 w1 w2 h; unfold Mo_set_B140 at h; cases h
  | succ n ih =>
    intro v0 v4 σ r w0 w1 w2 h
    unfold Mo_set_B140 at h
    rcases ite_some h with ⟨_, h⟩ | ⟨_, h⟩
    · exact Fr.trans Fr.refl (fr_Mo_set_B164  _ _ _ _ _ w0 w2 h)
    · replace h := (sa_some h).2
      replace h := nm_some h
      exact Fr.trans (Fr.s2 w1 Fr.refl) (ih _ _ _ _ w0 w1 w2 h)
theorem fr_Mo_set {P : Nat → Prop} {v0 : Nat} {v1 : Int32} {v2 : Int32} {v3 : Int32} {σ : St} {r : Int32 × St} (w0 : P v0) (w1 : P (ch v0 26)) (w2 : P (ch v0 27)) (w3 : P (ch v0 28)) (h : Mo_set v0 v1 v2 v3 σ = some r) : Fr P σ r.2 := by
  unfold Mo_set at h
  replace h := nm_some h
  rcases ite_some h with ⟨_, h⟩ | ⟨_, h⟩
  · obtain ⟨_, σ2, e2, h⟩ := cl_some h
    have f2 : Fr P _ _ := Fr.trans (Fr.s2 w0 Fr.refl) (fr_Mo_isRegister   e2)
    rcases ite_some h with ⟨_, h⟩ | ⟨_, h⟩
    · replace h := (sa_some h).2
      rw [← Option.some.inj h]; exact (Fr.s2 w1 f2)
    · rw [← Option.some.inj h]; exact f2
  · rcases ite_some h with ⟨_, h⟩ | ⟨_, h⟩
    · rcases ite_some h with ⟨_, h⟩ | ⟨_, h⟩
      · rw [← Option.some.inj h]; exact (Fr.s2 w0 Fr.refl)
      · rcases ite_some h with ⟨_, h⟩ | ⟨_, h⟩
        · exact Fr.trans (Fr.s2 w0 Fr.refl) (fr_Mo_set_B70  _ _ _ _ _ _ _ w2 h)
        · rw [← Option.some.inj h]; exact (Fr.s2 w0 Fr.refl)
    · rcases ite_some h with ⟨_, h⟩ | ⟨_, h⟩
      · rcases ite_some h with ⟨_, h⟩ | ⟨_, h⟩
        · replace h := (sa_some h).2
          replace h := nm_some h
          rw [← Option.some.inj h]; exact (Fr.s2 w0 (Fr.s2 w3 (Fr.s2 w0 Fr.refl)))
        · rw [← Option.some.inj h]; exact (Fr.s2 w0 Fr.refl)
      · rcases ite_some h with ⟨_, h⟩ | ⟨_, h⟩
        · exact Fr.trans (Fr.s2 w0 Fr.refl) (fr_Mo_set_B140  _ _ _ _ _ w0 w1 w2 h)
        · rw [← Option.some.inj h]; exact (Fr.s2 w0 Fr.refl)
theorem fr_Mo_reg {P : Nat → Prop} {v0 : Nat} {v1 : Int32} {σ : St} {r : Int32 × St} (h : Mo_reg v0 v1 σ = some r) : Fr P σ r.2 := by
  unfold Mo_reg at h
  replace h := (ld_some h).2
  rw [← Option.some.inj h]; exact Fr.refl
theorem fr_Mo_setReg {P : Nat → Prop} {v0 : Nat} {v1 : Int32} {v2 : Int32} {σ : St} {r : St} (w0 : P v0) (w1 : P (ch v0 31)) (h : Mo_setReg v0 v1 v2 σ = some r) : Fr P σ r := by
  unfold Mo_setReg at h
  replace h := (sa_some h).2
  rcases ite_some h with ⟨_, h⟩ | ⟨_, h⟩
  · rw [← Option.some.inj h]; exact (Fr.s2 w1 Fr.refl)
  · rcases ite_some h with ⟨_, h⟩ | ⟨_, h⟩
    · rw [← Option.some.inj h]; exact (Fr.s2 w1 Fr.refl)
    · replace h := nm_some h
      rw [← Option.some.inj h]; exact (Fr.s2 w0 (Fr.s2 w1 Fr.refl))
theorem fr_Mo_isThere {P : Nat → Prop} {v0 : Int32} {σ : St} {r : Int32 × St} (h : Mo_isThere v0 σ = some r) : Fr P σ r.2 := by
  unfold Mo_isThere at h
  rcases ite_some h with ⟨_, h⟩ | ⟨_, h⟩
  · rw [← Option.some.inj h]; exact Fr.refl
  · rcases ite_some h with ⟨_, h⟩ | ⟨_, h⟩
    · rw [← Option.some.inj h]; exact Fr.refl
    · rw [← Option.some.inj h]; exact Fr.refl
theorem fr_Mo_load_B4 {P : Nat → Prop} : ∀ (n : Nat) (v0 : Nat) (v1 : Int32) (v2 : Int32) (v3 : Int32) (σ : St) (r : Int32 × St), Mo_load_B4 n v0 v1 v2 v3 σ = some r → Fr P σ r.2 := by
  intro n
  induction n with
  | zero => intro v0 v1 v2 v3 σ r  h; unfold Mo_load_B4 at h; cases h
  | succ n ih =>
    intro v0 v1 v2 v3 σ r  h
    unfold Mo_load_B4 at h
    rcases ite_some h with ⟨_, h⟩ | ⟨_, h⟩
    · rw [← Option.some.inj h]; exact Fr.refl
    · replace h := (ld_some h).2
      replace h := nm_some h
      replace h := nm_some h
      exact Fr.trans Fr.refl (ih _ _ _ _ _ _  h)
theorem fr_Mo_load {P : Nat → Prop} {v0 : Nat} {v1 : Int32} {σ : St} {r : Int32 × St} (h : Mo_load v0 v1 σ = some r) : Fr P σ r.2 := by
  unfold Mo_load at h
  exact Fr.trans Fr.refl (fr_Mo_load_B4  _ _ _ _ _ _ _  h)
theorem fr_Mo_store_B2 {P : Nat → Prop} : ∀ (n : Nat) (v0 : Nat) (v1 : Int32) (v2 : Int32) (v3 : Int32) (σ : St) (r : St), P (ch v0 33) → Mo_store_B2 n v0 v1 v2 v3 σ = some r → Fr P σ r := by
  intro n
  induction n with
  | zero => intro v0 v1 v2 v3 σ r w0 h; unfold Mo_store_B2 at h; cases h
  | succ n ih =>
    intro v0 v1 v2 v3 σ r w0 h
    unfold Mo_store_B2 at h
    rcases ite_some h with ⟨_, h⟩ | ⟨_, h⟩
    · rw [← Option.some.inj h]; exact Fr.refl
    · replace h := (sa_some h).2
      replace h := nm_some h
      exact Fr.trans (Fr.s2 w0 Fr.refl) (ih _ _ _ _ _ _ w0 h)
theorem fr_Mo_store {P : Nat → Prop} {v0 : Nat} {v1 : Int32} {v2 : Int32} {σ : St} {r : St} (w0 : P (ch v0 33)) (h : Mo_store v0 v1 v2 σ = some r) : Fr P σ r := by
  unfold Mo_store at h
  exact Fr.trans Fr.refl (fr_Mo_store_B2  _ _ _ _ _ _ _ w0 h)
theorem fr_Mo_place1_B28 {P : Nat → Prop} {v0 : Nat} {v1 : Int32} {v2 : Int32} {v4 : Int32} {t0 : Int32} {σ : St} {r : Int32 × St} (h : Mo_place1_B28 v0 v1 v2 v4 t0 σ = some r) : Fr P σ r.2 := by
  unfold Mo_place1_B28 at h
  rcases ite_some h with ⟨_, h⟩ | ⟨_, h⟩
  · rw [← Option.some.inj h]; exact Fr.refl
  · obtain ⟨_, σ1, e1, h⟩ := cl_some h
    have f1 : Fr P _ _ := Fr.trans Fr.refl (fr_Mo_reg   e1)
    rw [← Option.some.inj h]; exact f1
theorem fr_Mo_place1 {P : Nat → Prop} {v0 : Nat} {v1 : Int32} {v2 : Int32} {σ : St} {r : Int32 × St} (h : Mo_place1 v0 v1 v2 σ = some r) : Fr P σ r.2 := by
  unfold Mo_place1 at h
  replace h := nm_some h
  replace h := nm_some h
  rcases ite_some h with ⟨_, h⟩ | ⟨_, h⟩
  · exact Fr.trans Fr.refl (fr_Mo_place1_B28   h)
  · obtain ⟨_, σ3, e3, h⟩ := cl_some h
    have f3 : Fr P _ _ := Fr.trans Fr.refl (fr_Mo_reg   e3)
    exact Fr.trans f3 (fr_Mo_place1_B28   h)
theorem fr_Mo_begin_B78 {P : Nat → Prop} : ∀ (n : Nat) (v0 : Nat) (v1 : Int32) (v2 : Int32) (σ : St) (r : St), P v0 → P (ch v0 32) → P (ch v0 35) → P (ch v0 37) → P (ch v0 38) → Mo_begin_B78 n v0 v1 v2 σ = some r → Fr P σ r := by
  intro n
  induction n with
  | zero => intro v0 v1 v2 σ r w0 w1 w2 w3 w4 h; unfold Mo_begin_B78 at h; cases h
  | succ n ih =>
    intro v0 v1 v2 σ r w0 w1 w2 w3 w4 h
    unfold Mo_begin_B78 at h
    rcases ite_some h with ⟨_, h⟩ | ⟨_, h⟩
    · replace h := (sa_some h).2
      replace h := (sa_some h).2
      replace h := (sa_some h).2
      replace h := nm_some h
      rcases ite_some h with ⟨_, h⟩ | ⟨_, h⟩
      · replace h := nm_some h
        rw [← Option.some.inj h]; exact (Fr.s2 w0 (Fr.s2 w0 (Fr.s2 w4 (Fr.s2 w3 (Fr.s2 w2 Fr.refl)))))
      · replace h := nm_some h
        rw [← Option.some.inj h]; exact (Fr.s2 w0 (Fr.s2 w0 (Fr.s2 w4 (Fr.s2 w3 (Fr.s2 w2 Fr.refl)))))
    · replace h := (sa_some h).2
      replace h := nm_some h
      exact Fr.trans (Fr.s2 w1 Fr.refl) (ih _ _ _ _ _ w0 w1 w2 w3 w4 h)
theorem fr_Mo_begin_B45 {P : Nat → Prop} : ∀ (n : Nat) (v0 : Nat) (v1 : Int32) (v2 : Int32) (σ : St) (r : St), P v0 → P (ch v0 32) → P (ch v0 33) → P (ch v0 35) → P (ch v0 37) → P (ch v0 38) → Mo_begin_B45 n v0 v1 v2 σ = some r → Fr P σ r := by
  intro n
  induction n with
  | zero => intro v0 v1 v2 σ r w0 w1 w2 w3 w4 w5 h; unfold Mo_begin_B45 at h; cases h
  | succ n ih =>
    intro v0 v1 v2 σ r w0 w1 w2 w3 w4 w5 h
    unfold Mo_begin_B45 at h
    rcases ite_some h with ⟨_, h⟩ | ⟨_, h⟩
    · exact Fr.trans Fr.refl (fr_Mo_begin_B78  _ _ _ _ _ _ w0 w1 w3 w4 w5 h)
    · replace h := (ld_some h).2
      replace h := (sa_some h).2
      replace h := nm_some h
      exact Fr.trans (Fr.s2 w2 Fr.refl) (ih _ _ _ _ _ w0 w1 w2 w3 w4 w5 h)
theorem fr_Mo_begin_B14 {P : Nat → Prop} : ∀ (n : Nat) (v0 : Nat) (v1 : Int32) (v2 : Int32) (σ : St) (r : St), P v0 → P (ch v0 31) → P (ch v0 32) → P (ch v0 33) → P (ch v0 35) → P (ch v0 37) → P (ch v0 38) → Mo_begin_B14 n v0 v1 v2 σ = some r → Fr P σ r := by
  intro n
  induction n with
  | zero => intro v0 v1 v2 σ r w0 w1 w2 w3 w4 w5 w6 h; unfold Mo_begin_B14 at h; cases h
  | succ n ih =>
    intro v0 v1 v2 σ r w0 w1 w2 w3 w4 w5 w6 h
    unfold Mo_begin_B14 at h
    rcases ite_some h with ⟨_, h⟩ | ⟨_, h⟩
    · exact Fr.trans Fr.refl (fr_Mo_begin_B45  _ _ _ _ _ _ w0 w2 w3 w4 w5 w6 h)
    · replace h := (ld_some h).2
      replace h := (sa_some h).2
      replace h := nm_some h
      exact Fr.trans (Fr.s2 w1 Fr.refl) (ih _ _ _ _ _ w0 w1 w2 w3 w4 w5 w6 h)
theorem fr_Mo_begin {P : Nat → Prop} {v0 : Nat} {v1 : Int32} {σ : St} {r : St} (w0 : P v0) (w1 : P (ch v0 30)) (w2 : P (ch v0 31)) (w3 : P (ch v0 32)) (w4 : P (ch v0 33)) (w5 : P (ch v0 35)) (w6 : P (ch v0 37)) (w7 : P (ch v0 38)) (h : Mo_begin v0 v1 σ = some r) : Fr P σ r := by
  unfold Mo_begin at h
  replace h := nm_some h
  replace h := (sa_some h).2
  exact Fr.trans (Fr.s2 w1 (Fr.s2 w0 Fr.refl)) (fr_Mo_begin_B14  _ _ _ _ _ _ w0 w2 w3 w4 w5 w6 w7 h)
theorem fr_Mo_result_B21 {P : Nat → Prop} {v0 : Nat} {v1 : Int32} {t0 : Nat} {t1 : Int32} {t2 : Int32} {σ : St} {r : St} (w0 : P t0) (w1 : P (ch v0 32)) (h : Mo_result_B21 v0 v1 t0 t1 t2 σ = some r) : Fr P σ r := by
  unfold Mo_result_B21 at h
  replace h := (sr_two h).2
  rcases ite_some h with ⟨_, h⟩ | ⟨_, h⟩
  · replace h := (sa_some h).2
    rw [← Option.some.inj h]; exact (Fr.s2 w1 (Fr.s2 w0 Fr.refl))
  · replace h := (sa_some h).2
    rw [← Option.some.inj h]; exact (Fr.s2 w1 (Fr.s2 w0 Fr.refl))
theorem fr_Mo_result {P : Nat → Prop} {v0 : Nat} {v1 : Int32} {σ : St} {r : St} (w0 : P (ch v0 32)) (h : Mo_result v0 v1 σ = some r) : Fr P σ r := by
  unfold Mo_result at h
  rcases ite_some h with ⟨_, h⟩ | ⟨_, h⟩
  · exact Fr.trans Fr.refl (fr_Mo_result_B21  w0 w0 h)
  · exact Fr.trans Fr.refl (fr_Mo_result_B21  w0 w0 h)
theorem fr_Mo_setFlags_B21 {P : Nat → Prop} {v0 : Nat} {v2 : Int32} {t0 : Nat} {t1 : Int32} {t2 : Int32} {σ : St} {r : St} (w0 : P t0) (w1 : P (ch v0 32)) (h : Mo_setFlags_B21 v0 v2 t0 t1 t2 σ = some r) : Fr P σ r := by
  unfold Mo_setFlags_B21 at h
  replace h := (sr_two h).2
  rcases ite_some h with ⟨_, h⟩ | ⟨_, h⟩
  · replace h := (sa_some h).2
    rw [← Option.some.inj h]; exact (Fr.s2 w1 (Fr.s2 w0 Fr.refl))
  · replace h := (sa_some h).2
    rw [← Option.some.inj h]; exact (Fr.s2 w1 (Fr.s2 w0 Fr.refl))
theorem fr_Mo_setFlags {P : Nat → Prop} {v0 : Nat} {v1 : Int32} {v2 : Int32} {σ : St} {r : St} (w0 : P (ch v0 32)) (h : Mo_setFlags v0 v1 v2 σ = some r) : Fr P σ r := by
  unfold Mo_setFlags at h
  rcases ite_some h with ⟨_, h⟩ | ⟨_, h⟩
  · exact Fr.trans Fr.refl (fr_Mo_setFlags_B21  w0 w0 h)
  · exact Fr.trans Fr.refl (fr_Mo_setFlags_B21  w0 w0 h)
theorem fr_Mo_added_B62 {P : Nat → Prop} {v0 : Nat} {v8 : Int32} {t0 : Nat} {t1 : Int32} {t2 : Int32} {σ : St} {r : Int32 × St} (w0 : P (ch t0 32)) (w1 : P (ch v0 32)) (h : Mo_added_B62 v0 v8 t0 t1 t2 σ = some r) : Fr P σ r.2 := by
  unfold Mo_added_B62 at h
  obtain ⟨σ1, e1, h⟩ := cv_some h
  have f1 : Fr P _ _ := Fr.trans Fr.refl (fr_Mo_setFlags  w0 e1)
  obtain ⟨σ2, e2, h⟩ := cv_some h
  have f2 : Fr P _ _ := Fr.trans f1 (fr_Mo_result  w1 e2)
  rw [← Option.some.inj h]; exact f2
theorem fr_Mo_added {P : Nat → Prop} {v0 : Nat} {v1 : Int32} {v2 : Int32} {v3 : Int32} {σ : St} {r : Int32 × St} (w0 : P (ch v0 32)) (h : Mo_added v0 v1 v2 v3 σ = some r) : Fr P σ r.2 := by
  unfold Mo_added at h
  replace h := nm_some h
  replace h := nm_some h
  replace h := nm_some h
  rcases ite_some h with ⟨_, h⟩ | ⟨_, h⟩
  · rcases ite_some h with ⟨_, h⟩ | ⟨_, h⟩
    · exact Fr.trans Fr.refl (fr_Mo_added_B62  w0 w0 h)
    · exact Fr.trans Fr.refl (fr_Mo_added_B62  w0 w0 h)
  · rcases ite_some h with ⟨_, h⟩ | ⟨_, h⟩
    · exact Fr.trans Fr.refl (fr_Mo_added_B62  w0 w0 h)
    · exact Fr.trans Fr.refl (fr_Mo_added_B62  w0 w0 h)
theorem fr_Mo_taken_B54 {P : Nat → Prop} {v0 : Nat} {v6 : Int32} {t0 : Nat} {t1 : Int32} {t2 : Int32} {σ : St} {r : Int32 × St} (w0 : P (ch t0 32)) (w1 : P (ch v0 32)) (h : Mo_taken_B54 v0 v6 t0 t1 t2 σ = some r) : Fr P σ r.2 := by
  unfold Mo_taken_B54 at h
  obtain ⟨σ1, e1, h⟩ := cv_some h
  have f1 : Fr P _ _ := Fr.trans Fr.refl (fr_Mo_setFlags  w0 e1)
  obtain ⟨σ2, e2, h⟩ := cv_some h
  have f2 : Fr P _ _ := Fr.trans f1 (fr_Mo_result  w1 e2)
  rw [← Option.some.inj h]; exact f2
theorem fr_Mo_taken {P : Nat → Prop} {v0 : Nat} {v1 : Int32} {v2 : Int32} {v3 : Int32} {σ : St} {r : Int32 × St} (w0 : P (ch v0 32)) (h : Mo_taken v0 v1 v2 v3 σ = some r) : Fr P σ r.2 := by
  unfold Mo_taken at h
  replace h := nm_some h
  replace h := nm_some h
  rcases ite_some h with ⟨_, h⟩ | ⟨_, h⟩
  · rcases ite_some h with ⟨_, h⟩ | ⟨_, h⟩
    · exact Fr.trans Fr.refl (fr_Mo_taken_B54  w0 w0 h)
    · exact Fr.trans Fr.refl (fr_Mo_taken_B54  w0 w0 h)
  · rcases ite_some h with ⟨_, h⟩ | ⟨_, h⟩
    · exact Fr.trans Fr.refl (fr_Mo_taken_B54  w0 w0 h)
    · exact Fr.trans Fr.refl (fr_Mo_taken_B54  w0 w0 h)
theorem fr_Mo_plainResult {P : Nat → Prop} {v0 : Nat} {v1 : Int32} {σ : St} {r : Int32 × St} (w0 : P (ch v0 32)) (h : Mo_plainResult v0 v1 σ = some r) : Fr P σ r.2 := by
  unfold Mo_plainResult at h
  obtain ⟨σ1, e1, h⟩ := cv_some h
  have f1 : Fr P _ _ := Fr.trans Fr.refl (fr_Mo_setFlags  w0 e1)
  obtain ⟨σ2, e2, h⟩ := cv_some h
  have f2 : Fr P _ _ := Fr.trans f1 (fr_Mo_result  w0 e2)
  rw [← Option.some.inj h]; exact f2
theorem fr_Mo_shifted_B140 {P : Nat → Prop} {v0 : Nat} {v5 : Int32} {v7 : Int32} {t0 : Nat} {t1 : Int32} {σ : St} {r : Int32 × St} (w0 : P (ch t0 32)) (w1 : P (ch v0 32)) (h : Mo_shifted_B140 v0 v5 v7 t0 t1 σ = some r) : Fr P σ r.2 := by
  unfold Mo_shifted_B140 at h
  obtain ⟨σ1, e1, h⟩ := cv_some h
  have f1 : Fr P _ _ := Fr.trans Fr.refl (fr_Mo_setFlags  w0 e1)
  obtain ⟨σ2, e2, h⟩ := cv_some h
  have f2 : Fr P _ _ := Fr.trans f1 (fr_Mo_result  w1 e2)
  rw [← Option.some.inj h]; exact f2
theorem fr_Mo_shifted_B71 {P : Nat → Prop} {v0 : Nat} {v1 : Int32} {v2 : Int32} {v5 : Int32} {t0 : Int32} {σ : St} {r : Int32 × St} (w0 : P (ch v0 32)) (h : Mo_shifted_B71 v0 v1 v2 v5 t0 σ = some r) : Fr P σ r.2 := by
  unfold Mo_shifted_B71 at h
  rcases ite_some h with ⟨_, h⟩ | ⟨_, h⟩
  · rcases ite_some h with ⟨_, h⟩ | ⟨_, h⟩
    · rcases ite_some h with ⟨_, h⟩ | ⟨_, h⟩
      · exact Fr.trans Fr.refl (fr_Mo_shifted_B140  w0 w0 h)
      · exact Fr.trans Fr.refl (fr_Mo_shifted_B140  w0 w0 h)
    · rcases ite_some h with ⟨_, h⟩ | ⟨_, h⟩
      · rcases ite_some h with ⟨_, h⟩ | ⟨_, h⟩
        · exact Fr.trans Fr.refl (fr_Mo_shifted_B140  w0 w0 h)
        · exact Fr.trans Fr.refl (fr_Mo_shifted_B140  w0 w0 h)
      · rcases ite_some h with ⟨_, h⟩ | ⟨_, h⟩
        · exact Fr.trans Fr.refl (fr_Mo_shifted_B140  w0 w0 h)
        · exact Fr.trans Fr.refl (fr_Mo_shifted_B140  w0 w0 h)
  · rcases ite_some h with ⟨_, h⟩ | ⟨_, h⟩
    · rcases ite_some h with ⟨_, h⟩ | ⟨_, h⟩
      · rcases ite_some h with ⟨_, h⟩ | ⟨_, h⟩
        · exact Fr.trans Fr.refl (fr_Mo_shifted_B140  w0 w0 h)
        · exact Fr.trans Fr.refl (fr_Mo_shifted_B140  w0 w0 h)
      · rcases ite_some h with ⟨_, h⟩ | ⟨_, h⟩
        · exact Fr.trans Fr.refl (fr_Mo_shifted_B140  w0 w0 h)
        · exact Fr.trans Fr.refl (fr_Mo_shifted_B140  w0 w0 h)
    · rcases ite_some h with ⟨_, h⟩ | ⟨_, h⟩
      · rcases ite_some h with ⟨_, h⟩ | ⟨_, h⟩
        · exact Fr.trans Fr.refl (fr_Mo_shifted_B140  w0 w0 h)
        · exact Fr.trans Fr.refl (fr_Mo_shifted_B140  w0 w0 h)
      · rcases ite_some h with ⟨_, h⟩ | ⟨_, h⟩
        · exact Fr.trans Fr.refl (fr_Mo_shifted_B140  w0 w0 h)
        · exact Fr.trans Fr.refl (fr_Mo_shifted_B140  w0 w0 h)
theorem fr_Mo_shifted_B43 {P : Nat → Prop} {v0 : Nat} {v1 : Int32} {v2 : Int32} {v4 : Int32} {t0 : Int32} {σ : St} {r : Int32 × St} (w0 : P (ch v0 32)) (h : Mo_shifted_B43 v0 v1 v2 v4 t0 σ = some r) : Fr P σ r.2 := by
  unfold Mo_shifted_B43 at h
  rcases ite_some h with ⟨_, h⟩ | ⟨_, h⟩
  · exact Fr.trans Fr.refl (fr_Mo_shifted_B71  w0 h)
  · exact Fr.trans Fr.refl (fr_Mo_shifted_B71  w0 h)
theorem fr_Mo_shifted {P : Nat → Prop} {v0 : Nat} {v1 : Int32} {v2 : Int32} {v3 : Int32} {σ : St} {r : Int32 × St} (w0 : P (ch v0 32)) (h : Mo_shifted v0 v1 v2 v3 σ = some r) : Fr P σ r.2 := by
  unfold Mo_shifted at h
  replace h := nm_some h
  rcases ite_some h with ⟨_, h⟩ | ⟨_, h⟩
  · rcases ite_some h with ⟨_, h⟩ | ⟨_, h⟩
    · rcases ite_some h with ⟨_, h⟩ | ⟨_, h⟩
      · exact Fr.trans Fr.refl (fr_Mo_shifted_B43  w0 h)
      · exact Fr.trans Fr.refl (fr_Mo_shifted_B43  w0 h)
    · exact Fr.trans Fr.refl (fr_Mo_shifted_B43  w0 h)
  · rw [← Option.some.inj h]; exact Fr.refl
theorem fr_Mo_worked_B134 {P : Nat → Prop} {v0 : Nat} {v2 : Int32} {v3 : Int32} {σ : St} {r : Int32 × St} (w0 : P (ch v0 32)) (h : Mo_worked_B134 v0 v2 v3 σ = some r) : Fr P σ r.2 := by
  unfold Mo_worked_B134 at h
  obtain ⟨_, σ1, e1, h⟩ := cl_some h
  have f1 : Fr P _ _ := Fr.trans Fr.refl (fr_Mo_plainResult  w0 e1)
  rw [← Option.some.inj h]; exact f1
theorem fr_Mo_worked_B142 {P : Nat → Prop} {v0 : Nat} {v2 : Int32} {v3 : Int32} {σ : St} {r : Int32 × St} (w0 : P (ch v0 32)) (h : Mo_worked_B142 v0 v2 v3 σ = some r) : Fr P σ r.2 := by
  unfold Mo_worked_B142 at h
  obtain ⟨_, σ1, e1, h⟩ := cl_some h
  have f1 : Fr P _ _ := Fr.trans Fr.refl (fr_Mo_taken  w0 e1)
  rw [← Option.some.inj h]; exact f1
theorem fr_Mo_worked_B201 {P : Nat → Prop} {v0 : Nat} {v7 : Int32} {t0 : Nat} {t1 : Int32} {t2 : Int32} {σ : St} {r : Int32 × St} (w0 : P (ch t0 32)) (w1 : P (ch v0 32)) (h : Mo_worked_B201 v0 v7 t0 t1 t2 σ = some r) : Fr P σ r.2 := by
  unfold Mo_worked_B201 at h
  obtain ⟨σ1, e1, h⟩ := cv_some h
  have f1 : Fr P _ _ := Fr.trans Fr.refl (fr_Mo_setFlags  w0 e1)
  obtain ⟨σ2, e2, h⟩ := cv_some h
  have f2 : Fr P _ _ := Fr.trans f1 (fr_Mo_result  w1 e2)
  rw [← Option.some.inj h]; exact f2
theorem fr_Mo_worked_B225 {P : Nat → Prop} {v0 : Nat} {v1 : Int32} {v2 : Int32} {v3 : Int32} {σ : St} {r : Int32 × St} (w0 : P (ch v0 32)) (h : Mo_worked_B225 v0 v1 v2 v3 σ = some r) : Fr P σ r.2 := by
  unfold Mo_worked_B225 at h
  obtain ⟨_, σ1, e1, h⟩ := cl_some h
  have f1 : Fr P _ _ := Fr.trans Fr.refl (fr_Mo_shifted  w0 e1)
  rw [← Option.some.inj h]; exact f1
theorem fr_Mo_worked_B256 {P : Nat → Prop} {v0 : Nat} {v4 : Int32} {t0 : Int32} {σ : St} {r : Int32 × St} (w0 : P (ch v0 32)) (h : Mo_worked_B256 v0 v4 t0 σ = some r) : Fr P σ r.2 := by
  unfold Mo_worked_B256 at h
  replace h := (sa_some h).2
  rw [← Option.some.inj h]; exact (Fr.s2 w0 Fr.refl)
theorem fr_Mo_worked_B233 {P : Nat → Prop} {v0 : Nat} {v1 : Int32} {v2 : Int32} {v4 : Int32} {σ : St} {r : Int32 × St} (w0 : P (ch v0 32)) (h : Mo_worked_B233 v0 v1 v2 v4 σ = some r) : Fr P σ r.2 := by
  unfold Mo_worked_B233 at h
  rcases ite_some h with ⟨_, h⟩ | ⟨_, h⟩
  · obtain ⟨_, σ1, e1, h⟩ := cl_some h
    have f1 : Fr P _ _ := Fr.trans Fr.refl (fr_Mo_taken  w0 e1)
    exact Fr.trans f1 (fr_Mo_worked_B256  w0 h)
  · obtain ⟨_, σ3, e3, h⟩ := cl_some h
    have f3 : Fr P _ _ := Fr.trans Fr.refl (fr_Mo_added  w0 e3)
    exact Fr.trans f3 (fr_Mo_worked_B256  w0 h)
theorem fr_Mo_worked {P : Nat → Prop} {v0 : Nat} {v1 : Int32} {v2 : Int32} {v3 : Int32} {σ : St} {r : Int32 × St} (w0 : P (ch v0 32)) (h : Mo_worked v0 v1 v2 v3 σ = some r) : Fr P σ r.2 := by
  unfold Mo_worked at h
  replace h := (ld_some h).2
  rcases ite_some h with ⟨_, h⟩ | ⟨_, h⟩
  · obtain ⟨_, σ2, e2, h⟩ := cl_some h
    have f2 : Fr P _ _ := Fr.trans Fr.refl (fr_Mo_added  w0 e2)
    rw [← Option.some.inj h]; exact f2
  · rcases ite_some h with ⟨_, h⟩ | ⟨_, h⟩
    · obtain ⟨_, σ4, e4, h⟩ := cl_some h
      have f4 : Fr P _ _ := Fr.trans Fr.refl (fr_Mo_plainResult  w0 e4)
      rw [← Option.some.inj h]; exact f4
    · rcases ite_some h with ⟨_, h⟩ | ⟨_, h⟩
      · obtain ⟨_, σ6, e6, h⟩ := cl_some h
        have f6 : Fr P _ _ := Fr.trans Fr.refl (fr_Mo_added  w0 e6)
        rw [← Option.some.inj h]; exact f6
      · rcases ite_some h with ⟨_, h⟩ | ⟨_, h⟩
        · obtain ⟨_, σ8, e8, h⟩ := cl_some h
          have f8 : Fr P _ _ := Fr.trans Fr.refl (fr_Mo_taken  w0 e8)
          rw [← Option.some.inj h]; exact f8
        · rcases ite_some h with ⟨_, h⟩ | ⟨_, h⟩
          · exact Fr.trans Fr.refl (fr_Mo_worked_B134  w0 h)
          · rcases ite_some h with ⟨_, h⟩ | ⟨_, h⟩
            · exact Fr.trans Fr.refl (fr_Mo_worked_B142  w0 h)
            · rcases ite_some h with ⟨_, h⟩ | ⟨_, h⟩
              · obtain ⟨_, σ10, e10, h⟩ := cl_some h
                have f10 : Fr P _ _ := Fr.trans Fr.refl (fr_Mo_plainResult  w0 e10)
                rw [← Option.some.inj h]; exact f10
              · rcases ite_some h with ⟨_, h⟩ | ⟨_, h⟩
                · exact Fr.trans Fr.refl (fr_Mo_worked_B142  w0 h)
                · rcases ite_some h with ⟨_, h⟩ | ⟨_, h⟩
                  · rw [← Option.some.inj h]; exact Fr.refl
                  · rcases ite_some h with ⟨_, h⟩ | ⟨_, h⟩
                    · exact Fr.trans Fr.refl (fr_Mo_worked_B134  w0 h)
                    · rcases ite_some h with ⟨_, h⟩ | ⟨_, h⟩
                      · exact Fr.trans Fr.refl (fr_Mo_worked_B233  w0 h)
                      · rcases ite_some h with ⟨_, h⟩ | ⟨_, h⟩
                        · replace h := nm_some h
                          replace h := nm_some h
                          rcases ite_some h with ⟨_, h⟩ | ⟨_, h⟩
                          · rcases ite_some h with ⟨_, h⟩ | ⟨_, h⟩
                            · exact Fr.trans Fr.refl (fr_Mo_worked_B201  w0 w0 h)
                            · exact Fr.trans Fr.refl (fr_Mo_worked_B201  w0 w0 h)
                          · rcases ite_some h with ⟨_, h⟩ | ⟨_, h⟩
                            · exact Fr.trans Fr.refl (fr_Mo_worked_B201  w0 w0 h)
                            · exact Fr.trans Fr.refl (fr_Mo_worked_B201  w0 w0 h)
                        · rcases ite_some h with ⟨_, h⟩ | ⟨_, h⟩
                          · rw [← Option.some.inj h]; exact Fr.refl
                          · rcases ite_some h with ⟨_, h⟩ | ⟨_, h⟩
                            · obtain ⟨_, σ14, e14, h⟩ := cl_some h
                              have f14 : Fr P _ _ := Fr.trans Fr.refl (fr_Mo_taken  w0 e14)
                              rw [← Option.some.inj h]; exact f14
                            · rcases ite_some h with ⟨_, h⟩ | ⟨_, h⟩
                              · exact Fr.trans Fr.refl (fr_Mo_worked_B225  w0 h)
                              · rcases ite_some h with ⟨_, h⟩ | ⟨_, h⟩
                                · exact Fr.trans Fr.refl (fr_Mo_worked_B225  w0 h)
                                · rcases ite_some h with ⟨_, h⟩ | ⟨_, h⟩
                                  · exact Fr.trans Fr.refl (fr_Mo_worked_B225  w0 h)
                                  · exact Fr.trans Fr.refl (fr_Mo_worked_B233  w0 h)
theorem fr_Mo_holds_B227 {P : Nat → Prop} {v1 : Int32} {v4 : Int32} {σ : St} {r : Int32 × St} (h : Mo_holds_B227 v1 v4 σ = some r) : Fr P σ r.2 := by
  unfold Mo_holds_B227 at h
  rcases ite_some h with ⟨_, h⟩ | ⟨_, h⟩
  · rcases ite_some h with ⟨_, h⟩ | ⟨_, h⟩
    · rw [← Option.some.inj h]; exact Fr.refl
    · rw [← Option.some.inj h]; exact Fr.refl
  · rcases ite_some h with ⟨_, h⟩ | ⟨_, h⟩
    · rw [← Option.some.inj h]; exact Fr.refl
    · rw [← Option.some.inj h]; exact Fr.refl
theorem fr_Mo_holds_B204 {P : Nat → Prop} {v0 : Nat} {v1 : Int32} {v2 : Int32} {v3 : Int32} {σ : St} {r : Int32 × St} (h : Mo_holds_B204 v0 v1 v2 v3 σ = some r) : Fr P σ r.2 := by
  unfold Mo_holds_B204 at h
  replace h := (ld_some h).2
  rcases ite_some h with ⟨_, h⟩ | ⟨_, h⟩
  · exact Fr.trans Fr.refl (fr_Mo_holds_B227   h)
  · rcases ite_some h with ⟨_, h⟩ | ⟨_, h⟩
    · exact Fr.trans Fr.refl (fr_Mo_holds_B227   h)
    · exact Fr.trans Fr.refl (fr_Mo_holds_B227   h)
theorem fr_Mo_holds_B31 {P : Nat → Prop} {v0 : Nat} {v1 : Int32} {v2 : Int32} {t0 : Int32} {σ : St} {r : Int32 × St} (h : Mo_holds_B31 v0 v1 v2 t0 σ = some r) : Fr P σ r.2 := by
  unfold Mo_holds_B31 at h
  replace h := nm_some h
  rcases ite_some h with ⟨_, h⟩ | ⟨_, h⟩
  · replace h := (ld_some h).2
    rcases ite_some h with ⟨_, h⟩ | ⟨_, h⟩
    · exact Fr.trans Fr.refl (fr_Mo_holds_B227   h)
    · exact Fr.trans Fr.refl (fr_Mo_holds_B227   h)
  · rcases ite_some h with ⟨_, h⟩ | ⟨_, h⟩
    · replace h := (ld_some h).2
      rcases ite_some h with ⟨_, h⟩ | ⟨_, h⟩
      · exact Fr.trans Fr.refl (fr_Mo_holds_B227   h)
      · exact Fr.trans Fr.refl (fr_Mo_holds_B227   h)
    · rcases ite_some h with ⟨_, h⟩ | ⟨_, h⟩
      · replace h := (ld_some h).2
        rcases ite_some h with ⟨_, h⟩ | ⟨_, h⟩
        · exact Fr.trans Fr.refl (fr_Mo_holds_B227   h)
        · exact Fr.trans Fr.refl (fr_Mo_holds_B227   h)
      · rcases ite_some h with ⟨_, h⟩ | ⟨_, h⟩
        · replace h := (ld_some h).2
          rcases ite_some h with ⟨_, h⟩ | ⟨_, h⟩
          · exact Fr.trans Fr.refl (fr_Mo_holds_B227   h)
          · replace h := (ld_some h).2
            rcases ite_some h with ⟨_, h⟩ | ⟨_, h⟩
            · exact Fr.trans Fr.refl (fr_Mo_holds_B227   h)
            · exact Fr.trans Fr.refl (fr_Mo_holds_B227   h)
        · rcases ite_some h with ⟨_, h⟩ | ⟨_, h⟩
          · replace h := (ld_some h).2
            rcases ite_some h with ⟨_, h⟩ | ⟨_, h⟩
            · exact Fr.trans Fr.refl (fr_Mo_holds_B227   h)
            · exact Fr.trans Fr.refl (fr_Mo_holds_B227   h)
          · rcases ite_some h with ⟨_, h⟩ | ⟨_, h⟩
            · exact Fr.trans Fr.refl (fr_Mo_holds_B204   h)
            · rcases ite_some h with ⟨_, h⟩ | ⟨_, h⟩
              · exact Fr.trans Fr.refl (fr_Mo_holds_B227   h)
              · exact Fr.trans Fr.refl (fr_Mo_holds_B204   h)
theorem fr_Mo_holds {P : Nat → Prop} {v0 : Nat} {v1 : Int32} {σ : St} {r : Int32 × St} (h : Mo_holds v0 v1 σ = some r) : Fr P σ r.2 := by
  unfold Mo_holds at h
  replace h := nm_some h
  replace h := (ld_some h).2
  replace h := (ld_some h).2
  rcases ite_some h with ⟨_, h⟩ | ⟨_, h⟩
  · exact Fr.trans Fr.refl (fr_Mo_holds_B31   h)
  · exact Fr.trans Fr.refl (fr_Mo_holds_B31   h)
theorem fr_Mo_isOnMemory {P : Nat → Prop} {v0 : Nat} {σ : St} {r : Int32 × St} (h : Mo_isOnMemory v0 σ = some r) : Fr P σ r.2 := by
  unfold Mo_isOnMemory at h
  rcases ite_some h with ⟨_, h⟩ | ⟨_, h⟩
  · rw [← Option.some.inj h]; exact Fr.refl
  · rcases ite_some h with ⟨_, h⟩ | ⟨_, h⟩
    · rw [← Option.some.inj h]; exact Fr.refl
    · rcases ite_some h with ⟨_, h⟩ | ⟨_, h⟩
      · rw [← Option.some.inj h]; exact Fr.refl
      · rcases ite_some h with ⟨_, h⟩ | ⟨_, h⟩
        · rw [← Option.some.inj h]; exact Fr.refl
        · rw [← Option.some.inj h]; exact Fr.refl
theorem fr_Mo_wants_B27 {P : Nat → Prop} {v0 : Nat} {σ : St} {r : Int32 × St} (h : Mo_wants_B27 v0 σ = some r) : Fr P σ r.2 := by
  unfold Mo_wants_B27 at h
  obtain ⟨_, σ1, e1, h⟩ := cl_some h
  have f1 : Fr P _ _ := Fr.trans Fr.refl (fr_Mo_reg   e1)
  obtain ⟨_, σ3, e3, h⟩ := cl_some h
  have f3 : Fr P _ _ := Fr.trans f1 (fr_Mo_isThere   e3)
  rcases ite_some h with ⟨_, h⟩ | ⟨_, h⟩
  · rw [← Option.some.inj h]; exact f3
  · rw [← Option.some.inj h]; exact f3
theorem fr_Mo_wants_B64 {P : Nat → Prop} {v0 : Nat} {σ : St} {r : Int32 × St} (h : Mo_wants_B64 v0 σ = some r) : Fr P σ r.2 := by
  unfold Mo_wants_B64 at h
  obtain ⟨_, σ1, e1, h⟩ := cl_some h
  have f1 : Fr P _ _ := Fr.trans Fr.refl (fr_Mo_reg   e1)
  obtain ⟨_, σ3, e3, h⟩ := cl_some h
  have f3 : Fr P _ _ := Fr.trans f1 (fr_Mo_isThere   e3)
  rcases ite_some h with ⟨_, h⟩ | ⟨_, h⟩
  · rw [← Option.some.inj h]; exact f3
  · rw [← Option.some.inj h]; exact f3
theorem fr_Mo_wants {P : Nat → Prop} {v0 : Nat} {σ : St} {r : Int32 × St} (h : Mo_wants v0 σ = some r) : Fr P σ r.2 := by
  unfold Mo_wants at h
  rcases ite_some h with ⟨_, h⟩ | ⟨_, h⟩
  · exact Fr.trans Fr.refl (fr_Mo_wants_B27   h)
  · rcases ite_some h with ⟨_, h⟩ | ⟨_, h⟩
    · exact Fr.trans Fr.refl (fr_Mo_wants_B27   h)
    · rcases ite_some h with ⟨_, h⟩ | ⟨_, h⟩
      · rcases ite_some h with ⟨_, h⟩ | ⟨_, h⟩
        · exact Fr.trans Fr.refl (fr_Mo_wants_B64   h)
        · rcases ite_some h with ⟨_, h⟩ | ⟨_, h⟩
          · obtain ⟨_, σ1, e1, h⟩ := cl_some h
            have f1 : Fr P _ _ := Fr.trans Fr.refl (fr_Mo_isOnMemory   e1)
            rcases ite_some h with ⟨_, h⟩ | ⟨_, h⟩
            · rw [← Option.some.inj h]; exact f1
            · rcases ite_some h with ⟨_, h⟩ | ⟨_, h⟩
              · rw [← Option.some.inj h]; exact f1
              · obtain ⟨_, σ3, e3, h⟩ := cl_some h
                have f3 : Fr P _ _ := Fr.trans f1 (fr_Mo_place1   e3)
                obtain ⟨_, σ5, e5, h⟩ := cl_some h
                have f5 : Fr P _ _ := Fr.trans f3 (fr_Mo_isThere   e5)
                rcases ite_some h with ⟨_, h⟩ | ⟨_, h⟩
                · rw [← Option.some.inj h]; exact f5
                · rw [← Option.some.inj h]; exact f5
          · exact Fr.trans Fr.refl (fr_Mo_wants_B64   h)
      · exact Fr.trans Fr.refl (fr_Mo_wants_B27   h)
theorem fr_Mo_push {P : Nat → Prop} {v0 : Nat} {v1 : Int32} {σ : St} {r : St} (w0 : P v0) (w1 : P (ch v0 31)) (w2 : P (ch v0 33)) (h : Mo_push v0 v1 σ = some r) : Fr P σ r := by
  unfold Mo_push at h
  obtain ⟨_, σ1, e1, h⟩ := cl_some h
  have f1 : Fr P _ _ := Fr.trans Fr.refl (fr_Mo_reg   e1)
  replace h := nm_some h
  obtain ⟨σ4, e4, h⟩ := cv_some h
  have f4 : Fr P _ _ := Fr.trans f1 (fr_Mo_store  w2 e4)
  obtain ⟨σ5, e5, h⟩ := cv_some h
  have f5 : Fr P _ _ := Fr.trans f4 (fr_Mo_setReg  w0 w1 e5)
  rw [← Option.some.inj h]; exact f5
theorem fr_Mo_pop {P : Nat → Prop} {v0 : Nat} {σ : St} {r : Int32 × St} (w0 : P v0) (w1 : P (ch v0 31)) (h : Mo_pop v0 σ = some r) : Fr P σ r.2 := by
  unfold Mo_pop at h
  obtain ⟨_, σ1, e1, h⟩ := cl_some h
  have f1 : Fr P _ _ := Fr.trans Fr.refl (fr_Mo_reg   e1)
  obtain ⟨_, σ3, e3, h⟩ := cl_some h
  have f3 : Fr P _ _ := Fr.trans f1 (fr_Mo_load   e3)
  obtain ⟨_, σ5, e5, h⟩ := cl_some h
  have f5 : Fr P _ _ := Fr.trans f3 (fr_Mo_reg   e5)
  obtain ⟨σ7, e7, h⟩ := cv_some h
  have f7 : Fr P _ _ := Fr.trans f5 (fr_Mo_setReg  w0 w1 e7)
  rw [← Option.some.inj h]; exact f7
theorem fr_Mo_does_B237 {P : Nat → Prop} {v0 : Nat} {v1 : Int32} {v2 : Int32} {v3 : Int32} {t0 : Int32} {σ : St} {r : St} (w0 : P v0) (w1 : P (ch v0 31)) (w2 : P (ch v0 32)) (w3 : P (ch v0 33)) (h : Mo_does_B237 v0 v1 v2 v3 t0 σ = some r) : Fr P σ r := by
  unfold Mo_does_B237 at h
  obtain ⟨_, σ1, e1, h⟩ := cl_some h
  have f1 : Fr P _ _ := Fr.trans Fr.refl (fr_Mo_worked  w2 e1)
  rcases ite_some h with ⟨_, h⟩ | ⟨_, h⟩
  · rw [← Option.some.inj h]; exact f1
  · rcases ite_some h with ⟨_, h⟩ | ⟨_, h⟩
    · rcases ite_some h with ⟨_, h⟩ | ⟨_, h⟩
      · obtain ⟨σ3, e3, h⟩ := cv_some h
        have f3 : Fr P _ _ := Fr.trans f1 (fr_Mo_setReg  w0 w1 e3)
        rw [← Option.some.inj h]; exact f3
      · obtain ⟨σ4, e4, h⟩ := cv_some h
        have f4 : Fr P _ _ := Fr.trans f1 (fr_Mo_store  w3 e4)
        rw [← Option.some.inj h]; exact f4
    · rw [← Option.some.inj h]; exact f1
theorem fr_Mo_does_B178 {P : Nat → Prop} {v0 : Nat} {v1 : Int32} {v2 : Int32} {t0 : Int32} {σ : St} {r : St} (w0 : P v0) (w1 : P (ch v0 31)) (w2 : P (ch v0 32)) (w3 : P (ch v0 33)) (h : Mo_does_B178 v0 v1 v2 t0 σ = some r) : Fr P σ r := by
  unfold Mo_does_B178 at h
  rcases ite_some h with ⟨_, h⟩ | ⟨_, h⟩
  · rcases ite_some h with ⟨_, h⟩ | ⟨_, h⟩
    · rcases ite_some h with ⟨_, h⟩ | ⟨_, h⟩
      · exact Fr.trans Fr.refl (fr_Mo_does_B237  w0 w1 w2 w3 h)
      · obtain ⟨_, σ1, e1, h⟩ := cl_some h
        have f1 : Fr P _ _ := Fr.trans Fr.refl (fr_Mo_reg   e1)
        exact Fr.trans f1 (fr_Mo_does_B237  w0 w1 w2 w3 h)
    · obtain ⟨_, σ3, e3, h⟩ := cl_some h
      have f3 : Fr P _ _ := Fr.trans Fr.refl (fr_Mo_load   e3)
      exact Fr.trans f3 (fr_Mo_does_B237  w0 w1 w2 w3 h)
  · obtain ⟨_, σ5, e5, h⟩ := cl_some h
    have f5 : Fr P _ _ := Fr.trans Fr.refl (fr_Mo_reg   e5)
    exact Fr.trans f5 (fr_Mo_does_B237  w0 w1 w2 w3 h)
theorem fr_Mo_does_B157 {P : Nat → Prop} {v0 : Nat} {v1 : Int32} {t0 : Int32} {σ : St} {r : St} (w0 : P v0) (w1 : P (ch v0 31)) (w2 : P (ch v0 32)) (w3 : P (ch v0 33)) (h : Mo_does_B157 v0 v1 t0 σ = some r) : Fr P σ r := by
  unfold Mo_does_B157 at h
  rcases ite_some h with ⟨_, h⟩ | ⟨_, h⟩
  · obtain ⟨_, σ1, e1, h⟩ := cl_some h
    have f1 : Fr P _ _ := Fr.trans Fr.refl (fr_Mo_reg   e1)
    exact Fr.trans f1 (fr_Mo_does_B178  w0 w1 w2 w3 h)
  · obtain ⟨_, σ3, e3, h⟩ := cl_some h
    have f3 : Fr P _ _ := Fr.trans Fr.refl (fr_Mo_load   e3)
    exact Fr.trans f3 (fr_Mo_does_B178  w0 w1 w2 w3 h)
theorem fr_Mo_does_B133 {P : Nat → Prop} {v0 : Nat} {t0 : Int32} {σ : St} {r : St} (w0 : P v0) (w1 : P (ch v0 31)) (w2 : P (ch v0 32)) (w3 : P (ch v0 33)) (h : Mo_does_B133 v0 t0 σ = some r) : Fr P σ r := by
  unfold Mo_does_B133 at h
  obtain ⟨_, σ1, e1, h⟩ := cl_some h
  have f1 : Fr P _ _ := Fr.trans Fr.refl (fr_Mo_isOnMemory   e1)
  rcases ite_some h with ⟨_, h⟩ | ⟨_, h⟩
  · exact Fr.trans f1 (fr_Mo_does_B157  w0 w1 w2 w3 h)
  · obtain ⟨_, σ3, e3, h⟩ := cl_some h
    have f3 : Fr P _ _ := Fr.trans f1 (fr_Mo_place1   e3)
    exact Fr.trans f3 (fr_Mo_does_B157  w0 w1 w2 w3 h)
theorem fr_Mo_does {P : Nat → Prop} {v0 : Nat} {σ : St} {r : St} (w0 : P v0) (w1 : P (ch v0 31)) (w2 : P (ch v0 32)) (w3 : P (ch v0 33)) (h : Mo_does v0 σ = some r) : Fr P σ r := by
  unfold Mo_does at h
  rcases ite_some h with ⟨_, h⟩ | ⟨_, h⟩
  · rcases ite_some h with ⟨_, h⟩ | ⟨_, h⟩
    · rcases ite_some h with ⟨_, h⟩ | ⟨_, h⟩
      · rcases ite_some h with ⟨_, h⟩ | ⟨_, h⟩
        · rcases ite_some h with ⟨_, h⟩ | ⟨_, h⟩
          · exact Fr.trans Fr.refl (fr_Mo_does_B133  w0 w1 w2 w3 h)
          · rcases ite_some h with ⟨_, h⟩ | ⟨_, h⟩
            · exact Fr.trans Fr.refl (fr_Mo_does_B133  w0 w1 w2 w3 h)
            · rcases ite_some h with ⟨_, h⟩ | ⟨_, h⟩
              · exact Fr.trans Fr.refl (fr_Mo_does_B133  w0 w1 w2 w3 h)
              · exact Fr.trans Fr.refl (fr_Mo_does_B133  w0 w1 w2 w3 h)
        · obtain ⟨_, σ1, e1, h⟩ := cl_some h
          have f1 : Fr P _ _ := Fr.trans Fr.refl (fr_Mo_place1   e1)
          obtain ⟨σ3, e3, h⟩ := cv_some h
          have f3 : Fr P _ _ := Fr.trans f1 (fr_Mo_setReg  w0 w1 e3)
          rw [← Option.some.inj h]; exact f3
      · rw [← Option.some.inj h]; exact Fr.refl
    · obtain ⟨_, σ4, e4, h⟩ := cl_some h
      have f4 : Fr P _ _ := Fr.trans Fr.refl (fr_Mo_pop  w0 w1 e4)
      obtain ⟨σ6, e6, h⟩ := cv_some h
      have f6 : Fr P _ _ := Fr.trans f4 (fr_Mo_setReg  w0 w1 e6)
      rw [← Option.some.inj h]; exact f6
  · rcases ite_some h with ⟨_, h⟩ | ⟨_, h⟩
    · obtain ⟨_, σ7, e7, h⟩ := cl_some h
      have f7 : Fr P _ _ := Fr.trans Fr.refl (fr_Mo_reg   e7)
      obtain ⟨σ9, e9, h⟩ := cv_some h
      have f9 : Fr P _ _ := Fr.trans f7 (fr_Mo_push  w0 w1 w3 e9)
      rw [← Option.some.inj h]; exact f9
    · obtain ⟨σ10, e10, h⟩ := cv_some h
      have f10 : Fr P _ _ := Fr.trans Fr.refl (fr_Mo_push  w0 w1 w3 e10)
      rw [← Option.some.inj h]; exact f10
theorem fr_Mo_takes {P : Nat → Prop} {v0 : Nat} {v1 : Int32} {v2 : Int32} {v3 : Int32} {v4 : Int32} {v5 : Int32} {v6 : Int32} {σ : St} {r : St} (w0 : P v0) (h : Mo_takes v0 v1 v2 v3 v4 v5 v6 σ = some r) : Fr P σ r := by
  unfold Mo_takes at h
  replace h := nm_some h
  replace h := nm_some h
  replace h := nm_some h
  replace h := nm_some h
  replace h := nm_some h
  replace h := nm_some h
  rw [← Option.some.inj h]; exact (Fr.s2 w0 (Fr.s2 w0 (Fr.s2 w0 (Fr.s2 w0 (Fr.s2 w0 (Fr.s2 w0 Fr.refl))))))
theorem fr_Mo_serves_B81 {P : Nat → Prop} {v0 : Nat} {t0 : Nat} {t1 : Int32} {t2 : Int32} {σ : St} {r : St} (w0 : P t0) (w1 : P (ch t0 31)) (w2 : P v0) (h : Mo_serves_B81 v0 t0 t1 t2 σ = some r) : Fr P σ r := by
  unfold Mo_serves_B81 at h
  obtain ⟨σ1, e1, h⟩ := cv_some h
  have f1 : Fr P _ _ := Fr.trans Fr.refl (fr_Mo_setReg  w0 w1 e1)
  rcases ite_some h with ⟨_, h⟩ | ⟨_, h⟩
  · replace h := nm_some h
    rw [← Option.some.inj h]; exact (Fr.s2 w2 f1)
  · replace h := nm_some h
    rw [← Option.some.inj h]; exact (Fr.s2 w2 f1)
theorem fr_Mo_serves {P : Nat → Prop} {v0 : Nat} {v1 : Int32} {σ : St} {r : St} (w0 : P v0) (w1 : P (ch v0 31)) (w2 : P (ch v0 34)) (w3 : P (ch v0 35)) (h : Mo_serves v0 v1 σ = some r) : Fr P σ r := by
  unfold Mo_serves at h
  rcases ite_some h with ⟨_, h⟩ | ⟨_, h⟩
  · rcases ite_some h with ⟨_, h⟩ | ⟨_, h⟩
    · replace h := (ld_some h).2
      obtain ⟨σ2, e2, h⟩ := cv_some h
      have f2 : Fr P _ _ := Fr.trans Fr.refl (fr_Mo_setReg  w0 w1 e2)
      rw [← Option.some.inj h]; exact f2
    · rcases ite_some h with ⟨_, h⟩ | ⟨_, h⟩
      · exact Fr.trans Fr.refl (fr_Mo_serves_B81  w0 w1 w0 h)
      · replace h := (ld_some h).2
        exact Fr.trans Fr.refl (fr_Mo_serves_B81  w0 w1 w0 h)
  · replace h := (ld_some h).2
    obtain ⟨_, σ5, e5, h⟩ := cl_some h
    have f5 : Fr P _ _ := Fr.trans Fr.refl (fr_Mo_reg   e5)
    replace h := (sa_some h).2
    replace h := nm_some h
    replace h := (ld_some h).2
    replace h := (sa_some h).2
    rw [← Option.some.inj h]; exact (Fr.s2 w3 (Fr.s2 w2 f5))
theorem fr_Mo_step_B63 {P : Nat → Prop} {v0 : Nat} {v1 : Int32} {σ : St} {r : Int32 × St} (w0 : P v0) (w1 : P (ch v0 31)) (w2 : P (ch v0 34)) (w3 : P (ch v0 35)) (w4 : P (ch v0 36)) (w5 : P (ch v0 37)) (h : Mo_step_B63 v0 v1 σ = some r) : Fr P σ r.2 := by
  unfold Mo_step_B63 at h
  obtain ⟨σ1, e1, h⟩ := cv_some h
  have f1 : Fr P _ _ := Fr.trans Fr.refl (fr_Mo_serves  w0 w1 w2 w3 e1)
  obtain ⟨_, σ2, e2, h⟩ := cl_some h
  have f2 : Fr P _ _ := Fr.trans f1 (fr_Mo_pop  w0 w1 e2)
  replace h := (sa_some h).2
  replace h := (ld_some h).2
  replace h := (sa_some h).2
  rw [← Option.some.inj h]; exact (Fr.s2 w5 (Fr.s2 w4 f2))
theorem fr_Mo_step_B349 {P : Nat → Prop} {v0 : Nat} {v5 : Int32} {σ : St} {r : Int32 × St} (w0 : P v0) (w1 : P (ch v0 31)) (w2 : P (ch v0 32)) (w3 : P (ch v0 33)) (w4 : P (ch v0 36)) (h : Mo_step_B349 v0 v5 σ = some r) : Fr P σ r.2 := by
  unfold Mo_step_B349 at h
  rcases ite_some h with ⟨_, h⟩ | ⟨_, h⟩
  · replace h := (sa_some h).2
    rw [← Option.some.inj h]; exact (Fr.s2 w4 Fr.refl)
  · obtain ⟨σ2, e2, h⟩ := cv_some h
    have f2 : Fr P _ _ := Fr.trans Fr.refl (fr_Mo_does  w0 w1 w2 w3 e2)
    replace h := (sa_some h).2
    rw [← Option.some.inj h]; exact (Fr.s2 w4 f2)
theorem fr_Mo_step_B334 {P : Nat → Prop} {v0 : Nat} {v5 : Int32} {σ : St} {r : Int32 × St} (w0 : P v0) (w1 : P (ch v0 31)) (w2 : P (ch v0 32)) (w3 : P (ch v0 33)) (w4 : P (ch v0 36)) (h : Mo_step_B334 v0 v5 σ = some r) : Fr P σ r.2 := by
  unfold Mo_step_B334 at h
  rcases ite_some h with ⟨_, h⟩ | ⟨_, h⟩
  · exact Fr.trans Fr.refl (fr_Mo_step_B349  w0 w1 w2 w3 w4 h)
  · obtain ⟨_, σ1, e1, h⟩ := cl_some h
    have f1 : Fr P _ _ := Fr.trans Fr.refl (fr_Mo_pop  w0 w1 e1)
    exact Fr.trans f1 (fr_Mo_step_B349  w0 w1 w2 w3 w4 h)
theorem fr_Mo_step_B310 {P : Nat → Prop} {v0 : Nat} {v4 : Int32} {v5 : Int32} {σ : St} {r : Int32 × St} (w0 : P v0) (w1 : P (ch v0 31)) (w2 : P (ch v0 32)) (w3 : P (ch v0 33)) (w4 : P (ch v0 36)) (h : Mo_step_B310 v0 v4 v5 σ = some r) : Fr P σ r.2 := by
  unfold Mo_step_B310 at h
  rcases ite_some h with ⟨_, h⟩ | ⟨_, h⟩
  · obtain ⟨σ1, e1, h⟩ := cv_some h
    have f1 : Fr P _ _ := Fr.trans Fr.refl (fr_Mo_push  w0 w1 w3 e1)
    exact Fr.trans f1 (fr_Mo_step_B334  w0 w1 w2 w3 w4 h)
  · rcases ite_some h with ⟨_, h⟩ | ⟨_, h⟩
    · exact Fr.trans Fr.refl (fr_Mo_step_B334  w0 w1 w2 w3 w4 h)
    · obtain ⟨σ2, e2, h⟩ := cv_some h
      have f2 : Fr P _ _ := Fr.trans Fr.refl (fr_Mo_push  w0 w1 w3 e2)
      exact Fr.trans f2 (fr_Mo_step_B334  w0 w1 w2 w3 w4 h)
theorem fr_Mo_step_B282 {P : Nat → Prop} {v0 : Nat} {v4 : Int32} {v5 : Int32} {σ : St} {r : Int32 × St} (w0 : P v0) (w1 : P (ch v0 31)) (w2 : P (ch v0 32)) (w3 : P (ch v0 33)) (w4 : P (ch v0 36)) (h : Mo_step_B282 v0 v4 v5 σ = some r) : Fr P σ r.2 := by
  unfold Mo_step_B282 at h
  rcases ite_some h with ⟨_, h⟩ | ⟨_, h⟩
  · obtain ⟨_, σ1, e1, h⟩ := cl_some h
    have f1 : Fr P _ _ := Fr.trans Fr.refl (fr_Mo_reg   e1)
    exact Fr.trans f1 (fr_Mo_step_B310  w0 w1 w2 w3 w4 h)
  · rcases ite_some h with ⟨_, h⟩ | ⟨_, h⟩
    · exact Fr.trans Fr.refl (fr_Mo_step_B310  w0 w1 w2 w3 w4 h)
    · obtain ⟨_, σ3, e3, h⟩ := cl_some h
      have f3 : Fr P _ _ := Fr.trans Fr.refl (fr_Mo_reg   e3)
      exact Fr.trans f3 (fr_Mo_step_B310  w0 w1 w2 w3 w4 h)
theorem fr_Mo_step_B253 {P : Nat → Prop} {v0 : Nat} {v4 : Int32} {v5 : Int32} {σ : St} {r : Int32 × St} (w0 : P v0) (w1 : P (ch v0 31)) (w2 : P (ch v0 32)) (w3 : P (ch v0 33)) (w4 : P (ch v0 36)) (h : Mo_step_B253 v0 v4 v5 σ = some r) : Fr P σ r.2 := by
  unfold Mo_step_B253 at h
  rcases ite_some h with ⟨_, h⟩ | ⟨_, h⟩
  · exact Fr.trans Fr.refl (fr_Mo_step_B282  w0 w1 w2 w3 w4 h)
  · obtain ⟨_, σ1, e1, h⟩ := cl_some h
    have f1 : Fr P _ _ := Fr.trans Fr.refl (fr_Mo_holds   e1)
    rcases ite_some h with ⟨_, h⟩ | ⟨_, h⟩
    · exact Fr.trans f1 (fr_Mo_step_B282  w0 w1 w2 w3 w4 h)
    · replace h := nm_some h
      exact Fr.trans f1 (fr_Mo_step_B282  w0 w1 w2 w3 w4 h)
theorem fr_Mo_step_B202 {P : Nat → Prop} {v0 : Nat} {v1 : Int32} {v3 : Int32} {t0 : Nat} {t1 : Int32} {t2 : Int32} {σ : St} {r : Int32 × St} (w0 : P t0) (w1 : P v0) (w2 : P (ch v0 31)) (w3 : P (ch v0 32)) (w4 : P (ch v0 33)) (w5 : P (ch v0 36)) (h : Mo_step_B202 v0 v1 v3 t0 t1 t2 σ = some r) : Fr P σ r.2 := by
  unfold Mo_step_B202 at h
  replace h := nm_some h
  replace h := nm_some h
  rcases ite_some h with ⟨_, h⟩ | ⟨_, h⟩
  · rcases ite_some h with ⟨_, h⟩ | ⟨_, h⟩
    · replace h := nm_some h
      exact Fr.trans (Fr.s2 w0 Fr.refl) (fr_Mo_step_B253  w1 w2 w3 w4 w5 h)
    · rcases ite_some h with ⟨_, h⟩ | ⟨_, h⟩
      · exact Fr.trans (Fr.s2 w0 Fr.refl) (fr_Mo_step_B253  w1 w2 w3 w4 w5 h)
      · replace h := nm_some h
        exact Fr.trans (Fr.s2 w0 Fr.refl) (fr_Mo_step_B253  w1 w2 w3 w4 w5 h)
  · rw [← Option.some.inj h]; exact (Fr.s2 w0 Fr.refl)
theorem fr_Mo_step {P : Nat → Prop} {v0 : Nat} {σ : St} {r : Int32 × St} (w0 : P v0) (w1 : P (ch v0 31)) (w2 : P (ch v0 32)) (w3 : P (ch v0 33)) (w4 : P (ch v0 34)) (w5 : P (ch v0 35)) (w6 : P (ch v0 36)) (w7 : P (ch v0 37)) (h : Mo_step v0 σ = some r) : Fr P σ r.2 := by
  unfold Mo_step at h
  replace h := (ld_some h).2
  rcases ite_some h with ⟨_, h⟩ | ⟨_, h⟩
  · obtain ⟨_, σ2, e2, h⟩ := cl_some h
    have f2 : Fr P _ _ := Fr.trans Fr.refl (fr_Mo_isService   e2)
    rcases ite_some h with ⟨_, h⟩ | ⟨_, h⟩
    · replace h := nm_some h
      rcases ite_some h with ⟨_, h⟩ | ⟨_, h⟩
      · rw [← Option.some.inj h]; exact f2
      · rcases ite_some h with ⟨_, h⟩ | ⟨_, h⟩
        · obtain ⟨_, σ5, e5, h⟩ := cl_some h
          have f5 : Fr P _ _ := Fr.trans f2 (fr_Mo_decode  w0 e5)
          rcases ite_some h with ⟨_, h⟩ | ⟨_, h⟩
          · obtain ⟨σ7, e7, h⟩ := cv_some h
            have f7 : Fr P _ _ := Fr.trans f5 (fr_Mo_takes  w0 e7)
            obtain ⟨_, σ8, e8, h⟩ := cl_some h
            have f8 : Fr P _ _ := Fr.trans f7 (fr_Mo_wants   e8)
            rcases ite_some h with ⟨_, h⟩ | ⟨_, h⟩
            · replace h := (ld_some h).2
              replace h := (sa_some h).2
              replace h := (ld_some h).2
              rcases ite_some h with ⟨_, h⟩ | ⟨_, h⟩
              · exact Fr.trans (Fr.s2 w7 f8) (fr_Mo_step_B202  w0 w0 w1 w2 w3 w6 h)
              · exact Fr.trans (Fr.s2 w7 f8) (fr_Mo_step_B202  w0 w0 w1 w2 w3 w6 h)
            · rw [← Option.some.inj h]; exact f8
          · rw [← Option.some.inj h]; exact f5
        · rw [← Option.some.inj h]; exact f2
    · obtain ⟨_, σ13, e13, h⟩ := cl_some h
      have f13 : Fr P _ _ := Fr.trans f2 (fr_Mo_reg   e13)
      obtain ⟨_, σ15, e15, h⟩ := cl_some h
      have f15 : Fr P _ _ := Fr.trans f13 (fr_Mo_isThere   e15)
      rcases ite_some h with ⟨_, h⟩ | ⟨_, h⟩
      · rcases ite_some h with ⟨_, h⟩ | ⟨_, h⟩
        · exact Fr.trans f15 (fr_Mo_step_B63  w0 w1 w4 w5 w6 w7 h)
        · replace h := (ld_some h).2
          rcases ite_some h with ⟨_, h⟩ | ⟨_, h⟩
          · exact Fr.trans f15 (fr_Mo_step_B63  w0 w1 w4 w5 w6 w7 h)
          · rw [← Option.some.inj h]; exact f15
      · rw [← Option.some.inj h]; exact f15
  · replace h := (ld_some h).2
    replace h := (sa_some h).2
    rw [← Option.some.inj h]; exact (Fr.s2 w7 Fr.refl)
theorem fr_Mo_run_B54 {P : Nat → Prop} : ∀ (n : Nat) (v0 : Nat) (v1 : Int32) (v2 : Int32) (σ : St) (r : Int32 × St), P v0 → P (ch v0 31) → P (ch v0 32) → P (ch v0 33) → P (ch v0 34) → P (ch v0 35) → P (ch v0 36) → P (ch v0 37) → P (ch v0 38) → Mo_run_B54 n v0 v1 v2 σ = some r → Fr P σ r.2 := by
  intro n
  induction n with
  | zero => intro v0 v1 v2 σ r w0 w1 w2 w3 w4 w5 w6 w7 w8 h; unfold Mo_run_B54 at h; cases h
  | succ n ih =>
    intro v0 v1 v2 σ r w0 w1 w2 w3 w4 w5 w6 w7 w8 h
    unfold Mo_run_B54 at h
    rcases ite_some h with ⟨_, h⟩ | ⟨_, h⟩
    · replace h := (sa_some h).2
      rw [← Option.some.inj h]; exact (Fr.s2 w8 Fr.refl)
    · replace h := (ld_some h).2
      rcases ite_some h with ⟨_, h⟩ | ⟨_, h⟩
      · obtain ⟨_, σ3, e3, h⟩ := cl_some h
        have f3 : Fr P _ _ := Fr.trans Fr.refl (fr_Mo_step  w0 w1 w2 w3 w4 w5 w6 w7 e3)
        exact Fr.trans f3 (ih _ _ _ _ _ w0 w1 w2 w3 w4 w5 w6 w7 w8 h)
      · exact Fr.trans Fr.refl (ih _ _ _ _ _ w0 w1 w2 w3 w4 w5 w6 w7 w8 h)
theorem fr_Mo_run_B30 {P : Nat → Prop} {v0 : Nat} {v1 : Int32} {t0 : Nat} {t1 : Int32} {t2 : Int32} {σ : St} {r : Int32 × St} (w0 : P t0) (w1 : P v0) (w2 : P (ch v0 30)) (w3 : P (ch v0 31)) (w4 : P (ch v0 32)) (w5 : P (ch v0 33)) (w6 : P (ch v0 34)) (w7 : P (ch v0 35)) (w8 : P (ch v0 36)) (w9 : P (ch v0 37)) (w10 : P (ch v0 38)) (h : Mo_run_B30 v0 v1 t0 t1 t2 σ = some r) : Fr P σ r.2 := by
  unfold Mo_run_B30 at h
  obtain ⟨_, σ1, e1, h⟩ := cl_some h
  have f1 : Fr P _ _ := Fr.trans Fr.refl (fr_Mo_throwing  w0 e1)
  rcases ite_some h with ⟨_, h⟩ | ⟨_, h⟩
  · obtain ⟨σ3, e3, h⟩ := cv_some h
    have f3 : Fr P _ _ := Fr.trans f1 (fr_Mo_begin  w1 w2 w3 w4 w5 w7 w9 w10 e3)
    replace h := (sa_some h).2
    exact Fr.trans (Fr.s2 w8 f3) (fr_Mo_run_B54  _ _ _ _ _ _ w1 w3 w4 w5 w6 w7 w8 w9 w10 h)
  · rw [← Option.some.inj h]; exact f1
theorem fr_Mo_run {P : Nat → Prop} {v0 : Nat} {v1 : Int32} {σ : St} {r : Int32 × St} (w0 : P v0) (w1 : P (ch v0 30)) (w2 : P (ch v0 31)) (w3 : P (ch v0 32)) (w4 : P (ch v0 33)) (w5 : P (ch v0 34)) (w6 : P (ch v0 35)) (w7 : P (ch v0 36)) (w8 : P (ch v0 37)) (w9 : P (ch v0 38)) (h : Mo_run v0 v1 σ = some r) : Fr P σ r.2 := by
  unfold Mo_run at h
  rcases ite_some h with ⟨_, h⟩ | ⟨_, h⟩
  · rcases ite_some h with ⟨_, h⟩ | ⟨_, h⟩
    · exact Fr.trans Fr.refl (fr_Mo_run_B30  w0 w0 w1 w2 w3 w4 w5 w6 w7 w8 w9 h)
    · rcases ite_some h with ⟨_, h⟩ | ⟨_, h⟩
      · exact Fr.trans Fr.refl (fr_Mo_run_B30  w0 w0 w1 w2 w3 w4 w5 w6 w7 w8 w9 h)
      · exact Fr.trans Fr.refl (fr_Mo_run_B30  w0 w0 w1 w2 w3 w4 w5 w6 w7 w8 w9 h)
  · rcases ite_some h with ⟨_, h⟩ | ⟨_, h⟩
    · exact Fr.trans Fr.refl (fr_Mo_run_B30  w0 w0 w1 w2 w3 w4 w5 w6 w7 w8 w9 h)
    · rcases ite_some h with ⟨_, h⟩ | ⟨_, h⟩
      · exact Fr.trans Fr.refl (fr_Mo_run_B30  w0 w0 w1 w2 w3 w4 w5 w6 w7 w8 w9 h)
      · exact Fr.trans Fr.refl (fr_Mo_run_B30  w0 w0 w1 w2 w3 w4 w5 w6 w7 w8 w9 h)
theorem fr_Mo_passed_B2 {P : Nat → Prop} : ∀ (n : Nat) (v0 : Nat) (v2 : Int32) (σ : St) (r : Int32 × St), Mo_passed_B2 n v0 v2 σ = some r → Fr P σ r.2 := by
  intro n
  induction n with
  | zero => intro v0 v2 σ r  h; unfold Mo_passed_B2 at h; cases h
  | succ n ih =>
    intro v0 v2 σ r  h
    unfold Mo_passed_B2 at h
    rcases ite_some h with ⟨_, h⟩ | ⟨_, h⟩
    · rw [← Option.some.inj h]; exact Fr.refl
    · replace h := (ld_some h).2
      rcases ite_some h with ⟨_, h⟩ | ⟨_, h⟩
      · rw [← Option.some.inj h]; exact Fr.refl
      · replace h := nm_some h
        exact Fr.trans Fr.refl (ih _ _ _ _  h)
theorem fr_Mo_passed {P : Nat → Prop} {v0 : Nat} {v1 : Int32} {σ : St} {r : Int32 × St} (h : Mo_passed v0 v1 σ = some r) : Fr P σ r.2 := by
  unfold Mo_passed at h
  exact Fr.trans Fr.refl (fr_Mo_passed_B2  _ _ _ _ _  h)
theorem fr_Mo_leads_B90 {P : Nat → Prop} {K16 : Nat → Int32 → Int32 → St → Option (Int32 × St)} (hK16 : ∀ (v0 : Nat) (v1 : Int32) (v2 : Int32) (σ : St) (r : Int32 × St), K16 v0 v1 v2 σ = some r → Fr P σ r.2) {v0 : Nat} {v1 : Int32} {v2 : Int32} {σ : St} {r : Int32 × St} (h : Mo_leads_B90 K16 v0 v1 v2 σ = some r) : Fr P σ r.2 := by
  unfold Mo_leads_B90 at h
  replace h := (ld_some h).2
  rcases ite_some h with ⟨_, h⟩ | ⟨_, h⟩
  · replace h := nm_some h
    exact Fr.trans Fr.refl (hK16 _ _ _ _ _  h)
  · obtain ⟨_, σ3, e3, h⟩ := cl_some h
    have f3 : Fr P _ _ := Fr.trans Fr.refl (fr_Mo_passed   e3)
    rw [← Option.some.inj h]; exact f3
theorem fr_Mo_leads_B74 {P : Nat → Prop} {K16 : Nat → Int32 → Int32 → St → Option (Int32 × St)} (hK16 : ∀ (v0 : Nat) (v1 : Int32) (v2 : Int32) (σ : St) (r : Int32 × St), K16 v0 v1 v2 σ = some r → Fr P σ r.2) {v0 : Nat} {v1 : Int32} {v2 : Int32} {v3 : Int32} {σ : St} {r : Int32 × St} (h : Mo_leads_B74 K16 v0 v1 v2 v3 σ = some r) : Fr P σ r.2 := by
  unfold Mo_leads_B74 at h
  rcases ite_some h with ⟨_, h⟩ | ⟨_, h⟩
  · exact Fr.trans Fr.refl (fr_Mo_leads_B90 hK16  h)
  · rcases ite_some h with ⟨_, h⟩ | ⟨_, h⟩
    · exact Fr.trans Fr.refl (fr_Mo_leads_B90 hK16  h)
    · rcases ite_some h with ⟨_, h⟩ | ⟨_, h⟩
      · replace h := nm_some h
        exact Fr.trans Fr.refl (hK16 _ _ _ _ _  h)
      · exact Fr.trans Fr.refl (fr_Mo_leads_B90 hK16  h)
theorem fr_Mo_leads_B16 {P : Nat → Prop} : ∀ (n : Nat) (v0 : Nat) (v1 : Int32) (v2 : Int32) (σ : St) (r : Int32 × St), Mo_leads_B16 n v0 v1 v2 σ = some r → Fr P σ r.2 := by
  intro n
  induction n with
  | zero => intro v0 v1 v2 σ r  h; unfold Mo_leads_B16 at h; cases h
  | succ n ih =>
    intro v0 v1 v2 σ r  h
    unfold Mo_leads_B16 at h
    rcases ite_some h with ⟨_, h⟩ | ⟨_, h⟩
    · rw [← Option.some.inj h]; exact Fr.refl
    · replace h := (ld_some h).2
      rcases ite_some h with ⟨_, h⟩ | ⟨_, h⟩
      · exact Fr.trans Fr.refl (fr_Mo_leads_B74 ih  h)
      · replace h := (ld_some h).2
        rcases ite_some h with ⟨_, h⟩ | ⟨_, h⟩
        · exact Fr.trans Fr.refl (fr_Mo_leads_B74 ih  h)
        · replace h := (ld_some h).2
          rcases ite_some h with ⟨_, h⟩ | ⟨_, h⟩
          · exact Fr.trans Fr.refl (fr_Mo_leads_B74 ih  h)
          · obtain ⟨_, σ4, e4, h⟩ := cl_some h
            have f4 : Fr P _ _ := Fr.trans Fr.refl (fr_Mo_passed   e4)
            rw [← Option.some.inj h]; exact f4
theorem fr_Mo_leads {P : Nat → Prop} {v0 : Nat} {v1 : Int32} {σ : St} {r : Int32 × St} (h : Mo_leads v0 v1 σ = some r) : Fr P σ r.2 := by
  unfold Mo_leads at h
  obtain ⟨_, σ1, e1, h⟩ := cl_some h
  have f1 : Fr P _ _ := Fr.trans Fr.refl (fr_Mo_isService   e1)
  rcases ite_some h with ⟨_, h⟩ | ⟨_, h⟩
  · exact Fr.trans f1 (fr_Mo_leads_B16  _ _ _ _ _ _  h)
  · rw [← Option.some.inj h]; exact f1
theorem fr_Mo_atService_B72 {P : Nat → Prop} {v0 : Nat} {v1 : Int32} {v2 : Int32} {σ : St} {r : Int32 × St} (w0 : P v0) (w1 : P (ch v0 31)) (w2 : P (ch v0 34)) (w3 : P (ch v0 35)) (w4 : P (ch v0 37)) (h : Mo_atService_B72 v0 v1 v2 σ = some r) : Fr P σ r.2 := by
  unfold Mo_atService_B72 at h
  obtain ⟨σ1, e1, h⟩ := cv_some h
  have f1 : Fr P _ _ := Fr.trans Fr.refl (fr_Mo_serves  w0 w1 w2 w3 e1)
  obtain ⟨_, σ2, e2, h⟩ := cl_some h
  have f2 : Fr P _ _ := Fr.trans f1 (fr_Mo_pop  w0 w1 e2)
  replace h := nm_some h
  replace h := (ld_some h).2
  replace h := (sa_some h).2
  rw [← Option.some.inj h]; exact (Fr.s2 w4 (Fr.s2 w0 f2))
theorem fr_Mo_atService {P : Nat → Prop} {v0 : Nat} {v1 : Int32} {σ : St} {r : Int32 × St} (w0 : P v0) (w1 : P (ch v0 31)) (w2 : P (ch v0 34)) (w3 : P (ch v0 35)) (w4 : P (ch v0 37)) (h : Mo_atService v0 v1 σ = some r) : Fr P σ r.2 := by
  unfold Mo_atService at h
  rcases ite_some h with ⟨_, h⟩ | ⟨_, h⟩
  · obtain ⟨_, σ1, e1, h⟩ := cl_some h
    have f1 : Fr P _ _ := Fr.trans Fr.refl (fr_Mo_reg   e1)
    obtain ⟨_, σ3, e3, h⟩ := cl_some h
    have f3 : Fr P _ _ := Fr.trans f1 (fr_Mo_isThere   e3)
    rcases ite_some h with ⟨_, h⟩ | ⟨_, h⟩
    · obtain ⟨_, σ5, e5, h⟩ := cl_some h
      have f5 : Fr P _ _ := Fr.trans f3 (fr_Mo_reg   e5)
      obtain ⟨_, σ7, e7, h⟩ := cl_some h
      have f7 : Fr P _ _ := Fr.trans f5 (fr_Mo_load   e7)
      obtain ⟨_, σ9, e9, h⟩ := cl_some h
      have f9 : Fr P _ _ := Fr.trans f7 (fr_Mo_leads   e9)
      rcases ite_some h with ⟨_, h⟩ | ⟨_, h⟩
      · rcases ite_some h with ⟨_, h⟩ | ⟨_, h⟩
        · exact Fr.trans f9 (fr_Mo_atService_B72  w0 w1 w2 w3 w4 h)
        · replace h := (ld_some h).2
          rcases ite_some h with ⟨_, h⟩ | ⟨_, h⟩
          · exact Fr.trans f9 (fr_Mo_atService_B72  w0 w1 w2 w3 w4 h)
          · rw [← Option.some.inj h]; exact f9
      · rw [← Option.some.inj h]; exact f9
    · rw [← Option.some.inj h]; exact f3
  · replace h := (ld_some h).2
    replace h := (sa_some h).2
    rw [← Option.some.inj h]; exact (Fr.s2 w4 Fr.refl)
theorem fr_Mo_forgetFlags_B2 {P : Nat → Prop} : ∀ (n : Nat) (v0 : Nat) (v1 : Int32) (σ : St) (r : St), P (ch v0 32) → Mo_forgetFlags_B2 n v0 v1 σ = some r → Fr P σ r := by
  intro n
  induction n with
  | zero => intro v0 v1 σ r w0 h; unfold Mo_forgetFlags_B2 at h; cases h
  | succ n ih =>
    intro v0 v1 σ r w0 h
    unfold Mo_forgetFlags_B2 at h
    rcases ite_some h with ⟨_, h⟩ | ⟨_, h⟩
    · rw [← Option.some.inj h]; exact Fr.refl
    · replace h := (sa_some h).2
      replace h := nm_some h
      exact Fr.trans (Fr.s2 w0 Fr.refl) (ih _ _ _ _ w0 h)
theorem fr_Mo_forgetFlags {P : Nat → Prop} {v0 : Nat} {σ : St} {r : St} (w0 : P (ch v0 32)) (h : Mo_forgetFlags v0 σ = some r) : Fr P σ r := by
  unfold Mo_forgetFlags at h
  exact Fr.trans Fr.refl (fr_Mo_forgetFlags_B2  _ _ _ _ _ w0 h)
theorem fr_Mo_isUnknown {P : Nat → Prop} {v0 : Nat} {v1 : Int32} {σ : St} {r : Int32 × St} (h : Mo_isUnknown v0 v1 σ = some r) : Fr P σ r.2 := by
  unfold Mo_isUnknown at h
  rcases ite_some h with ⟨_, h⟩ | ⟨_, h⟩
  · rw [← Option.some.inj h]; exact Fr.refl
  · rcases ite_some h with ⟨_, h⟩ | ⟨_, h⟩
    · rw [← Option.some.inj h]; exact Fr.refl
    · rw [← Option.some.inj h]; exact Fr.refl
theorem fr_Mo_namesUnknown_B66 {P : Nat → Prop} {v1 : Int32} {v2 : Int32} {v3 : Int32} {v4 : Int32} {t0 : Int32} {σ : St} {r : Int32 × St} (h : Mo_namesUnknown_B66 v1 v2 v3 v4 t0 σ = some r) : Fr P σ r.2 := by
  unfold Mo_namesUnknown_B66 at h
  replace h := nm_some h
  rcases ite_some h with ⟨_, h⟩ | ⟨_, h⟩
  · replace h := (zb_some h).2
    rw [← Option.some.inj h]; exact Fr.refl
  · rcases ite_some h with ⟨_, h⟩ | ⟨_, h⟩
    · replace h := (zb_some h).2
      rw [← Option.some.inj h]; exact Fr.refl
    · rcases ite_some h with ⟨_, h⟩ | ⟨_, h⟩
      · replace h := (zb_some h).2
        rw [← Option.some.inj h]; exact Fr.refl
      · rcases ite_some h with ⟨_, h⟩ | ⟨_, h⟩
        · rcases ite_some h with ⟨_, h⟩ | ⟨_, h⟩
          · rw [← Option.some.inj h]; exact Fr.refl
          · rcases ite_some h with ⟨_, h⟩ | ⟨_, h⟩
            · rw [← Option.some.inj h]; exact Fr.refl
            · rw [← Option.some.inj h]; exact Fr.refl
        · rcases ite_some h with ⟨_, h⟩ | ⟨_, h⟩
          · replace h := (zb_some h).2
            rw [← Option.some.inj h]; exact Fr.refl
          · rcases ite_some h with ⟨_, h⟩ | ⟨_, h⟩
            · rcases ite_some h with ⟨_, h⟩ | ⟨_, h⟩
              · rw [← Option.some.inj h]; exact Fr.refl
              · rcases ite_some h with ⟨_, h⟩ | ⟨_, h⟩
                · rw [← Option.some.inj h]; exact Fr.refl
                · rcases ite_some h with ⟨_, h⟩ | ⟨_, h⟩
                  · rw [← Option.some.inj h]; exact Fr.refl
                  · rw [← Option.some.inj h]; exact Fr.refl
            · rcases ite_some h with ⟨_, h⟩ | ⟨_, h⟩
              · rcases ite_some h with ⟨_, h⟩ | ⟨_, h⟩
                · rw [← Option.some.inj h]; exact Fr.refl
                · rcases ite_some h with ⟨_, h⟩ | ⟨_, h⟩
                  · rw [← Option.some.inj h]; exact Fr.refl
                  · rw [← Option.some.inj h]; exact Fr.refl
              · rcases ite_some h with ⟨_, h⟩ | ⟨_, h⟩
                · rw [← Option.some.inj h]; exact Fr.refl
                · rcases ite_some h with ⟨_, h⟩ | ⟨_, h⟩
                  · rw [← Option.some.inj h]; exact Fr.refl
                  · rcases ite_some h with ⟨_, h⟩ | ⟨_, h⟩
                    · rw [← Option.some.inj h]; exact Fr.refl
                    · rw [← Option.some.inj h]; exact Fr.refl
theorem fr_Mo_namesUnknown_B48 {P : Nat → Prop} {v0 : Nat} {v1 : Int32} {v2 : Int32} {v3 : Int32} {t0 : Int32} {σ : St} {r : Int32 × St} (h : Mo_namesUnknown_B48 v0 v1 v2 v3 t0 σ = some r) : Fr P σ r.2 := by
  unfold Mo_namesUnknown_B48 at h
  replace h := (ld_some h).2
  rcases ite_some h with ⟨_, h⟩ | ⟨_, h⟩
  · exact Fr.trans Fr.refl (fr_Mo_namesUnknown_B66   h)
  · exact Fr.trans Fr.refl (fr_Mo_namesUnknown_B66   h)
theorem fr_Mo_namesUnknown_B32 {P : Nat → Prop} {v0 : Nat} {v1 : Int32} {v2 : Int32} {t0 : Int32} {σ : St} {r : Int32 × St} (h : Mo_namesUnknown_B32 v0 v1 v2 t0 σ = some r) : Fr P σ r.2 := by
  unfold Mo_namesUnknown_B32 at h
  replace h := (ld_some h).2
  rcases ite_some h with ⟨_, h⟩ | ⟨_, h⟩
  · exact Fr.trans Fr.refl (fr_Mo_namesUnknown_B48   h)
  · exact Fr.trans Fr.refl (fr_Mo_namesUnknown_B48   h)
theorem fr_Mo_namesUnknown_B16 {P : Nat → Prop} {v0 : Nat} {v1 : Int32} {t0 : Int32} {σ : St} {r : Int32 × St} (h : Mo_namesUnknown_B16 v0 v1 t0 σ = some r) : Fr P σ r.2 := by
  unfold Mo_namesUnknown_B16 at h
  replace h := (ld_some h).2
  rcases ite_some h with ⟨_, h⟩ | ⟨_, h⟩
  · exact Fr.trans Fr.refl (fr_Mo_namesUnknown_B32   h)
  · exact Fr.trans Fr.refl (fr_Mo_namesUnknown_B32   h)
theorem fr_Mo_namesUnknown {P : Nat → Prop} {v0 : Nat} {v1 : Int32} {σ : St} {r : Int32 × St} (h : Mo_namesUnknown v0 v1 σ = some r) : Fr P σ r.2 := by
  unfold Mo_namesUnknown at h
  replace h := (ld_some h).2
  rcases ite_some h with ⟨_, h⟩ | ⟨_, h⟩
  · exact Fr.trans Fr.refl (fr_Mo_namesUnknown_B16   h)
  · exact Fr.trans Fr.refl (fr_Mo_namesUnknown_B16   h)
theorem fr_Mo_memoryUnknown {P : Nat → Prop} {v0 : Nat} {σ : St} {r : Int32 × St} (h : Mo_memoryUnknown v0 σ = some r) : Fr P σ r.2 := by
  unfold Mo_memoryUnknown at h
  obtain ⟨_, σ1, e1, h⟩ := cl_some h
  have f1 : Fr P _ _ := Fr.trans Fr.refl (fr_Mo_isOnMemory   e1)
  rcases ite_some h with ⟨_, h⟩ | ⟨_, h⟩
  · rw [← Option.some.inj h]; exact f1
  · obtain ⟨_, σ3, e3, h⟩ := cl_some h
    have f3 : Fr P _ _ := Fr.trans f1 (fr_Mo_isUnknown   e3)
    rcases ite_some h with ⟨_, h⟩ | ⟨_, h⟩
    · rw [← Option.some.inj h]; exact f3
    · obtain ⟨_, σ5, e5, h⟩ := cl_some h
      have f5 : Fr P _ _ := Fr.trans f3 (fr_Mo_isUnknown   e5)
      rcases ite_some h with ⟨_, h⟩ | ⟨_, h⟩
      · rw [← Option.some.inj h]; exact f5
      · rw [← Option.some.inj h]; exact f5
theorem fr_Mo_readsUnknown_B114 {P : Nat → Prop} {v0 : Nat} {t0 : Int32} {σ : St} {r : Int32 × St} (h : Mo_readsUnknown_B114 v0 t0 σ = some r) : Fr P σ r.2 := by
  unfold Mo_readsUnknown_B114 at h
  rcases ite_some h with ⟨_, h⟩ | ⟨_, h⟩
  · rw [← Option.some.inj h]; exact Fr.refl
  · obtain ⟨_, σ1, e1, h⟩ := cl_some h
    have f1 : Fr P _ _ := Fr.trans Fr.refl (fr_Mo_isUnknown   e1)
    rcases ite_some h with ⟨_, h⟩ | ⟨_, h⟩
    · rw [← Option.some.inj h]; exact f1
    · rcases ite_some h with ⟨_, h⟩ | ⟨_, h⟩
      · rw [← Option.some.inj h]; exact f1
      · rcases ite_some h with ⟨_, h⟩ | ⟨_, h⟩
        · rw [← Option.some.inj h]; exact f1
        · rcases ite_some h with ⟨_, h⟩ | ⟨_, h⟩
          · rw [← Option.some.inj h]; exact f1
          · rw [← Option.some.inj h]; exact f1
theorem fr_Mo_readsUnknown_B77 {P : Nat → Prop} {v0 : Nat} {σ : St} {r : Int32 × St} (h : Mo_readsUnknown_B77 v0 σ = some r) : Fr P σ r.2 := by
  unfold Mo_readsUnknown_B77 at h
  rcases ite_some h with ⟨_, h⟩ | ⟨_, h⟩
  · exact Fr.trans Fr.refl (fr_Mo_readsUnknown_B114   h)
  · rcases ite_some h with ⟨_, h⟩ | ⟨_, h⟩
    · exact Fr.trans Fr.refl (fr_Mo_readsUnknown_B114   h)
    · rcases ite_some h with ⟨_, h⟩ | ⟨_, h⟩
      · exact Fr.trans Fr.refl (fr_Mo_readsUnknown_B114   h)
      · rcases ite_some h with ⟨_, h⟩ | ⟨_, h⟩
        · exact Fr.trans Fr.refl (fr_Mo_readsUnknown_B114   h)
        · exact Fr.trans Fr.refl (fr_Mo_readsUnknown_B114   h)
theorem fr_Mo_readsUnknown_B56 {P : Nat → Prop} {v0 : Nat} {σ : St} {r : Int32 × St} (h : Mo_readsUnknown_B56 v0 σ = some r) : Fr P σ r.2 := by
  unfold Mo_readsUnknown_B56 at h
  rcases ite_some h with ⟨_, h⟩ | ⟨_, h⟩
  · exact Fr.trans Fr.refl (fr_Mo_readsUnknown_B77   h)
  · obtain ⟨_, σ1, e1, h⟩ := cl_some h
    have f1 : Fr P _ _ := Fr.trans Fr.refl (fr_Mo_isUnknown   e1)
    rcases ite_some h with ⟨_, h⟩ | ⟨_, h⟩
    · exact Fr.trans f1 (fr_Mo_readsUnknown_B77   h)
    · rw [← Option.some.inj h]; exact f1
theorem fr_Mo_readsUnknown_B37 {P : Nat → Prop} {v0 : Nat} {σ : St} {r : Int32 × St} (h : Mo_readsUnknown_B37 v0 σ = some r) : Fr P σ r.2 := by
  unfold Mo_readsUnknown_B37 at h
  rcases ite_some h with ⟨_, h⟩ | ⟨_, h⟩
  · exact Fr.trans Fr.refl (fr_Mo_readsUnknown_B56   h)
  · obtain ⟨_, σ1, e1, h⟩ := cl_some h
    have f1 : Fr P _ _ := Fr.trans Fr.refl (fr_Mo_isUnknown   e1)
    rcases ite_some h with ⟨_, h⟩ | ⟨_, h⟩
    · rw [← Option.some.inj h]; exact f1
    · exact Fr.trans f1 (fr_Mo_readsUnknown_B56   h)
theorem fr_Mo_readsUnknown_B25 {P : Nat → Prop} {v0 : Nat} {σ : St} {r : Int32 × St} (h : Mo_readsUnknown_B25 v0 σ = some r) : Fr P σ r.2 := by
  unfold Mo_readsUnknown_B25 at h
  replace h := (ld_some h).2
  rcases ite_some h with ⟨_, h⟩ | ⟨_, h⟩
  · exact Fr.trans Fr.refl (fr_Mo_readsUnknown_B37   h)
  · rw [← Option.some.inj h]; exact Fr.refl
theorem fr_Mo_readsUnknown {P : Nat → Prop} {v0 : Nat} {σ : St} {r : Int32 × St} (h : Mo_readsUnknown v0 σ = some r) : Fr P σ r.2 := by
  unfold Mo_readsUnknown at h
  obtain ⟨_, σ1, e1, h⟩ := cl_some h
  have f1 : Fr P _ _ := Fr.trans Fr.refl (fr_Mo_memoryUnknown   e1)
  rcases ite_some h with ⟨_, h⟩ | ⟨_, h⟩
  · rcases ite_some h with ⟨_, h⟩ | ⟨_, h⟩
    · exact Fr.trans f1 (fr_Mo_readsUnknown_B25   h)
    · rcases ite_some h with ⟨_, h⟩ | ⟨_, h⟩
      · exact Fr.trans f1 (fr_Mo_readsUnknown_B37   h)
      · exact Fr.trans f1 (fr_Mo_readsUnknown_B25   h)
  · rw [← Option.some.inj h]; exact f1
theorem fr_Mo_plainStride_B129 {P : Nat → Prop} {v0 : Nat} {σ : St} {r : Int32 × St} (w0 : P v0) (h : Mo_plainStride_B129 v0 σ = some r) : Fr P σ r.2 := by
  unfold Mo_plainStride_B129 at h
  obtain ⟨_, σ1, e1, h⟩ := cl_some h
  have f1 : Fr P _ _ := Fr.trans Fr.refl (fr_Mo_passed   e1)
  replace h := nm_some h
  rw [← Option.some.inj h]; exact (Fr.s2 w0 f1)
theorem fr_Mo_plainStride_B113 {P : Nat → Prop} {v0 : Nat} {t0 : Int32} {σ : St} {r : Int32 × St} (w0 : P v0) (w1 : P (ch v0 31)) (w2 : P (ch v0 32)) (w3 : P (ch v0 33)) (h : Mo_plainStride_B113 v0 t0 σ = some r) : Fr P σ r.2 := by
  unfold Mo_plainStride_B113 at h
  obtain ⟨σ1, e1, h⟩ := cv_some h
  have f1 : Fr P _ _ := Fr.trans Fr.refl (fr_Mo_does  w0 w1 w2 w3 e1)
  rcases ite_some h with ⟨_, h⟩ | ⟨_, h⟩
  · exact Fr.trans f1 (fr_Mo_plainStride_B129  w0 h)
  · replace h := (sa_some h).2
    exact Fr.trans (Fr.s2 w2 f1) (fr_Mo_plainStride_B129  w0 h)
theorem fr_Mo_plainStride {P : Nat → Prop} {v0 : Nat} {v1 : Int32} {σ : St} {r : Int32 × St} (w0 : P v0) (w1 : P (ch v0 31)) (w2 : P (ch v0 32)) (w3 : P (ch v0 33)) (w4 : P (ch v0 37)) (h : Mo_plainStride v0 v1 σ = some r) : Fr P σ r.2 := by
  unfold Mo_plainStride at h
  replace h := (ld_some h).2
  replace h := (ld_some h).2
  replace h := (ld_some h).2
  replace h := (ld_some h).2
  replace h := (ld_some h).2
  replace h := (ld_some h).2
  obtain ⟨σ7, e7, h⟩ := cv_some h
  have f7 : Fr P _ _ := Fr.trans Fr.refl (fr_Mo_takes  w0 e7)
  obtain ⟨_, σ8, e8, h⟩ := cl_some h
  have f8 : Fr P _ _ := Fr.trans f7 (fr_Mo_readsUnknown   e8)
  rcases ite_some h with ⟨_, h⟩ | ⟨_, h⟩
  · obtain ⟨_, σ10, e10, h⟩ := cl_some h
    have f10 : Fr P _ _ := Fr.trans f8 (fr_Mo_wants   e10)
    rcases ite_some h with ⟨_, h⟩ | ⟨_, h⟩
    · replace h := (ld_some h).2
      replace h := (sa_some h).2
      rcases ite_some h with ⟨_, h⟩ | ⟨_, h⟩
      · replace h := (ld_some h).2
        rcases ite_some h with ⟨_, h⟩ | ⟨_, h⟩
        · exact Fr.trans (Fr.s2 w4 f10) (fr_Mo_plainStride_B113  w0 w1 w2 w3 h)
        · rcases ite_some h with ⟨_, h⟩ | ⟨_, h⟩
          · exact Fr.trans (Fr.s2 w4 f10) (fr_Mo_plainStride_B113  w0 w1 w2 w3 h)
          · rcases ite_some h with ⟨_, h⟩ | ⟨_, h⟩
            · exact Fr.trans (Fr.s2 w4 f10) (fr_Mo_plainStride_B113  w0 w1 w2 w3 h)
            · exact Fr.trans (Fr.s2 w4 f10) (fr_Mo_plainStride_B113  w0 w1 w2 w3 h)
      · rw [← Option.some.inj h]; exact (Fr.s2 w4 f10)
    · rw [← Option.some.inj h]; exact f10
  · rw [← Option.some.inj h]; exact f8
theorem fr_Mo_stride_B448 {P : Nat → Prop} {v0 : Nat} {v3 : Int32} {σ : St} {r : Int32 × St} (w0 : P v0) (w1 : P (ch v0 37)) (h : Mo_stride_B448 v0 v3 σ = some r) : Fr P σ r.2 := by
  unfold Mo_stride_B448 at h
  replace h := nm_some h
  replace h := (ld_some h).2
  replace h := (sa_some h).2
  rw [← Option.some.inj h]; exact (Fr.s2 w1 (Fr.s2 w0 Fr.refl))
theorem fr_Mo_stride_B213 {P : Nat → Prop} {v0 : Nat} {v1 : Int32} {v2 : Int32} {v4 : Int32} {σ : St} {r : Int32 × St} (w0 : P v0) (w1 : P (ch v0 31)) (w2 : P (ch v0 33)) (w3 : P (ch v0 37)) (h : Mo_stride_B213 v0 v1 v2 v4 σ = some r) : Fr P σ r.2 := by
  unfold Mo_stride_B213 at h
  obtain ⟨_, σ1, e1, h⟩ := cl_some h
  have f1 : Fr P _ _ := Fr.trans Fr.refl (fr_Mo_reg   e1)
  obtain ⟨_, σ3, e3, h⟩ := cl_some h
  have f3 : Fr P _ _ := Fr.trans f1 (fr_Mo_isThere   e3)
  rcases ite_some h with ⟨_, h⟩ | ⟨_, h⟩
  · obtain ⟨σ5, e5, h⟩ := cv_some h
    have f5 : Fr P _ _ := Fr.trans f3 (fr_Mo_push  w0 w1 w2 e5)
    rcases ite_some h with ⟨_, h⟩ | ⟨_, h⟩
    · replace h := (ld_some h).2
      replace h := nm_some h
      exact Fr.trans f5 (fr_Mo_stride_B448  w0 w3 h)
    · replace h := (ld_some h).2
      replace h := (ld_some h).2
      obtain ⟨_, σ10, e10, h⟩ := cl_some h
      have f10 : Fr P _ _ := Fr.trans f5 (fr_Mo_passed   e10)
      exact Fr.trans f10 (fr_Mo_stride_B448  w0 w3 h)
  · rw [← Option.some.inj h]; exact f3
theorem fr_Mo_stride_B333 {P : Nat → Prop} {v0 : Nat} {v2 : Int32} {v3 : Int32} {v4 : Int32} {σ : St} {r : Int32 × St} (w0 : P v0) (w1 : P (ch v0 31)) (w2 : P (ch v0 32)) (w3 : P (ch v0 33)) (w4 : P (ch v0 37)) (h : Mo_stride_B333 v0 v2 v3 v4 σ = some r) : Fr P σ r.2 := by
  unfold Mo_stride_B333 at h
  rcases ite_some h with ⟨_, h⟩ | ⟨_, h⟩
  · obtain ⟨σ1, e1, h⟩ := cv_some h
    have f1 : Fr P _ _ := Fr.trans Fr.refl (fr_Mo_forgetFlags  w2 e1)
    exact Fr.trans f1 (fr_Mo_stride_B448  w0 w4 h)
  · obtain ⟨σ2, e2, h⟩ := cv_some h
    have f2 : Fr P _ _ := Fr.trans Fr.refl (fr_Mo_push  w0 w1 w3 e2)
    obtain ⟨σ3, e3, h⟩ := cv_some h
    have f3 : Fr P _ _ := Fr.trans f2 (fr_Mo_forgetFlags  w2 e3)
    exact Fr.trans f3 (fr_Mo_stride_B448  w0 w4 h)
theorem fr_Mo_stride_B272 {P : Nat → Prop} {v0 : Nat} {v1 : Int32} {v2 : Int32} {v4 : Int32} {σ : St} {r : Int32 × St} (w0 : P v0) (w1 : P (ch v0 31)) (w2 : P (ch v0 32)) (w3 : P (ch v0 33)) (w4 : P (ch v0 37)) (h : Mo_stride_B272 v0 v1 v2 v4 σ = some r) : Fr P σ r.2 := by
  unfold Mo_stride_B272 at h
  replace h := (ld_some h).2
  obtain ⟨_, σ2, e2, h⟩ := cl_some h
  have f2 : Fr P _ _ := Fr.trans Fr.refl (fr_Mo_isUnknown   e2)
  rcases ite_some h with ⟨_, h⟩ | ⟨_, h⟩
  · replace h := (ld_some h).2
    obtain ⟨_, σ5, e5, h⟩ := cl_some h
    have f5 : Fr P _ _ := Fr.trans f2 (fr_Mo_reg   e5)
    obtain ⟨_, σ7, e7, h⟩ := cl_some h
    have f7 : Fr P _ _ := Fr.trans f5 (fr_Mo_leads   e7)
    rcases ite_some h with ⟨_, h⟩ | ⟨_, h⟩
    · rcases ite_some h with ⟨_, h⟩ | ⟨_, h⟩
      · exact Fr.trans f7 (fr_Mo_stride_B333  w0 w1 w2 w3 w4 h)
      · obtain ⟨_, σ9, e9, h⟩ := cl_some h
        have f9 : Fr P _ _ := Fr.trans f7 (fr_Mo_reg   e9)
        obtain ⟨_, σ11, e11, h⟩ := cl_some h
        have f11 : Fr P _ _ := Fr.trans f9 (fr_Mo_isThere   e11)
        rcases ite_some h with ⟨_, h⟩ | ⟨_, h⟩
        · exact Fr.trans f11 (fr_Mo_stride_B333  w0 w1 w2 w3 w4 h)
        · rw [← Option.some.inj h]; exact f11
    · rw [← Option.some.inj h]; exact f7
  · rw [← Option.some.inj h]; exact f2
theorem fr_Mo_stride {P : Nat → Prop} {v0 : Nat} {σ : St} {r : Int32 × St} (w0 : P v0) (w1 : P (ch v0 31)) (w2 : P (ch v0 32)) (w3 : P (ch v0 33)) (w4 : P (ch v0 34)) (w5 : P (ch v0 35)) (w6 : P (ch v0 37)) (h : Mo_stride v0 σ = some r) : Fr P σ r.2 := by
  unfold Mo_stride at h
  rcases ite_some h with ⟨_, h⟩ | ⟨_, h⟩
  · rcases ite_some h with ⟨_, h⟩ | ⟨_, h⟩
    · replace h := nm_some h
      replace h := (ld_some h).2
      rcases ite_some h with ⟨_, h⟩ | ⟨_, h⟩
      · obtain ⟨_, σ3, e3, h⟩ := cl_some h
        have f3 : Fr P _ _ := Fr.trans Fr.refl (fr_Mo_passed   e3)
        replace h := (ld_some h).2
        replace h := nm_some h
        rcases ite_some h with ⟨_, h⟩ | ⟨_, h⟩
        · replace h := (ld_some h).2
          replace h := (ld_some h).2
          obtain ⟨_, σ9, e9, h⟩ := cl_some h
          have f9 : Fr P _ _ := Fr.trans f3 (fr_Mo_passed   e9)
          exact Fr.trans f9 (fr_Mo_stride_B448  w0 w6 h)
        · rcases ite_some h with ⟨_, h⟩ | ⟨_, h⟩
          · replace h := (ld_some h).2
            obtain ⟨_, σ12, e12, h⟩ := cl_some h
            have f12 : Fr P _ _ := Fr.trans f3 (fr_Mo_namesUnknown   e12)
            rcases ite_some h with ⟨_, h⟩ | ⟨_, h⟩
            · replace h := (ld_some h).2
              obtain ⟨_, σ15, e15, h⟩ := cl_some h
              have f15 : Fr P _ _ := Fr.trans f12 (fr_Mo_holds   e15)
              rcases ite_some h with ⟨_, h⟩ | ⟨_, h⟩
              · exact Fr.trans f15 (fr_Mo_stride_B448  w0 w6 h)
              · replace h := (ld_some h).2
                replace h := (ld_some h).2
                obtain ⟨_, σ19, e19, h⟩ := cl_some h
                have f19 : Fr P _ _ := Fr.trans f15 (fr_Mo_passed   e19)
                exact Fr.trans f19 (fr_Mo_stride_B448  w0 w6 h)
            · rw [← Option.some.inj h]; exact f12
          · rcases ite_some h with ⟨_, h⟩ | ⟨_, h⟩
            · exact Fr.trans f3 (fr_Mo_stride_B213  w0 w1 w3 w6 h)
            · rcases ite_some h with ⟨_, h⟩ | ⟨_, h⟩
              · exact Fr.trans f3 (fr_Mo_stride_B213  w0 w1 w3 w6 h)
              · rcases ite_some h with ⟨_, h⟩ | ⟨_, h⟩
                · exact Fr.trans f3 (fr_Mo_stride_B272  w0 w1 w2 w3 w6 h)
                · rcases ite_some h with ⟨_, h⟩ | ⟨_, h⟩
                  · exact Fr.trans f3 (fr_Mo_stride_B272  w0 w1 w2 w3 w6 h)
                  · rcases ite_some h with ⟨_, h⟩ | ⟨_, h⟩
                    · obtain ⟨_, σ21, e21, h⟩ := cl_some h
                      have f21 : Fr P _ _ := Fr.trans f3 (fr_Mo_reg   e21)
                      obtain ⟨_, σ23, e23, h⟩ := cl_some h
                      have f23 : Fr P _ _ := Fr.trans f21 (fr_Mo_isThere   e23)
                      rcases ite_some h with ⟨_, h⟩ | ⟨_, h⟩
                      · obtain ⟨_, σ25, e25, h⟩ := cl_some h
                        have f25 : Fr P _ _ := Fr.trans f23 (fr_Mo_reg   e25)
                        obtain ⟨_, σ27, e27, h⟩ := cl_some h
                        have f27 : Fr P _ _ := Fr.trans f25 (fr_Mo_load   e27)
                        obtain ⟨_, σ29, e29, h⟩ := cl_some h
                        have f29 : Fr P _ _ := Fr.trans f27 (fr_Mo_leads   e29)
                        rcases ite_some h with ⟨_, h⟩ | ⟨_, h⟩
                        · obtain ⟨_, σ31, e31, h⟩ := cl_some h
                          have f31 : Fr P _ _ := Fr.trans f29 (fr_Mo_reg   e31)
                          obtain ⟨σ33, e33, h⟩ := cv_some h
                          have f33 : Fr P _ _ := Fr.trans f31 (fr_Mo_setReg  w0 w1 e33)
                          replace h := (sa_some h).2
                          replace h := nm_some h
                          obtain ⟨σ36, e36, h⟩ := cv_some h
                          have f36 : Fr P _ _ := Fr.trans (Fr.s2 w0 (Fr.s2 w1 f33)) (fr_Mo_forgetFlags  w2 e36)
                          exact Fr.trans f36 (fr_Mo_stride_B448  w0 w6 h)
                        · rw [← Option.some.inj h]; exact f29
                      · rw [← Option.some.inj h]; exact f23
                    · replace h := (ld_some h).2
                      replace h := (ld_some h).2
                      replace h := (ld_some h).2
                      obtain ⟨σ40, e40, h⟩ := cv_some h
                      have f40 : Fr P _ _ := Fr.trans f3 (fr_Mo_setReg  w0 w1 e40)
                      exact Fr.trans f40 (fr_Mo_stride_B448  w0 w6 h)
      · obtain ⟨_, σ41, e41, h⟩ := cl_some h
        have f41 : Fr P _ _ := Fr.trans Fr.refl (fr_Mo_plainStride  w0 w1 w2 w3 w6 e41)
        rw [← Option.some.inj h]; exact f41
    · replace h := (ld_some h).2
      replace h := (sa_some h).2
      rw [← Option.some.inj h]; exact (Fr.s2 w6 Fr.refl)
  · obtain ⟨_, σ45, e45, h⟩ := cl_some h
    have f45 : Fr P _ _ := Fr.trans Fr.refl (fr_Mo_atService  w0 w1 w4 w5 w6 e45)
    rw [← Option.some.inj h]; exact f45
theorem fr_Mo_walk_B54 {P : Nat → Prop} : ∀ (n : Nat) (v0 : Nat) (v1 : Int32) (v2 : Int32) (σ : St) (r : Int32 × St), P v0 → P (ch v0 31) → P (ch v0 32) → P (ch v0 33) → P (ch v0 34) → P (ch v0 35) → P (ch v0 36) → P (ch v0 37) → P (ch v0 38) → Mo_walk_B54 n v0 v1 v2 σ = some r → Fr P σ r.2 := by
  intro n
  induction n with
  | zero => intro v0 v1 v2 σ r w0 w1 w2 w3 w4 w5 w6 w7 w8 h; unfold Mo_walk_B54 at h; cases h
  | succ n ih =>
    intro v0 v1 v2 σ r w0 w1 w2 w3 w4 w5 w6 w7 w8 h
    unfold Mo_walk_B54 at h
    rcases ite_some h with ⟨_, h⟩ | ⟨_, h⟩
    · replace h := (sa_some h).2
      rcases ite_some h with ⟨_, h⟩ | ⟨_, h⟩
      · rcases ite_some h with ⟨_, h⟩ | ⟨_, h⟩
        · replace h := (sa_some h).2
          rw [← Option.some.inj h]; exact (Fr.s2 w6 (Fr.s2 w8 Fr.refl))
        · replace h := (ld_some h).2
          replace h := (sa_some h).2
          rw [← Option.some.inj h]; exact (Fr.s2 w6 (Fr.s2 w8 Fr.refl))
      · replace h := (sa_some h).2
        rw [← Option.some.inj h]; exact (Fr.s2 w6 (Fr.s2 w8 Fr.refl))
    · replace h := (ld_some h).2
      rcases ite_some h with ⟨_, h⟩ | ⟨_, h⟩
      · obtain ⟨_, σ7, e7, h⟩ := cl_some h
        have f7 : Fr P _ _ := Fr.trans Fr.refl (fr_Mo_stride  w0 w1 w2 w3 w4 w5 w7 e7)
        exact Fr.trans f7 (ih _ _ _ _ _ w0 w1 w2 w3 w4 w5 w6 w7 w8 h)
      · exact Fr.trans Fr.refl (ih _ _ _ _ _ w0 w1 w2 w3 w4 w5 w6 w7 w8 h)
theorem fr_Mo_walk_B30 {P : Nat → Prop} {v0 : Nat} {v1 : Int32} {t0 : Nat} {t1 : Int32} {t2 : Int32} {σ : St} {r : Int32 × St} (w0 : P t0) (w1 : P v0) (w2 : P (ch v0 30)) (w3 : P (ch v0 31)) (w4 : P (ch v0 32)) (w5 : P (ch v0 33)) (w6 : P (ch v0 34)) (w7 : P (ch v0 35)) (w8 : P (ch v0 36)) (w9 : P (ch v0 37)) (w10 : P (ch v0 38)) (h : Mo_walk_B30 v0 v1 t0 t1 t2 σ = some r) : Fr P σ r.2 := by
  unfold Mo_walk_B30 at h
  obtain ⟨_, σ1, e1, h⟩ := cl_some h
  have f1 : Fr P _ _ := Fr.trans Fr.refl (fr_Mo_throwing  w0 e1)
  rcases ite_some h with ⟨_, h⟩ | ⟨_, h⟩
  · obtain ⟨σ3, e3, h⟩ := cv_some h
    have f3 : Fr P _ _ := Fr.trans f1 (fr_Mo_begin  w1 w2 w3 w4 w5 w7 w9 w10 e3)
    obtain ⟨_, σ4, e4, h⟩ := cl_some h
    have f4 : Fr P _ _ := Fr.trans f3 (fr_Mo_passed   e4)
    replace h := nm_some h
    exact Fr.trans (Fr.s2 w1 f4) (fr_Mo_walk_B54  _ _ _ _ _ _ w1 w3 w4 w5 w6 w7 w8 w9 w10 h)
  · rw [← Option.some.inj h]; exact f1
theorem fr_Mo_walk {P : Nat → Prop} {v0 : Nat} {v1 : Int32} {σ : St} {r : Int32 × St} (w0 : P v0) (w1 : P (ch v0 30)) (w2 : P (ch v0 31)) (w3 : P (ch v0 32)) (w4 : P (ch v0 33)) (w5 : P (ch v0 34)) (w6 : P (ch v0 35)) (w7 : P (ch v0 36)) (w8 : P (ch v0 37)) (w9 : P (ch v0 38)) (h : Mo_walk v0 v1 σ = some r) : Fr P σ r.2 := by
  unfold Mo_walk at h
  rcases ite_some h with ⟨_, h⟩ | ⟨_, h⟩
  · rcases ite_some h with ⟨_, h⟩ | ⟨_, h⟩
    · exact Fr.trans Fr.refl (fr_Mo_walk_B30  w0 w0 w1 w2 w3 w4 w5 w6 w7 w8 w9 h)
    · rcases ite_some h with ⟨_, h⟩ | ⟨_, h⟩
      · exact Fr.trans Fr.refl (fr_Mo_walk_B30  w0 w0 w1 w2 w3 w4 w5 w6 w7 w8 w9 h)
      · exact Fr.trans Fr.refl (fr_Mo_walk_B30  w0 w0 w1 w2 w3 w4 w5 w6 w7 w8 w9 h)
  · rcases ite_some h with ⟨_, h⟩ | ⟨_, h⟩
    · exact Fr.trans Fr.refl (fr_Mo_walk_B30  w0 w0 w1 w2 w3 w4 w5 w6 w7 w8 w9 h)
    · rcases ite_some h with ⟨_, h⟩ | ⟨_, h⟩
      · exact Fr.trans Fr.refl (fr_Mo_walk_B30  w0 w0 w1 w2 w3 w4 w5 w6 w7 w8 w9 h)
      · exact Fr.trans Fr.refl (fr_Mo_walk_B30  w0 w0 w1 w2 w3 w4 w5 w6 w7 w8 w9 h)
theorem fr_Mo_state_B35 {P : Nat → Prop} {v0 : Nat} {v1 : Int32} {v2 : Int32} {v3 : Int32} {t0 : Nat} {t1 : Int32} {σ : St} {r : Int32 × St} (w0 : P t0) (h : Mo_state_B35 v0 v1 v2 v3 t0 t1 σ = some r) : Fr P σ r.2 := by
  unfold Mo_state_B35 at h
  obtain ⟨_, σ1, e1, h⟩ := cl_some h
  have f1 : Fr P _ _ := Fr.trans Fr.refl (fr_Mo_throwing  w0 e1)
  rcases ite_some h with ⟨_, h⟩ | ⟨_, h⟩
  · rcases ite_some h with ⟨_, h⟩ | ⟨_, h⟩
    · rcases ite_some h with ⟨_, h⟩ | ⟨_, h⟩
      · rcases ite_some h with ⟨_, h⟩ | ⟨_, h⟩
        · replace h := (ld_some h).2
          rw [← Option.some.inj h]; exact f1
        · rcases ite_some h with ⟨_, h⟩ | ⟨_, h⟩
          · replace h := (ld_some h).2
            rw [← Option.some.inj h]; exact f1
          · rcases ite_some h with ⟨_, h⟩ | ⟨_, h⟩
            · replace h := (ld_some h).2
              rw [← Option.some.inj h]; exact f1
            · rcases ite_some h with ⟨_, h⟩ | ⟨_, h⟩
              · replace h := (ld_some h).2
                rw [← Option.some.inj h]; exact f1
              · rcases ite_some h with ⟨_, h⟩ | ⟨_, h⟩
                · rcases ite_some h with ⟨_, h⟩ | ⟨_, h⟩
                  · rw [← Option.some.inj h]; exact f1
                  · rw [← Option.some.inj h]; exact f1
                · rcases ite_some h with ⟨_, h⟩ | ⟨_, h⟩
                  · rw [← Option.some.inj h]; exact f1
                  · rcases ite_some h with ⟨_, h⟩ | ⟨_, h⟩
                    · rw [← Option.some.inj h]; exact f1
                    · rw [← Option.some.inj h]; exact f1
      · replace h := (ld_some h).2
        rw [← Option.some.inj h]; exact f1
    · replace h := (ld_some h).2
      rw [← Option.some.inj h]; exact f1
  · rw [← Option.some.inj h]; exact f1
theorem fr_Mo_state_B9 {P : Nat → Prop} {v0 : Nat} {v1 : Int32} {v2 : Int32} {t0 : Int32} {σ : St} {r : Int32 × St} (w0 : P v0) (h : Mo_state_B9 v0 v1 v2 t0 σ = some r) : Fr P σ r.2 := by
  unfold Mo_state_B9 at h
  replace h := (ld_some h).2
  rcases ite_some h with ⟨_, h⟩ | ⟨_, h⟩
  · exact Fr.trans Fr.refl (fr_Mo_state_B35  w0 h)
  · rcases ite_some h with ⟨_, h⟩ | ⟨_, h⟩
    · exact Fr.trans Fr.refl (fr_Mo_state_B35  w0 h)
    · rcases ite_some h with ⟨_, h⟩ | ⟨_, h⟩
      · exact Fr.trans Fr.refl (fr_Mo_state_B35  w0 h)
      · exact Fr.trans Fr.refl (fr_Mo_state_B35  w0 h)
theorem fr_Mo_state {P : Nat → Prop} {v0 : Nat} {v1 : Int32} {v2 : Int32} {σ : St} {r : Int32 × St} (w0 : P v0) (h : Mo_state v0 v1 v2 σ = some r) : Fr P σ r.2 := by
  unfold Mo_state at h
  rcases ite_some h with ⟨_, h⟩ | ⟨_, h⟩
  · exact Fr.trans Fr.refl (fr_Mo_state_B9  w0 h)
  · exact Fr.trans Fr.refl (fr_Mo_state_B9  w0 h)
theorem fr_Mo_data_B14 {P : Nat → Prop} {v0 : Nat} {v2 : Int32} {t0 : Int32} {σ : St} {r : Int32 × St} (h : Mo_data_B14 v0 v2 t0 σ = some r) : Fr P σ r.2 := by
  unfold Mo_data_B14 at h
  replace h := (ld_some h).2
  rcases ite_some h with ⟨_, h⟩ | ⟨_, h⟩
  · rw [← Option.some.inj h]; exact Fr.refl
  · rcases ite_some h with ⟨_, h⟩ | ⟨_, h⟩
    · rw [← Option.some.inj h]; exact Fr.refl
    · rcases ite_some h with ⟨_, h⟩ | ⟨_, h⟩
      · rw [← Option.some.inj h]; exact Fr.refl
      · replace h := (ld_some h).2
        rw [← Option.some.inj h]; exact Fr.refl
theorem fr_Mo_data {P : Nat → Prop} {v0 : Nat} {v1 : Int32} {v2 : Int32} {σ : St} {r : Int32 × St} (w0 : P v0) (h : Mo_data v0 v1 v2 σ = some r) : Fr P σ r.2 := by
  unfold Mo_data at h
  replace h := nm_some h
  rcases ite_some h with ⟨_, h⟩ | ⟨_, h⟩
  · exact Fr.trans (Fr.s2 w0 Fr.refl) (fr_Mo_data_B14   h)
  · exact Fr.trans (Fr.s2 w0 Fr.refl) (fr_Mo_data_B14   h)
theorem fr_Mo_output_B39 {P : Nat → Prop} {v0 : Nat} {v2 : Int32} {v3 : Int32} {t0 : Nat} {t1 : Int32} {σ : St} {r : Int32 × St} (w0 : P t0) (h : Mo_output_B39 v0 v2 v3 t0 t1 σ = some r) : Fr P σ r.2 := by
  unfold Mo_output_B39 at h
  obtain ⟨_, σ1, e1, h⟩ := cl_some h
  have f1 : Fr P _ _ := Fr.trans Fr.refl (fr_Mo_throwing  w0 e1)
  rcases ite_some h with ⟨_, h⟩ | ⟨_, h⟩
  · replace h := (ld_some h).2
    rw [← Option.some.inj h]; exact f1
  · rw [← Option.some.inj h]; exact f1
theorem fr_Mo_output_B9 {P : Nat → Prop} {v0 : Nat} {v2 : Int32} {t0 : Int32} {σ : St} {r : Int32 × St} (w0 : P v0) (h : Mo_output_B9 v0 v2 t0 σ = some r) : Fr P σ r.2 := by
  unfold Mo_output_B9 at h
  replace h := (ld_some h).2
  rcases ite_some h with ⟨_, h⟩ | ⟨_, h⟩
  · exact Fr.trans Fr.refl (fr_Mo_output_B39  w0 h)
  · rcases ite_some h with ⟨_, h⟩ | ⟨_, h⟩
    · exact Fr.trans Fr.refl (fr_Mo_output_B39  w0 h)
    · replace h := (ld_some h).2
      rcases ite_some h with ⟨_, h⟩ | ⟨_, h⟩
      · exact Fr.trans Fr.refl (fr_Mo_output_B39  w0 h)
      · exact Fr.trans Fr.refl (fr_Mo_output_B39  w0 h)
theorem fr_Mo_output {P : Nat → Prop} {v0 : Nat} {v1 : Int32} {v2 : Int32} {σ : St} {r : Int32 × St} (w0 : P v0) (h : Mo_output v0 v1 v2 σ = some r) : Fr P σ r.2 := by
  unfold Mo_output at h
  rcases ite_some h with ⟨_, h⟩ | ⟨_, h⟩
  · exact Fr.trans Fr.refl (fr_Mo_output_B9  w0 h)
  · exact Fr.trans Fr.refl (fr_Mo_output_B9  w0 h)
