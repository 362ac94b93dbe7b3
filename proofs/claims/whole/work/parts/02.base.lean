/-! THE PURE WORLD: a store gives each cell (by its number) its ints; a method is a function of the store; 'none' where the machine would throw by itself -/
abbrev St : Type := Nat → Nat → Int32
def nm {α β : Type} (a : α) (f : α → β) : β := f a
def cl {α β : Type} (x : Option (α × St)) (f : α → St → Option β) : Option β := match x with
  | none => none
  | some q => f q.1 q.2
def cv {β : Type} (x : Option St) (f : St → Option β) : Option β := match x with
  | none => none
  | some q => f q
def s2 (σ : St) (c k : Nat) (v : Int32) : St := va_up σ c (upd (σ c) k v)
def ld {β : Type} (σ : St) (c n : Nat) (i : Int32) (f : Int32 → Option β) : Option β := if i < 0 ∨ n ≤ i.toNatClampNeg then none else f (σ c i.toNatClampNeg)
def sa {β : Type} (σ : St) (c n : Nat) (i v : Int32) (f : St → Option β) : Option β := if i < 0 ∨ n ≤ i.toNatClampNeg then none else f (s2 σ c i.toNatClampNeg v)
def zb {β : Type} (v : Int32) (x : Option β) : Option β := if v = 0 ∨ v = 1 then x else none
def cp {β : Type} (σ : St) (c n : Nat) (sp : Int32) (c' n' : Nat) (dp k : Int32) (f : St → Option β) : Option β :=
  if sp < 0 ∨ dp < 0 ∨ k < 0 ∨ n < sp.toNatClampNeg + k.toNatClampNeg ∨ n' < dp.toNatClampNeg + k.toNatClampNeg then none else f (va_up σ c' (va_cpy (σ c) (σ c') sp.toNatClampNeg dp.toNatClampNeg k.toNatClampNeg))
abbrev rn (x : Int32) : Nat := x.toNatClampNeg
def gr {β : Type} (q : Nat) (x : Option β) : Option β := if q < 1000 then x else none
def lr {β : Type} (σ : St) (c : Nat) (i : Int32) (f : Int32 → Option β) : Option β := if kd c = 900 then ld σ c (al c) i f else none
def sr {β : Type} (σ : St) (c : Nat) (i v : Int32) (f : St → Option β) : Option β := if kd c = 900 then sa σ c (al c) i v f else none
def fo {β : Type} (i : Int32) (f : Int32 → Option β) : Option β := if i < 0 ∨ 23 ≤ i.toNatClampNeg then none else f (FORMS i.toNatClampNeg)
/-- how often a loop may turn at most -/
def FU : Nat := 20000
abbrev shl (x y : Int32) : Int32 := x <<< (y &&& 31)
abbrev shr (x y : Int32) : Int32 := x >>> (y &&& 31)
abbrev ushr (x y : Int32) : Int32 := (x.toUInt32 >>> (y.toUInt32 &&& Int32.toUInt32 31)).toInt32
abbrev rem (x y : Int32) : Int32 := x - x / y * y
def mx (x y : Int32) : Int32 := if x < y then y else x
def mn (x y : Int32) : Int32 := if y < x then y else x
abbrev i2b (x : Int32) : Int32 := x.toInt8.toInt32
theorem cl_some {α β : Type} {x : Option (α × St)} {f : α → St → Option β} {r : β} (h : cl x f = some r) : ∃ a s, x = some (a, s) ∧ f a s = some r := by
  cases x with
  | none => cases h
  | some q => exact ⟨q.1, q.2, rfl, h⟩
theorem cv_some {β : Type} {x : Option St} {f : St → Option β} {r : β} (h : cv x f = some r) : ∃ s, x = some s ∧ f s = some r := by
  cases x with
  | none => cases h
  | some q => exact ⟨q, rfl, h⟩
theorem ld_some {β : Type} {σ : St} {c n : Nat} {i : Int32} {f : Int32 → Option β} {r : β} (h : ld σ c n i f = some r) : vp_in i n ∧ f (σ c i.toNatClampNeg) = some r := by
  unfold ld at h
  by_cases hc : i < 0 ∨ n ≤ i.toNatClampNeg
  · rw [if_pos hc] at h; cases h
  · rw [if_neg hc] at h; exact ⟨hc, h⟩
theorem sa_some {β : Type} {σ : St} {c n : Nat} {i v : Int32} {f : St → Option β} {r : β} (h : sa σ c n i v f = some r) : vp_in i n ∧ f (s2 σ c i.toNatClampNeg v) = some r := by
  unfold sa at h
  by_cases hc : i < 0 ∨ n ≤ i.toNatClampNeg
  · rw [if_pos hc] at h; cases h
  · rw [if_neg hc] at h; exact ⟨hc, h⟩
theorem zb_some {β : Type} {v : Int32} {x : Option β} {r : β} (h : zb v x = some r) : (v = 0 ∨ v = 1) ∧ x = some r := by
  unfold zb at h
  by_cases hc : v = 0 ∨ v = 1
  · rw [if_pos hc] at h; exact ⟨hc, h⟩
  · rw [if_neg hc] at h; cases h
theorem cp_some {β : Type} {σ : St} {c n : Nat} {sp : Int32} {c' n' : Nat} {dp k : Int32} {f : St → Option β} {r : β} (h : cp σ c n sp c' n' dp k f = some r) :
    (¬ sp < 0 ∧ ¬ dp < 0 ∧ ¬ k < 0 ∧ sp.toNatClampNeg + k.toNatClampNeg ≤ n ∧ dp.toNatClampNeg + k.toNatClampNeg ≤ n') ∧ f (va_up σ c' (va_cpy (σ c) (σ c') sp.toNatClampNeg dp.toNatClampNeg k.toNatClampNeg)) = some r := by
  unfold cp at h
  by_cases hc : sp < 0 ∨ dp < 0 ∨ k < 0 ∨ n < sp.toNatClampNeg + k.toNatClampNeg ∨ n' < dp.toNatClampNeg + k.toNatClampNeg
  · rw [if_pos hc] at h; cases h
  · rw [if_neg hc] at h
    simp only [not_or, Nat.not_lt] at hc
    exact ⟨hc, h⟩
theorem gr_some {β : Type} {q : Nat} {x : Option β} {r : β} (h : gr q x = some r) : q < 1000 ∧ x = some r := by
  unfold gr at h
  by_cases hc : q < 1000
  · rw [if_pos hc] at h; exact ⟨hc, h⟩
  · rw [if_neg hc] at h; cases h
theorem lr_some {β : Type} {σ : St} {c : Nat} {i : Int32} {f : Int32 → Option β} {r : β} (h : lr σ c i f = some r) : kd c = 900 ∧ ld σ c (al c) i f = some r := by
  unfold lr at h
  by_cases hc : kd c = 900
  · rw [if_pos hc] at h; exact ⟨hc, h⟩
  · rw [if_neg hc] at h; cases h
theorem sr_some {β : Type} {σ : St} {c : Nat} {i v : Int32} {f : St → Option β} {r : β} (h : sr σ c i v f = some r) : kd c = 900 ∧ sa σ c (al c) i v f = some r := by
  unfold sr at h
  by_cases hc : kd c = 900
  · rw [if_pos hc] at h; exact ⟨hc, h⟩
  · rw [if_neg hc] at h; cases h
theorem fo_some {β : Type} {i : Int32} {f : Int32 → Option β} {r : β} (h : fo i f = some r) : vp_in i 23 ∧ f (FORMS i.toNatClampNeg) = some r := by
  unfold fo at h
  by_cases hc : i < 0 ∨ 23 ≤ i.toNatClampNeg
  · rw [if_pos hc] at h; cases h
  · rw [if_neg hc] at h; exact ⟨hc, h⟩
theorem ift {c : Prop} {d : Decidable c} {α : Type} {A : Option α} {r : α} (hc : c) (h : A = some r) : (@ite _ c d A none) = some r := by rw [if_pos hc]; exact h
theorem ifn {c : Prop} {d : Decidable c} {α : Type} {B : Option α} {r : α} (hc : ¬ c) (h : B = some r) : (@ite _ c d none B) = some r := by rw [if_neg hc]; exact h
/-! ===== the world: NC cells at the addresses 'a 0' .. ; what a cell holds is read off the store ===== -/
/-- D, the array classes of int, boolean, long, the addresses -/
abbrev Gd : Type := va_G × ClassId × ClassId × ClassId × (Nat → Nat)
def fv (a : Nat → Nat) (o : Nat) (row : Nat → Int32) (j : Nat) : Value :=
  if rf (kd o) j = 1 then .ref (a (ch o j)) else if rf (kd o) j = 2 then .ref (a (row j).toNatClampNeg) else .int (row j)
def ce (g : Gd) (o : Nat) (row : Nat → Int32) : va_E :=
  if kd o = 900 then .inl (g.2.1, al o, .inl row)
  else if kd o = 902 then .inl (g.2.2.1, al o, .inl row)
  else if kd o = 901 then .inl (g.2.2.2.1, al o, .inr (.inl fun j => (row j).toInt64))
  else .inr (kd o, (List.range (nf (kd o))).map (fv g.2.2.2.2 o row))
def wd (g : Gd) (σ : St) : va_W := (List.range NC).map (fun o => (g.2.2.2.2 o, ce g o (σ o)))
def tys (g : Gd) : List (ClassId × FieldType) := [(g.2.1, .int), (g.2.2.1, .boolean), (g.2.2.2.1, .long)]
/-- the cells that may change: the world's, and new ones -/
def AA (g : Gd) (sz : Nat) : Nat → Prop := fun q => (∃ o, o < NC ∧ q = g.2.2.2.2 o) ∨ sz ≤ q
def inj (g : Gd) : Prop := ∀ i j, i < NC → j < NC → g.2.2.2.2 i = g.2.2.2.2 j → i = j
theorem wd_at (g : Gd) (σ : St) {o : Nat} (h : o < NC) : (wd g σ)[o]? = some (g.2.2.2.2 o, ce g o (σ o)) := by
  unfold wd
  rw [List.getElem?_map, List.getElem?_range h]
  rfl
theorem wd_len (g : Gd) (σ : St) : (wd g σ).length = NC := by simp [wd]
theorem wd_set (g : Gd) (σ : St) {o : Nat} (h : o < NC) (row : Nat → Int32) : (wd g σ).set o (g.2.2.2.2 o, ce g o row) = wd g (va_up σ o row) := by
  apply List.ext_getElem?
  intro i
  by_cases hi : i < NC
  · by_cases e : o = i
    · subst e
      rw [List.getElem?_set_self (by rw [wd_len]; exact h), wd_at g _ h, va_up_self]
    · rw [List.getElem?_set_ne e, wd_at g _ hi, wd_at g _ hi, va_up_ne σ row (fun q => e q.symm)]
  · rw [List.getElem?_eq_none (by rw [List.length_set, wd_len]; omega), List.getElem?_eq_none (by rw [wd_len]; omega)]
theorem wd_D {g : Gd} (hi : inj g) (σ : St) (sz : Nat) : va_D (AA g sz) (wd g σ) := by
  have at' : ∀ (k : Nat) (q : Nat × va_E), (wd g σ)[k]? = some q → k < NC ∧ q = (g.2.2.2.2 k, ce g k (σ k)) := by
    intro k q h
    have hk : k < NC := by
      rcases Nat.lt_or_ge k NC with h1 | h1
      · exact h1
      · rw [List.getElem?_eq_none (by rw [wd_len]; omega)] at h; cases h
    rw [wd_at g σ hk] at h
    exact ⟨hk, (Option.some.inj h).symm⟩
  refine ⟨fun i j p q h1 h2 e => ?_, fun k q h => ?_⟩
  · obtain ⟨a1, rfl⟩ := at' i p h1
    obtain ⟨a2, rfl⟩ := at' j q h2
    exact hi i j a1 a2 e
  · obtain ⟨a1, rfl⟩ := at' k q h
    exact Or.inl ⟨k, a1, rfl⟩
theorem ce_i {g : Gd} {o : Nat} (h : kd o = 900) (row : Nat → Int32) : ce g o row = .inl (g.2.1, al o, .inl row) := by simp [ce, h]
theorem ce_z {g : Gd} {o : Nat} (h : kd o = 902) (row : Nat → Int32) : ce g o row = .inl (g.2.2.1, al o, .inl row) := by simp [ce, h]
theorem ce_j {g : Gd} {o : Nat} (h : kd o = 901) (row : Nat → Int32) : ce g o row = .inl (g.2.2.2.1, al o, .inr (.inl fun j => (row j).toInt64)) := by simp [ce, h]
theorem ce_o {g : Gd} {o K : Nat} (h : kd o = K) (hK : K < 900) (row : Nat → Int32) : ce g o row = .inr (K, (List.range (nf K)).map (fv g.2.2.2.2 o row)) := by
  subst h
  unfold ce
  rw [if_neg (by omega), if_neg (by omega), if_neg (by omega)]
theorem fv_i {a : Nat → Nat} {o K j : Nat} (h : kd o = K) (hr : rf K j = 0) (row : Nat → Int32) : fv a o row j = .int (row j) := by
  subst h
  simp [fv, hr]
theorem fv_r {a : Nat → Nat} {o K j : Nat} (h : kd o = K) (hr : rf K j = 1) (row : Nat → Int32) : fv a o row j = .ref (a (ch o j)) := by
  subst h
  simp [fv, hr]
theorem fv_m {a : Nat → Nat} {o K j : Nat} (h : kd o = K) (hr : rf K j = 2) (row : Nat → Int32) : fv a o row j = .ref (a (row j).toNatClampNeg) := by
  subst h
  simp [fv, hr]
theorem fs_at {K j : Nat} (F : Nat → Value) (hj : j < nf K) : ((List.range (nf K)).map F)[j]? = some (F j) := by
  rw [List.getElem?_map, List.getElem?_range hj]
  rfl
theorem fs_set {K j : Nat} (F G : Nat → Value) (hj : j < nf K) (hG : ∀ i, i ≠ j → G i = F i) : ((List.range (nf K)).map F).set j (G j) = (List.range (nf K)).map G := by
  apply List.ext_getElem?
  intro i
  by_cases hi : i < nf K
  · rw [List.getElem?_set, fs_at G hi]
    by_cases e : j = i
    · subst e
      simp [hj]
    · rw [if_neg e, fs_at F hi, hG i (fun q => e q.symm)]
  · rw [List.getElem?_eq_none (by simp; omega), List.getElem?_eq_none (by simp; omega)]
/-! the words of all methods -/
def GT : List Cond := lw_tbl.filter goodWord
theorem gt_of {w : Cond} (h : w ∈ lw_tbl) (g : goodWord w = true) : w ∈ GT := List.mem_filter.mpr ⟨h, g⟩
theorem gt_good : GoodIn GT GT := fun w h => ⟨h, good_of_word (List.mem_filter.mp h).2⟩
theorem gt_cons {y : MethodName} {cc : ByteArray} {n : Nat} {r : Option FieldType} (h : Cond.code y cc n r ∈ GT) {c2 : Cond} : GoodIn (c2 :: GT) (Cond.code y cc n r :: GT) := fun w hw => by
  rcases List.mem_cons.mp hw with e | e
  · subst e
    exact ⟨List.mem_cons_of_mem _ h, (gt_good _ h).2⟩
  · exact ⟨List.mem_cons_of_mem _ e, (gt_good _ e).2⟩
/-! what stays true of the machine while the class and the reference work -/
/-- the static array FORMS (its length is told as an int alone) -/
def FA (U : State) (H : Heap) (t : Nat) : Prop := ∃ cell : Cell, H[t]? = some cell ∧ U.isArrayOf cell .int ∧ cell.vm ≠ .unknown ∧ 23 ≤ cell.slots.size ∧ cell.slots.size.toInt32 = Int32.ofNat 23 ∧ ∀ j : Nat, j < 23 → cell.slots[j]? = some (.int (FORMS j))
def FO (g : Gd) (U : State) (H : Heap) : Prop := (∃ (cf : ClassId) (kf : Class) (fi : Nat) (f : Field) (q : Nat) (cell : Cell), U.fieldFound? "BundleHouse" "FORMS" "[I" = some (cf, kf, fi, f) ∧ f.isStatic = true ∧ kf.init = .initialized ∧ kf.statics = some q ∧ H[q]? = some cell ∧ cell.vm.isStatics = true ∧ cell.slots[f.slot]? = some (.ref (g.2.2.2.2 NC)) ∧ ∀ o, o < NC → q ≠ g.2.2.2.2 o) ∧
  FA U H (g.2.2.2.2 NC) ∧ ∀ o, o < NC → g.2.2.2.2 NC ≠ g.2.2.2.2 o
/-- a static field of Throwable that holds a reference or null -/
def SF (g : Gd) (U : State) (H : Heap) (n d : String) : Prop := ∃ (cf : ClassId) (kf : Class) (fi : Nat) (f : Field) (q : Nat) (cell : Cell) (u : Value), U.vm.findClass "java/lang/Throwable" = some cf ∧ U.fieldFound? "java/lang/Throwable" n d = some (cf, kf, fi, f) ∧ f.isStatic = true ∧ kf.statics = some q ∧ H[q]? = some cell ∧ cell.vm.isStatics = true ∧ cell.cls = cf ∧ f.slot < cell.slots.size ∧ kf.staticTypes[f.slot]? = some f.type ∧ cell.slots[f.slot]? = some u ∧ u.isRef = true ∧ ∀ o, o < NC → q ≠ g.2.2.2.2 o
/-- which of the three exceptions is assignable to which -/
def CA (U : State) : Prop := ∃ (cN cS cA : ClassId), U.vm.findClass "java/util/NoSuchElementException" = some cN ∧ U.vm.findClass "java/lang/IllegalStateException" = some cS ∧ U.vm.findClass "java/lang/IllegalArgumentException" = some cA ∧ U.vm.assignable cN cN = true ∧ U.vm.assignable cS cS = true ∧ U.vm.assignable cA cA = true ∧ U.vm.assignable cA cS = false
theorem CA.moved {u U : State} (hvm : u.vm.Alike U.vm) (h : CA u) : CA U := by
  obtain ⟨a, b, c, h1, h2, h3, h4, h5, h6, h7⟩ := h
  exact ⟨a, b, c, by rw [hvm.findClass]; exact h1, by rw [hvm.findClass]; exact h2, by rw [hvm.findClass]; exact h3, by rw [hvm.assignable]; exact h4, by rw [hvm.assignable]; exact h5, by rw [hvm.assignable]; exact h6, by rw [hvm.assignable]; exact h7⟩
def Ex (g : Gd) (U : State) (H : Heap) : Prop := (∀ q ∈ STR, ∃ a : Nat, vk_R "BundleHouse" q.1 q.2 a U) ∧ (∀ x ∈ DCL, va_Nw (.declares x) U) ∧ CA U ∧ SF g U H "UNASSIGNED_STACK" "[Ljava/lang/StackTraceElement;" ∧ SF g U H "SUPPRESSED_SENTINEL" "Ljava/util/List;"
def Kx (g : Gd) (U : State) (H : Heap) : Prop := va_K g.1 classes (tys g) U ∧ inj g ∧ (∀ w ∈ NW, va_Nw w U) ∧ FO g U H ∧ Ex g U H
theorem SF.kept {g : Gd} {U : State} {H H1 : Heap} {n d : String} (h : SF g U H n d) (hq : ∀ q : Nat, q < H.size → (∀ o, o < NC → q ≠ g.2.2.2.2 o) → H1[q]? = H[q]?) : SF g U H1 n d := by
  obtain ⟨cf, kf, fi, f, q, cell, u, h1, h2, h3, h4, h5, h6, h7, h8, h9, h10, h11, h12⟩ := h
  exact ⟨cf, kf, fi, f, q, cell, u, h1, h2, h3, h4, by rw [hq q (Array.getElem?_eq_some_iff.mp h5).1 h12]; exact h5, h6, h7, h8, h9, h10, h11, h12⟩
theorem SF.moved {g : Gd} {u U : State} {H : Heap} {n d : String} (hvm : u.vm.Alike U.vm) (h : SF g u H n d) : SF g U H n d := by
  obtain ⟨cf, kf, fi, f, q, cell, x, h1, h2, h3, h4, h5, h6, h7, h8, h9, h10⟩ := h
  obtain ⟨k', hi', he⟩ := State.fieldFound?_setVm hvm h2
  exact ⟨cf, k', fi, f, q, cell, x, by rw [hvm.findClass]; exact h1, hi', h3, by rw [he]; exact h4, h5, h6, h7, h8, by rw [he]; exact h9, h10⟩
theorem Ex.kept {g : Gd} {U : State} {H H1 : Heap} (h : Ex g U H) (hq : ∀ q : Nat, q < H.size → (∀ o, o < NC → q ≠ g.2.2.2.2 o) → H1[q]? = H[q]?) : Ex g U H1 := ⟨h.1, h.2.1, h.2.2.1, h.2.2.2.1.kept hq, h.2.2.2.2.kept hq⟩
theorem Ex.moved {g : Gd} {u U : State} {H : Heap} (hW : u.WarmedH U.vm) (h : Ex g u H) : Ex g U H := ⟨fun q hq => by
  obtain ⟨a, ha⟩ := h.1 q hq
  exact ⟨a, vk_R.warm hW ha⟩, fun x hx => va_Nw.warmD hW (h.2.1 x hx), h.2.2.1.moved hW.alike, h.2.2.2.1.moved hW.alike, h.2.2.2.2.moved hW.alike⟩
theorem Ex.same {g : Gd} {u U : State} {H : Heap} (hv : U.vm = u.vm) (h : Ex g u H) : Ex g U H := ⟨fun q hq => by
  obtain ⟨a, ha⟩ := h.1 q hq
  exact ⟨a, vk_R.same hv ha⟩, fun x hx => va_Nw.same rfl hv.symm (h.2.1 x hx), h.2.2.1.moved (by rw [hv]; exact Vm.Alike.refl _), h.2.2.2.1.moved (by rw [hv]; exact Vm.Alike.refl _), h.2.2.2.2.moved (by rw [hv]; exact Vm.Alike.refl _)⟩
def Wo (g : Gd) (σ : St) (U : State) : Prop := va_P g.1 classes (wd g σ) U.heap ∧ Kx g U U.heap
theorem FO.kept {g : Gd} {U : State} {H H1 : Heap} (h : FO g U H) (hq : ∀ q : Nat, q < H.size → (∀ o, o < NC → q ≠ g.2.2.2.2 o) → H1[q]? = H[q]?) : FO g U H1 := by
  obtain ⟨⟨cf, kf, fi, f, q, cell, h1, h2, h3, h4, h5, h6, h7, h8⟩, h9, h10⟩ := h
  have lt : ∀ {q : Nat} {c : Cell}, H[q]? = some c → q < H.size := fun e => (Array.getElem?_eq_some_iff.mp e).1
  exact ⟨⟨cf, kf, fi, f, q, cell, h1, h2, h3, h4, by rw [hq q (lt h5) h8]; exact h5, h6, h7, h8⟩, (by
    obtain ⟨scr, k1, k2⟩ := h9
    exact ⟨scr, by rw [hq _ (lt k1) h10]; exact k1, k2⟩), h10⟩
theorem FO.moved {g : Gd} {u U : State} {H : Heap} (hvm : u.vm.Alike U.vm) (h : FO g u H) : FO g U H := by
  obtain ⟨⟨cf, kf, fi, f, q, cell, h1, h2, h3, h4, h5⟩, h9, h10⟩ := h
  obtain ⟨k', hi', he⟩ := State.fieldFound?_setVm hvm h1
  exact ⟨⟨cf, k', fi, f, q, cell, hi', h2, by rw [he]; exact h3, by rw [he]; exact h4, h5⟩, (by
    obtain ⟨scr, k1, k2, k3⟩ := h9
    exact ⟨scr, k1, State.isArrayOf_alike hvm k2, k3⟩), h10⟩
theorem Kx.moved {g : Gd} {u U : State} {H : Heap} (hW : u.WarmedH U.vm) (h : Kx g u H) : Kx g U H :=
  ⟨va_K.moved hW.alike h.1, h.2.1, fun w hw => by
    have h3 := h.2.2.1 w hw
    obtain ⟨a, i, x, b, e⟩ := NW_all w hw
    rw [e] at h3 ⊢
    exact va_Nw.warmM hW h3, FO.moved hW.alike h.2.2.2.1, h.2.2.2.2.moved hW⟩
theorem Kx.kept {g : Gd} {U : State} {H H1 : Heap} (h : Kx g U H) (hq : ∀ q : Nat, q < H.size → (∀ o, o < NC → q ≠ g.2.2.2.2 o) → H1[q]? = H[q]?) : Kx g U H1 := ⟨h.1, h.2.1, h.2.2.1, h.2.2.2.1.kept hq, h.2.2.2.2.kept hq⟩
theorem va_S.K {g : Gd} {U : State} {H0 H1 : Heap} {locs : List Loc} (h : Kx g U H0) (hS : va_S (AA g H0.size) H0 H1 locs) : Kx g U H1 :=
  h.kept fun q h1 h2 => hS.2.1 q h1 (fun hA => by
    rcases hA with ⟨o, ho, e⟩ | hA
    · exact h2 o ho e
    · exact absurd h1 (Nat.not_lt.mpr hA))
/-! ===== the walk over the pure world ===== -/
abbrev Cfg : Type := Program × Launch × Env × Room × State × MethodId × Array Value × List Frame × Method × Code × Gd × Nat × (State → Prop) × Nat × Nat
def WW : Cfg → Nat → List (Nat × Value) → List Value → St → Prop
  | (p, l, e, R, s, m, args, below, meth, c, g, nL, Q, c0, s0), pc, lv, st, σ => ∀ (H : Heap) (locs : List Loc) (ls : Array Slot), va_P g.1 classes (wd g σ) H → va_S (AA g s.heap.size) s.heap H locs → lv_has ls nL lv → W p l e R s m args below meth c H locs c0 s0 Q (F0 m pc ls st)
def Cx : Cfg → ByteArray → String → Prop
  | (p, _, _, R, s, m, args, _, meth, c, g, nL, _, c0, s0), cc, own => (p.tables.exec = Jvm.exec ∧ c.code = cc ∧ c.maxLocals = nL ∧ s.vm.findClass own = some m.cls ∧ ∀ w ∈ GT, w.before args s = true) ∧ Kx g s s.heap ∧ meth.locks = false ∧ (c0 ≤ R.cells ∧ s0 ≤ R.slots)
abbrev ad (k : Cfg) : Nat → Nat := k.2.2.2.2.2.2.2.2.2.2.1.2.2.2.2
theorem dq {L : List (Nat × Instr × Nat)} {cc : ByteArray} (h : ∀ q ∈ L, decode cc q.1 = .ok q.2) (i : Nat) {pc : Nat} {ins : Instr} {n : Nat} (hi : L[i]? = some (pc, ins, n)) : decode cc pc = .ok (ins, n) := h (pc, ins, n) (List.mem_of_getElem? hi)
theorem lt_ {a b : Nat} (h : Nat.ble (a + 1) b = true) : a < b := Nat.le_of_ble_eq_true h
theorem le_ {a b : Nat} (h : Nat.ble a b = true) : a ≤ b := Nat.le_of_ble_eq_true h
/-- what a row must know of an own kind of objects -/
def KO (K Co : Nat) (CN : String) (T : u_T) (ty0 : Nat → FieldType) : Prop := (∀ w ∈ u_ws CN T Co, w ∈ GT) ∧ classes[K]? = some (CN, T, Co) ∧ nf K = Co ∧ K < 900 ∧ (∀ i, i < Co → parseFieldDescriptor (T i).2.2.1 = some (ty0 i)) ∧ (∀ i, i < Co → ∀ b, b < Co → i ≠ b → (T i).2.1 ≠ (T b).2.1)
