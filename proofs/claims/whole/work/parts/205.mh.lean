/-! ===== the helpers' contracts, and a call of a helper ===== -/
def HH : Cfg → List (Nat × Nat × Nat × Nat) → Prop
  | (_, l, _, _, _, _, _, _, _, c, _, _, _, c0, s0), hs => c.exceptionTable.toList.map (fun h => (h.startPc, h.endPc, h.handlerPc, h.catchType)) = hs ∧ l.stackTraces = false ∧ c0 = 0 ∧ s0 = 0
def MH (y : MethodName) (rm : Room) (cc : ByteArray) (nL : Nat) (hs : List (Nat × Nat × Nat × Nat)) (av : (Nat → Nat) → List Value) (f : St → Option (Int32 × St)) : Prop :=
  ∀ (l : Launch), l.stackTraces = false → ∀ (g : Gd) (sz : Nat) (σ : St) (res : Int32 × St), f σ = some res → Met l y (Cond.codeWith y cc nL (some .int) hs :: GT) rm (va_Pc (av g.2.2.2.2) (fun U => U.heap.size = sz ∧ Wo g σ U)) (QI g sz res) 1 6 (AA g sz)
theorem mh_of {y : MethodName} {rm : Room} {cc : ByteArray} {nL : Nat} {hs : List (Nat × Nat × Nat × Nat)} {av : (Nat → Nat) → List Value} {f : St → Option (Int32 × St)} (hy : plainName y.cls = true) (hlen : ∀ a, (lg_sl (av a)).length ≤ nL)
    (body : ∀ (k : Cfg) (res : Int32 × St) (σ : St), Cx k cc y.cls → RI (kup k 1 6) .int res → HH k hs → k.2.2.2.1 = rm → k.2.2.2.2.2.2.2.2.2.2.2.1 = nL → f σ = some res → WW k 0 (lv_args 0 (av (ad k))) [] σ) : MH y rm cc nL hs av f := by
  intro l hl0 g sz σ res hf
  refine MetFree.of_bodyS (code := cc) (maxLocals := nL) (ret := some .int) hy ?_ ?_
  · intro args s m h hn
    obtain ⟨m', meth, c, h0, h1, h2, h3, h4, h5, h6, h7, -⟩ := Cond.codeWith_spec (atoms_spec (ws := Cond.codeWith y cc nL (some .int) hs :: GT) h _ List.mem_cons_self)
    cases hn.symm.trans h0
    exact ⟨meth, c, h1, h2, h3, h4, h6, h7⟩
  · intro p e s m args below meth c s₁ B hml hv _
    obtain ⟨rfl, hsz, hP, hK⟩ := hv
    subst hsz
    have hh0 : s₁.heap = s.heap := by rw [B.state]; rfl
    have hall := atoms_spec (ws := Cond.codeWith y cc nL (some .int) hs :: GT) B.pre
    obtain ⟨m', meth', c', h0, h1, h2, h3, h4, h5, h6, h7, -⟩ := Cond.codeWith_spec (hall _ List.mem_cons_self)
    cases B.named.symm.trans h0
    cases B.method.symm.trans h1
    cases (Stand.of_body B).code.symm.trans h2
    have hl := lv_entry (av g.2.2.2.2) (hlen g.2.2.2.2)
    have hts : ∀ w ∈ GT, w.before (av g.2.2.2.2).toArray s = true := fun w hw => hall w (List.mem_cons_of_mem _ hw)
    have w := body (p, l, e, (headSpec (Cond.codeWith y cc nL (some .int) hs :: GT) rm).room, s, m, (av g.2.2.2.2).toArray, below, meth, c, g, nL, MQ below (QI g s.heap.size res) (av g.2.2.2.2).toArray s 1 6 (AA g s.heap.size), 0, 0) res σ
      ⟨⟨B.exec, B.bytes, hml, findClass_of_methodNamed B.named, hts⟩, hK, B.notSynchronized, Nat.zero_le _, Nat.zero_le _⟩ ⟨B.returns, rfl⟩ ⟨h5, hl0, rfl, rfl⟩ rfl rfl hf s.heap [] _ hP va_S.rf hl
    obtain ⟨t, a1, o, b1, b2, b3⟩ := w s₁ hh0 (Stand.of_body B)
    exact ⟨t, o, by rw [lg_entry_eq]; exact a1, b1, b2, ⟨b3.1, b3.2⟩⟩
theorem hh_k {k : Cfg} {hs : List (Nat × Nat × Nat × Nat)} (h : HH k hs) : k.2.1.stackTraces = false ∧ k.2.2.2.2.2.2.2.2.2.2.2.2.2.1 = 0 ∧ k.2.2.2.2.2.2.2.2.2.2.2.2.2.2 = 0 := by
  obtain ⟨p, l, e, R, s, m, args, below, meth, c, g, nL, Q, c0, s0⟩ := k
  exact h.2
theorem cx_up {k : Cfg} {cc : ByteArray} {own : String} (C : Cx k cc own) {n r : Nat} (h : k.2.2.2.2.2.2.2.2.2.2.2.2.2.1 + n ≤ k.2.2.2.1.cells ∧ k.2.2.2.2.2.2.2.2.2.2.2.2.2.2 + r ≤ k.2.2.2.1.slots) : Cx (kup k n r) cc own := by
  obtain ⟨p, l, e, R, s, m, args, below, meth, c, g, nL, Q, c0, s0⟩ := k
  obtain ⟨h1, hK, hlk, hcs⟩ := C
  exact ⟨h1, hK, hlk, h⟩
theorem hd_1 {k : Cfg} {cc : ByteArray} (C : Cx k cc "BundleHouseLaw") {a b h t : Nat} {hs : List (Nat × Nat × Nat × Nat)} (H : HH k ((a, b, h, t) :: hs)) {pc : Nat} (hp : a ≤ pc ∧ pc < b) (ht : t ≠ 0) (j : Nat) (hl : Cond.classLink "BundleHouseLaw" t (exN j) ∈ GT) : Hd k pc j h := by
  obtain ⟨p, l, e, R, s, m, args, below, meth, c, g, nL, Q, c0, s0⟩ := k
  obtain ⟨⟨hx, hb, hml, hown, hts⟩, hK, hlk, hcs⟩ := C
  obtain ⟨H, -⟩ := H
  cases he : c.exceptionTable.toList with
  | nil => rw [he] at H; cases H
  | cons x rest =>
    rw [he] at H
    simp only [List.map_cons, List.cons.injEq, Prod.mk.injEq] at H
    obtain ⟨⟨e1, e2, e3, e4⟩, -⟩ := H
    exact Or.inl ⟨x, rest, he, by simp [covers, e1, e2, hp], by rw [e4]; exact ht, e3, by rw [e4]; exact hts _ hl⟩
theorem hd_2 {k : Cfg} {cc : ByteArray} (C : Cx k cc "BundleHouseLaw") {a b h t a2 b2 h2 t2 : Nat} {hs : List (Nat × Nat × Nat × Nat)} (H : HH k ((a, b, h, t) :: (a2, b2, h2, t2) :: hs)) {pc : Nat} (hp : a ≤ pc ∧ pc < b) (ht : t ≠ 0) (hp2 : a2 ≤ pc ∧ pc < b2) (ht2 : t2 ≠ 0) (hl : Cond.classLink "BundleHouseLaw" t (exN 2) ∈ GT) (hl2 : Cond.classLink "BundleHouseLaw" t2 (exN 3) ∈ GT) : Hd k pc 3 h2 := by
  obtain ⟨p, l, e, R, s, m, args, below, meth, c, g, nL, Q, c0, s0⟩ := k
  obtain ⟨⟨hx, hb, hml, hown, hts⟩, hK, hlk, hcs⟩ := C
  obtain ⟨H, -⟩ := H
  cases he : c.exceptionTable.toList with
  | nil => rw [he] at H; cases H
  | cons x r1 =>
    cases r1 with
    | nil => rw [he] at H; simp at H
    | cons y rest =>
      rw [he] at H
      simp only [List.map_cons, List.cons.injEq, Prod.mk.injEq] at H
      obtain ⟨⟨e1, e2, e3, e4⟩, ⟨f1, f2, f3, f4⟩, -⟩ := H
      exact Or.inr ⟨rfl, x, y, rest, he, by simp [covers, e1, e2, hp], by rw [e4]; exact ht, by simp [covers, f1, f2, hp2], by rw [f4]; exact ht2, f3, by rw [e4]; exact hts _ hl, by rw [f4]; exact hts _ hl2⟩
abbrev CWH (y : MethodName) (bytes : ByteArray) (maxL : Nat) (hs : List (Nat × Nat × Nat × Nat)) (n : Nat) : Prop :=
  (Cond.codeWith y bytes maxL (some .int) hs ∈ GT ∧ Cond.initialized y.cls ∈ GT ∧ (y.cls ≠ "java/lang/invoke/MethodHandle" ∧ y.cls ≠ "java/lang/invoke/VarHandle" ∧ (parseMethodDescriptor y.desc).map (fun d => d.parameters.length) = some n)) ∧ Cond.static y ∈ GT
set_option maxHeartbeats 2000000 in
theorem ww_hcall {k : Cfg} {cc : ByteArray} {own : String} (C : Cx k cc own) {pc : Nat} {lv : List (Nat × Value)} {st : List Value} {σ : St} {y : MethodName} {rm rm' : Room} {bytes : ByteArray} {maxL n index : Nat} {hs : List (Nat × Nat × Nat × Nat)} {av : (Nat → Nat) → List Value} {f : St → Option (Int32 × St)} {st0 As : List Value} {α : Type} {F : Int32 → St → Option α} {r : α}
    (M : MH y rm' bytes maxL hs av f) (hl0 : k.2.1.stackTraces = false) (cw : CWH y bytes maxL hs n) (hlink : Cond.methodLink own index y ∈ GT) (hRm : k.2.2.2.1 = rm) (hrm : (rm'.cells = 1 ∧ rm'.slots = 6) ∧ rm'.frames + 1 ≤ rm.frames ∧ 8 + (maxL + 11) + rm'.locals ≤ rm.locals)
    (hroom : k.2.2.2.2.2.2.2.2.2.2.2.2.2.1 + 1 ≤ rm.cells ∧ k.2.2.2.2.2.2.2.2.2.2.2.2.2.2 + 6 ≤ rm.slots) (hav : av (ad k) = As) (hn : As.length = n) (hst : st0 = As.reverse ++ st) (h8 : (st.map fun v => v.category).sum ≤ 8) (d : decode cc pc = .ok (.invokestatic index, 3)) (h : cl (f σ) F = some r)
    (kk : ∀ v σ1, F v σ1 = some r → WW (kup k 1 6) (pc + 3) lv (.int v :: st) σ1) : WW k pc lv st0 σ := by
  obtain ⟨p, l, e, R, s, m, args, below, meth, c, g, nL, Q, c0, s0⟩ := k
  obtain ⟨⟨hx, hb, hml, hown, hts⟩, hK, hlk, hcs⟩ := C
  intro H locs ls hP hS hl
  have hRm : R = rm := hRm
  subst hRm
  subst hst
  obtain ⟨rv, rs, hf, hF⟩ := cl_some h
  have hpc := wo_pre hK hP hS
  obtain ⟨⟨w1, w2, w3⟩, w4⟩ := cw
  have hav : av g.2.2.2.2 = As := hav
  have hM := M l hl0 g H.size σ (rv, rs) hf
  rw [hav] at hM
  intro T1 hT X
  obtain ⟨mk, methM, cM, hnamed, hmethM, hcM, hbM, hlM, -, -, -, hsigM⟩ := Cond.codeWith_spec (hts _ w1)
  have hstatic : methM.isStatic = true := Cond.static_spec hnamed hmethM (hts _ w4)
  obtain ⟨kP, hkP, -⟩ := className_of_methodNamed hnamed
  have hinitP : kP.init = .initialized := Cond.initialized_spec (findClass_of_methodNamed hnamed) hkP (hts _ w2)
  have hlen : ∀ sig, parseMethodDescriptor y.desc = some sig → As.length = sig.parameters.length := fun sig hs => by
    have h2 := w3.2.2
    rw [hs] at h2
    exact hn.trans (Option.some.inj h2).symm
  obtain ⟨vm₁, X₁, hstep₁⟩ := X.invokestatic hx hown (hts _ hlink) hnamed hmethM hstatic hkP hinitP ⟨w3.1, w3.2.1⟩ (g := F0 m pc ls (As.reverse ++ st)) rfl (argsL := As) (rest := st) (hlen _ hsigM) rfl (by rw [hb]; exact d)
  obtain ⟨kP₁, hkP₁, heP₁⟩ := X₁.warmed.alike.2.2 _ _ hkP
  have hgood : GoodIn GT (Cond.codeWith y bytes maxL (some .int) hs :: GT) := fun w hw => by
    rcases List.mem_cons.mp hw with e | e
    · subst e
      exact ⟨w1, (gt_good _ w1).2⟩
    · exact gt_good _ e
  obtain ⟨oc, t, hst1, hend, hq, L, ⟨⟨v9, hv9⟩, hW1, hsame⟩, hL⟩ := cf_call X₁ hM (g := F0 m pc ls st) rfl (hl.1.trans hml.symm) (by rw [hb]; exact d) (X₁.named hnamed) (show (T1.setVm vm₁).vm.method? mk = some methM by rw [X₁.warmed.alike.method?]; exact hmethM) hcM hkP₁ (by rw [heP₁]; exact hinitP) hrm.2.1
    (by
      have h9 := hrm.2.2
      show 2 * (F0 m pc ls st).monitorRoom + (st.map fun v => v.category).sum + (cM.maxLocals + 11) + rm'.locals ≤ R.locals
      have h10 := lv_room (m := m) (pc := pc) (ls := ls) (rest := st) h8
      rw [hlM]; omega)
    (by show c0 + rm'.cells ≤ R.cells; rw [hrm.1.1]; exact hroom.1) (by show s0 + rm'.slots ≤ R.slots; rw [hrm.1.2]; exact hroom.2)
    (a := As.toArray) (atoms_intro fun w hw => pay_in hts hgood w hw _ _ X₁.warmed)
    ⟨rfl, by
      have h11 := hpc (T1.setVm vm₁) hT X₁.warmed
      exact ⟨h11.1, wo_calling _ _ _ h11.2⟩⟩
  obtain ⟨⟨r9, u9, ho, hr9, hWo⟩, hFr⟩ := hq
  subst ho
  have e1 := congrArg Prod.fst hr9
  have e2 := congrArg Prod.snd hr9
  dsimp only at e1 e2
  subst e1
  subst e2
  obtain ⟨T', X', hW', hsm, hteq⟩ := X₁.outOf (g := F0 m pc ls st) rfl (by rw [hb]; exact d) hend hW1 hsame
  have hh : T'.heap = t.heap := by rw [hteq]; rfl
  have hS1 : va_S (AA g s.heap.size) s.heap T'.heap (locs ++ L) := by
    have hz : (T1.setVm vm₁).heap = H := hT
    refine ⟨Nat.le_trans hS.1 (by rw [hh]; have := hFr.1; rw [show ((T1.setVm vm₁).calling (F0 m pc ls st) mk As.toArray).heap = H from hT] at this; exact this), fun q h1 h2 => ?_, fun x hx2 => ?_⟩
    · rw [hh, hFr.2 q (by show q < (T1.setVm vm₁).heap.size; rw [hz]; exact Nat.lt_of_lt_of_le h1 hS.1) (fun hA => h2 (aa_sub hS.1 q hA))]
      rw [show ((T1.setVm vm₁).calling (F0 m pc ls st) mk As.toArray).heap = H from hT]
      exact hS.2.1 q h1 h2
    · rcases List.mem_append.mp hx2 with h3 | h3
      · exact hS.2.2 x h3
      · exact aa_sub hS.1 _ (hL x h3)
  obtain ⟨t', a1, b1⟩ := kk _ _ hF T'.heap (locs ++ L) ls (by rw [hh]; exact hWo.1) hS1 hl T' rfl X'
  refine ⟨t', hstep₁ _ (fun acts => ?_), b1⟩
  rw [doInvoke_state]
  refine hst1.trans ?_
  rw [hteq]
  exact a1
