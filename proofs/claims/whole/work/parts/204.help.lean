/-! ===== the law's helpers: they call a method that may throw, and catch ===== -/
/-- the configuration behind n more cells of r more slots -/
def kup (k : Cfg) (n r : Nat) : Cfg := (k.1, k.2.1, k.2.2.1, k.2.2.2.1, k.2.2.2.2.1, k.2.2.2.2.2.1, k.2.2.2.2.2.2.1, k.2.2.2.2.2.2.2.1, k.2.2.2.2.2.2.2.2.1, k.2.2.2.2.2.2.2.2.2.1, k.2.2.2.2.2.2.2.2.2.2.1, k.2.2.2.2.2.2.2.2.2.2.2.1, k.2.2.2.2.2.2.2.2.2.2.2.2.1, k.2.2.2.2.2.2.2.2.2.2.2.2.2.1 + n, k.2.2.2.2.2.2.2.2.2.2.2.2.2.2 + r)
theorem ad_kup (k : Cfg) (n r : Nat) : ad (kup k n r) = ad k := rfl
theorem ww_last {k : Cfg} {cc : ByteArray} {own : String} (C : Cx k cc own) {pc : Nat} {lv : List (Nat × Value)} {st : List Value} {σ : St} {n o : Nat} {i v : Int32} {α : Type} {F : St → Option α} {r : α} (ho : kd o = 901) (hn : al o = n) (d : decode cc pc = .ok (.lastore, 1)) (h : sa σ o n i v F = some r) (kk : ∀ σ1, F σ1 = some r → WW k (pc + 1) lv st σ1) : WW k pc lv (.long (Int32.toInt64 v) :: .int i :: .ref (ad k o) :: st) σ := by
  obtain ⟨p, l, e, R, s, m, args, below, meth, c, g, nL, Q, c0, s0⟩ := k
  obtain ⟨⟨hx, hb, hml, hown, hts⟩, hK, hlk, hcs⟩ := C
  intro H locs ls hP hS hl
  have hoN : o < NC := kd_lt (by rw [ho]; omega)
  subst hn
  obtain ⟨hi, h⟩ := sa_some h
  refine va_last hx hb hK.1 hP (wd_D hK.2.1 σ _) hS o 2 ((wd_at g σ hoN).trans (by rw [ce_j ho])) rfl hi d (fun H1 locs1 hP1 hD1 hS1 => ?_)
  refine kk _ h H1 locs1 ls ?_ hS1 hl
  unfold s2
  rw [← wd_set g σ hoN, ce_j ho]
  rw [show vp_updL (fun j => (σ o j).toInt64) i.toNatClampNeg (Int32.toInt64 v) = fun j => (upd (σ o) i.toNatClampNeg v j).toInt64 from by
    funext q
    unfold vp_updL upd
    by_cases hq : q = i.toNatClampNeg
    · rw [if_pos hq, if_pos hq]
    · rw [if_neg hq, if_neg hq]] at hP1
  exact hP1
theorem ww_lald {k : Cfg} {cc : ByteArray} {own : String} (C : Cx k cc own) {pc : Nat} {lv : List (Nat × Value)} {st : List Value} {σ : St} {n o : Nat} {i : Int32} {α : Type} {F : Int32 → Option α} {r : α} (ho : kd o = 901) (hn : al o = n) (d : decode cc pc = .ok (.laload, 1)) (h : ld σ o n i F = some r) (kk : ∀ x, F x = some r → WW k (pc + 1) lv (.long (Int32.toInt64 x) :: st) σ) : WW k pc lv (.int i :: .ref (ad k o) :: st) σ := by
  obtain ⟨p, l, e, R, s, m, args, below, meth, c, g, nL, Q, c0, s0⟩ := k
  obtain ⟨⟨hx, hb, hml, hown, hts⟩, hK, hlk, hcs⟩ := C
  intro H locs ls hP hS hl
  have hoN : o < NC := kd_lt (by rw [ho]; omega)
  subst hn
  obtain ⟨hi, h⟩ := ld_some h
  exact va_lald hx hb hK.1 hP o 2 ((wd_at g σ hoN).trans (by rw [ce_j ho])) rfl hi d (kk _ h H locs ls hP hS hl)
/-- what a helper answers: j1, j2 the kinds of exception that its catches take -/
def lh (j1 j2 : Nat) (x : Option ((Nat × Int32) × St)) (o : Nat) : Option (Int32 × St) := match x with
  | none => none
  | some q => if q.1.1 = 0 then sa q.2 o 1 0 q.1.2 (fun σ => some (0, σ)) else if q.1.1 = j1 then some (1, q.2) else if q.1.1 = j2 then some (2, q.2) else none
/-- how a catch is found: kind j comes to the handler at pc h -/
def Hd (k : Cfg) (pc j h : Nat) : Prop := match k with
  | (_, _, _, _, s, m, args, _, _, c, _, _, _, _, _) => (∃ (x : ExceptionTableEntry) (rest : List ExceptionTableEntry), c.exceptionTable.toList = x :: rest ∧ covers x pc = true ∧ x.catchType ≠ 0 ∧ x.handlerPc = h ∧ (Cond.classLink "BundleHouseLaw" x.catchType (exN j)).before args s = true) ∨
    (j = 3 ∧ ∃ (x y : ExceptionTableEntry) (rest : List ExceptionTableEntry), c.exceptionTable.toList = x :: y :: rest ∧ covers x pc = true ∧ x.catchType ≠ 0 ∧ covers y pc = true ∧ y.catchType ≠ 0 ∧ y.handlerPc = h ∧ (Cond.classLink "BundleHouseLaw" x.catchType (exN 2)).before args s = true ∧ (Cond.classLink "BundleHouseLaw" y.catchType (exN 3)).before args s = true)
set_option maxHeartbeats 2000000 in
theorem ww_tcall {k : Cfg} {cc : ByteArray} (C : Cx k cc "BundleHouseLaw") {pc : Nat} {lv : List (Nat × Value)} {st : List Value} {σ : St} {y : MethodName} {rm rm' : Room} {bytes : ByteArray} {maxL n index : Nat} {av : (Nat → Nat) → List Value} {f : St → Option ((Nat × Int32) × St)} {st0 As : List Value} {o K Co : Nat} {T : u_T} {res : (Nat × Int32) × St}
    (M : MT y rm' bytes maxL av f) (hl0 : k.2.1.stackTraces = false) (cw : CWV y bytes maxL (some .int) n) (ho : kd o = K) (hlt : K < 900) (hcl : classes[K]? = some (y.cls, T, Co)) (hlink : Cond.methodLink "BundleHouseLaw" index y ∈ GT) (hRm : k.2.2.2.1 = rm) (hrm : (rm'.cells = 1 ∧ rm'.slots = 6) ∧ rm'.frames + 1 ≤ rm.frames ∧ 8 + (maxL + 11) + rm'.locals ≤ rm.locals)
    (hroom : k.2.2.2.2.2.2.2.2.2.2.2.2.2.1 + 1 ≤ rm.cells ∧ k.2.2.2.2.2.2.2.2.2.2.2.2.2.2 + 6 ≤ rm.slots) (hav : av (ad k) = .ref (ad k o) :: As) (hn : As.length = n) (hst : st0 = As.reverse ++ .ref (ad k o) :: st) (h8 : (st.map fun v => v.category).sum ≤ 8) (d : decode cc pc = .ok (.invokevirtual index, 3)) (h : f σ = some res)
    (k0 : ∀ v σ1, res = ((0, v), σ1) → WW (kup k 1 6) (pc + 3) lv (.int v :: st) σ1) (k1 : ∀ j v σ1 x, res = ((j, v), σ1) → ¬ j = 0 → ∃ hp, Hd k pc j hp ∧ (j = 1 ∨ j = 2 ∨ j = 3) ∧ WW (kup k 1 6) hp lv [.ref x] σ1) : WW k pc lv st0 σ := by
  obtain ⟨p, l, e, R, s, m, args, below, meth, c, g, nL, Q, c0, s0⟩ := k
  obtain ⟨⟨hx, hb, hml, hown, hts⟩, hK, hlk, hcs⟩ := C
  intro H locs ls hP hS hl
  have hRm : R = rm := hRm
  subst hRm
  subst hst
  have hpc := wo_pre hK hP hS
  have hoN : o < NC := kd_lt (by rw [ho]; omega)
  obtain ⟨⟨w1, w2, w3⟩, w4, w5⟩ := cw
  have hav : av g.2.2.2.2 = .ref (g.2.2.2.2 o) :: As := hav
  have hM := M l hl0 g H.size σ res h
  rw [hav] at hM
  intro T1 hT X
  obtain ⟨cellB, hcB, hoB, hclB⟩ := va_recv hK.1 hP hcl ((wd_at g σ hoN).trans (by rw [ce_o ho hlt]))
  obtain ⟨mk, methM, hnamed, hmethM, hstM, habM⟩ := Cond.instanceMethod_spec (hts _ w4)
  obtain ⟨methM', cM, hmethM', hcM, -, hlM, -, -, -, hsigM⟩ := Cond.code_spec hnamed (hts _ w1)
  cases hmethM.symm.trans hmethM'
  obtain ⟨c2, r2, m2, q1, q2, q3, q4, kP, hkP, hkPi⟩ := Cond.selects_spec (hts _ w5)
  cases hclB.symm.trans q1
  cases (State.methodFound?_of_named hnamed ⟨w3.1, w3.2.1⟩).symm.trans q2
  cases hnamed.symm.trans q3
  have hselP : selectMethod e.platform s.vm cellB.cls mk = .method mk := by rw [Launch.admits_selectMethod X.admits]; exact q4
  have hlen : ∀ sig, parseMethodDescriptor y.desc = some sig → As.length = sig.parameters.length := fun sig hs => by
    have h2 := w3.2.2
    rw [hs] at h2
    exact hn.trans (Option.some.inj h2).symm
  obtain ⟨vm₁, X₁, hstep₁⟩ := X.invokevirtual hx hown (hts _ hlink) hnamed hmethM hstM hkP hkPi ⟨w3.1, w3.2.1⟩ (a := g.2.2.2.2 o) (cell := cellB) (by rw [hT]; exact hcB)
    (fun z hz => by rw [hz] at hoB; cases hoB) hselP hmethM habM hkP hkPi (g := F0 m pc ls (As.reverse ++ .ref (g.2.2.2.2 o) :: st)) rfl (argsL := As) (rest := st) (hlen _ hsigM) rfl (by rw [hb]; exact d)
  have hinitP : kP.init = .initialized := Cond.initialized_spec (findClass_of_methodNamed hnamed) hkP (hts _ w2)
  obtain ⟨kP₁, hkP₁, heP₁⟩ := X₁.warmed.alike.2.2 _ _ hkP
  have hgood := good1 w1
  obtain ⟨oc, t, hst1, hend, hq⟩ := cf_call X₁ hM (g := F0 m pc ls st) rfl (hl.1.trans hml.symm) (by rw [hb]; exact d) (X₁.named hnamed) (show (T1.setVm vm₁).vm.method? mk = some methM by rw [X₁.warmed.alike.method?]; exact hmethM) hcM hkP₁ (by rw [heP₁]; exact hinitP) hrm.2.1
    (by
      have h9 := hrm.2.2
      show 2 * (F0 m pc ls st).monitorRoom + (st.map fun v => v.category).sum + (cM.maxLocals + 11) + rm'.locals ≤ R.locals
      have h10 := lv_room (m := m) (pc := pc) (ls := ls) (rest := st) h8
      rw [hlM]; omega)
    (by show c0 + rm'.cells ≤ R.cells; rw [hrm.1.1]; exact hroom.1) (by show s0 + rm'.slots ≤ R.slots; rw [hrm.1.2]; exact hroom.2)
    (a := (Value.ref (g.2.2.2.2 o) :: As).toArray) (atoms_intro fun w hw => pay_in hts hgood w hw _ _ X₁.warmed)
    ⟨rfl, by
      have h11 := hpc (T1.setVm vm₁) hT X₁.warmed
      exact ⟨h11.1, wo_calling _ _ _ h11.2⟩⟩
  obtain ⟨⟨⟨hWo, hF⟩, hkind⟩, L, ⟨hW1, hsame⟩, hL⟩ := hq
  have hS1 : ∀ (T2 : State), T2.heap = t.heap → va_S (AA g s.heap.size) s.heap T2.heap (locs ++ L) := fun T2 e2 => by
    have hz : (T1.setVm vm₁).heap = H := hT
    refine ⟨Nat.le_trans hS.1 (by rw [e2]; have := hF.1; rw [show ((T1.setVm vm₁).calling (F0 m pc ls st) mk (Value.ref (g.2.2.2.2 o) :: As).toArray).heap = H from hT] at this; exact this), fun q h1 h2 => ?_, fun x hx2 => ?_⟩
    · rw [e2, hF.2 q (by show q < (T1.setVm vm₁).heap.size; rw [hz]; exact Nat.lt_of_lt_of_le h1 hS.1) (fun hA => h2 (aa_sub hS.1 q hA))]
      rw [show ((T1.setVm vm₁).calling (F0 m pc ls st) mk (Value.ref (g.2.2.2.2 o) :: As).toArray).heap = H from hT]
      exact hS.2.1 q h1 h2
    · rcases List.mem_append.mp hx2 with h3 | h3
      · exact hS.2.2 x h3
      · exact aa_sub hS.1 _ (hL x h3)
  by_cases hj : res.1.1 = 0
  · rw [if_pos hj] at hkind
    subst hkind
    obtain ⟨T', X', hW', hsm, hteq⟩ := X₁.outOf (g := F0 m pc ls st) rfl (by rw [hb]; exact d) hend hW1 hsame
    have hh : T'.heap = t.heap := by rw [hteq]; rfl
    have w := k0 res.1.2 res.2 (by rw [← hj]) T'.heap (locs ++ L) ls (by rw [hh]; exact hWo.1) (hS1 T' hh) hl T' rfl X'
    obtain ⟨t', a1, b1⟩ := w
    refine ⟨t', hstep₁ _ (fun acts => ?_), b1⟩
    rw [doInvoke_state]
    refine hst1.trans ?_
    rw [hteq]
    exact a1
  · rw [if_neg hj] at hkind
    obtain ⟨x, ce, hoc, hce, hcev, hcec⟩ := hkind
    subst hoc
    obtain ⟨T', X', hW', hsm, hteq⟩ := X₁.outOfThrown (g := F0 m pc ls st) rfl hend hW1 hsame
    have hh : T'.heap = t.heap := by
      rw [hteq]
      exact (throwing_heap T' (F0 m pc ls st) x).symm
    have hv : T'.vm = t.vm := by
      rw [hteq]
      exact (throwing_vm T' (F0 m pc ls st) x).symm
    obtain ⟨hp, hHd, hjj, w⟩ := k1 res.1.1 res.1.2 res.2 x rfl hj
    obtain ⟨cN, cS, cA, f1, f2, f3, f4, f5, f6, f7⟩ := hK.2.2.2.2.2.2.1
    have hfc : s.vm.findClass (exN res.1.1) = some ce.cls := by
      have h12 := hcec
      rw [← hv, X'.warmed.alike.findClass] at h12
      exact h12
    have hself : s.vm.assignable ce.cls ce.cls = true := by
      rcases hjj with e1 | e1 | e1 <;> rw [e1] at hfc
      · cases f1.symm.trans hfc; exact f4
      · cases f2.symm.trans hfc; exact f5
      · cases f3.symm.trans hfc; exact f6
    have fin : ∀ vm', Stand p l e R s m args below meth c (T'.setVm vm') (locs ++ L) (c0 + 1) (s0 + 6) → (∀ target, Steps p.tables e below ((T'.setVm vm').setTop { (F0 m pc ls st) with pc := hp, stack := [.ref x] }) target → Steps p.tables e below ((T'.setTop (F0 m pc ls st)).pushFrame (.throwing x)) target) → ∃ t', Steps p.tables e below (T1.setTop (F0 m pc ls (As.reverse ++ .ref (g.2.2.2.2 o) :: st))) t' ∧ Q t' := by
      intro vm' X2 st2
      obtain ⟨t', a1, b1⟩ := w T'.heap (locs ++ L) ls (by rw [hh]; exact hWo.1) (hS1 T' hh) hl (T'.setVm vm') rfl X2
      refine ⟨t', hstep₁ _ (fun acts => ?_), b1⟩
      rw [doInvoke_state]
      refine hst1.trans ?_
      rw [hteq]
      exact st2 t' a1
    rcases hHd with ⟨xx, rest, g1, g2, g3, g4, g5⟩ | ⟨ej, xx, yy, rest, g1, g2, g3, g4, g5, g6, g7, g8⟩
    · obtain ⟨vm', X2, st2⟩ := ct_caught1 X' x (g := F0 m pc ls st) rfl hown g1 g2 g3 g5 hfc (by rw [hh]; exact hce) hcev (nx := exN res.1.1) (by rw [hv]; exact hcec) hself
      rw [g4] at st2
      exact fin vm' X2 st2
    · rw [ej] at hfc hcec
      cases f3.symm.trans hfc
      obtain ⟨vm', X2, st2⟩ := ct_caught2 X' x (g := F0 m pc ls st) rfl hown g1 g2 g3 g4 g5 g7 g8 f2 f3 (by rw [hh]; exact hce) hcev (nx := exN 3) (by rw [hv]; exact hcec) f7 f6
      rw [g6] at st2
      exact fin vm' X2 st2
