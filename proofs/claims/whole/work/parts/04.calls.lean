/-! ===== ends, contracts, calls ===== -/
def QI (g : Gd) (sz : Nat) (res : Int32 × St) : Array Value → State → Outcome → State → Prop := va_Qi (fun r u => (r, u) = res) (fun u t => Wo g u t) (AA g sz)
def QV (g : Gd) (sz : Nat) (res : St) : Array Value → State → Outcome → State → Prop := va_Qv (fun u => u = res) (fun u t => Wo g u t) (AA g sz)
def RI : Cfg → FieldType → Int32 × St → Prop
  | (_, _, _, _, s, _, args, below, meth, _, g, _, Q, c0, s0), ty, res => meth.sig.returnType = some ty ∧ Q = MQ below (QI g s.heap.size res) args s c0 s0 (AA g s.heap.size)
def RV : Cfg → St → Prop
  | (_, _, _, _, s, _, args, below, meth, _, g, _, Q, c0, s0), res => meth.sig.returnType = none ∧ Q = MQ below (QV g s.heap.size res) args s c0 s0 (AA g s.heap.size)
theorem ww_iret {k : Cfg} {cc : ByteArray} {own : String} (C : Cx k cc own) {pc : Nat} {lv : List (Nat × Value)} {σ : St} {res : Int32 × St} (hR : RI k .int res) {v : Int32} (d : decode cc pc = .ok (.ireturn, 1)) (h : some (v, σ) = some res) : WW k pc lv [.int v] σ := by
  obtain ⟨p, l, e, R, s, m, args, below, meth, c, g, nL, Q, c0, s0⟩ := k
  obtain ⟨⟨hx, hb, hml, hown, hts⟩, hK, hlk, hcs⟩ := C
  obtain ⟨hr, rfl⟩ := hR
  intro H locs ls hP hS hl
  have hr2 : (v, σ) = res := Option.some.inj h
  exact W.iret hx hb hr (fun t ht hW => ⟨⟨v, σ, rfl, hr2, by rw [ht]; exact hP, by rw [ht]; exact Kx.moved hW (va_S.K hK hS)⟩, hS.F ht⟩) hS.2.2 d
theorem ww_zret {k : Cfg} {cc : ByteArray} {own : String} (C : Cx k cc own) {pc : Nat} {lv : List (Nat × Value)} {σ : St} {res : Int32 × St} (hR : RI k .boolean res) {v : Int32} (d : decode cc pc = .ok (.ireturn, 1)) (h : zb v (some (v, σ)) = some res) : WW k pc lv [.int v] σ := by
  obtain ⟨p, l, e, R, s, m, args, below, meth, c, g, nL, Q, c0, s0⟩ := k
  obtain ⟨⟨hx, hb, hml, hown, hts⟩, hK, hlk, hcs⟩ := C
  obtain ⟨hr, rfl⟩ := hR
  intro H locs ls hP hS hl
  obtain ⟨hz, h⟩ := zb_some h
  have hr2 : (v, σ) = res := Option.some.inj h
  exact W.zret hx hb hr (by rcases hz with e | e <;> rw [e] <;> rfl) (fun t ht hW => ⟨⟨v, σ, rfl, hr2, by rw [ht]; exact hP, by rw [ht]; exact Kx.moved hW (va_S.K hK hS)⟩, hS.F ht⟩) hS.2.2 d
theorem ww_zretL {k : Cfg} {cc : ByteArray} {own : String} (C : Cx k cc own) {pc : Nat} {lv : List (Nat × Value)} {σ : St} {res : Int32 × St} (hR : RI k .boolean res) {v : Int32} (d : decode cc pc = .ok (.ireturn, 1)) (hz : v = 0 ∨ v = 1) (h : some (v, σ) = some res) : WW k pc lv [.int v] σ := ww_zret C hR d (by unfold zb; rw [if_pos hz]; exact h)
theorem ww_vret {k : Cfg} {cc : ByteArray} {own : String} (C : Cx k cc own) {pc : Nat} {lv : List (Nat × Value)} {σ : St} {res : St} (hR : RV k res) (d : decode cc pc = .ok (.return_, 1)) (h : some σ = some res) : WW k pc lv [] σ := by
  obtain ⟨p, l, e, R, s, m, args, below, meth, c, g, nL, Q, c0, s0⟩ := k
  obtain ⟨⟨hx, hb, hml, hown, hts⟩, hK, hlk, hcs⟩ := C
  obtain ⟨hr, rfl⟩ := hR
  intro H locs ls hP hS hl
  have hr2 : σ = res := Option.some.inj h
  exact W.vret hx hb hr (fun t ht hW => ⟨⟨σ, rfl, hr2, by rw [ht]; exact hP, by rw [ht]; exact Kx.moved hW (va_S.K hK hS)⟩, hS.F ht⟩) hS.2.2 d
/-- a method's contract: the bytecode does what the function says -/
def MI (y : MethodName) (rm : Room) (cc : ByteArray) (nL : Nat) (ty : FieldType) (av : (Nat → Nat) → List Value) (f : St → Option (Int32 × St)) : Prop :=
  ∀ (l : Launch) (g : Gd) (sz : Nat) (σ : St) (res : Int32 × St), f σ = some res → Met l y (Cond.code y cc nL (some ty) :: GT) rm (va_Pc (av g.2.2.2.2) (fun U => U.heap.size = sz ∧ Wo g σ U)) (QI g sz res) 0 0 (AA g sz)
def MV (y : MethodName) (rm : Room) (cc : ByteArray) (nL : Nat) (av : (Nat → Nat) → List Value) (f : St → Option St) : Prop :=
  ∀ (l : Launch) (g : Gd) (sz : Nat) (σ : St) (res : St), f σ = some res → Met l y (Cond.code y cc nL none :: GT) rm (va_Pc (av g.2.2.2.2) (fun U => U.heap.size = sz ∧ Wo g σ U)) (QV g sz res) 0 0 (AA g sz)
theorem mi_of {y : MethodName} {rm : Room} {cc : ByteArray} {nL : Nat} {ty : FieldType} {av : (Nat → Nat) → List Value} {f : St → Option (Int32 × St)} (hy : plainName y.cls = true) (hlen : ∀ a, (lg_sl (av a)).length ≤ nL)
    (body : ∀ (k : Cfg) (res : Int32 × St) (σ : St), Cx k cc y.cls → RI k ty res → k.2.2.2.1 = rm → k.2.2.2.2.2.2.2.2.2.2.2.1 = nL → f σ = some res → WW k 0 (lv_args 0 (av (ad k))) [] σ) : MI y rm cc nL ty av f := by
  intro l g sz σ res hf
  refine Met.ofW (cc := cc) (maxL := nL) (ret := some ty) hy rfl ?_
  intro p e s m args below meth c s₁ B hml hv
  obtain ⟨rfl, hsz, hP, hK⟩ := hv
  subst hsz
  have hl := lv_entry (av g.2.2.2.2) (hlen g.2.2.2.2)
  rw [lg_entry_eq]
  have hts : ∀ w ∈ GT, w.before (av g.2.2.2.2).toArray s = true := fun w hw => atoms_spec (ws := Cond.code y cc nL (some ty) :: GT) B.pre w (List.mem_cons_of_mem _ hw)
  exact body (p, l, e, (headSpec (Cond.code y cc nL (some ty) :: GT) rm).room, s, m, (av g.2.2.2.2).toArray, below, meth, c, g, nL, MQ below (QI g s.heap.size res) (av g.2.2.2.2).toArray s 0 0 (AA g s.heap.size), 0, 0) res σ
    ⟨⟨B.exec, B.bytes, hml, findClass_of_methodNamed B.named, hts⟩, hK, B.notSynchronized, Nat.zero_le _, Nat.zero_le _⟩ ⟨B.returns, rfl⟩ rfl rfl hf s.heap [] _ hP va_S.rf hl
theorem mv_of {y : MethodName} {rm : Room} {cc : ByteArray} {nL : Nat} {av : (Nat → Nat) → List Value} {f : St → Option St} (hy : plainName y.cls = true) (hlen : ∀ a, (lg_sl (av a)).length ≤ nL)
    (body : ∀ (k : Cfg) (res : St) (σ : St), Cx k cc y.cls → RV k res → k.2.2.2.1 = rm → k.2.2.2.2.2.2.2.2.2.2.2.1 = nL → f σ = some res → WW k 0 (lv_args 0 (av (ad k))) [] σ) : MV y rm cc nL av f := by
  intro l g sz σ res hf
  refine Met.ofW (cc := cc) (maxL := nL) (ret := none) hy rfl ?_
  intro p e s m args below meth c s₁ B hml hv
  obtain ⟨rfl, hsz, hP, hK⟩ := hv
  subst hsz
  have hl := lv_entry (av g.2.2.2.2) (hlen g.2.2.2.2)
  rw [lg_entry_eq]
  have hts : ∀ w ∈ GT, w.before (av g.2.2.2.2).toArray s = true := fun w hw => atoms_spec (ws := Cond.code y cc nL none :: GT) B.pre w (List.mem_cons_of_mem _ hw)
  exact body (p, l, e, (headSpec (Cond.code y cc nL none :: GT) rm).room, s, m, (av g.2.2.2.2).toArray, below, meth, c, g, nL, MQ below (QV g s.heap.size res) (av g.2.2.2.2).toArray s 0 0 (AA g s.heap.size), 0, 0) res σ
    ⟨⟨B.exec, B.bytes, hml, findClass_of_methodNamed B.named, hts⟩, hK, B.notSynchronized, Nat.zero_le _, Nat.zero_le _⟩ ⟨B.returns, rfl⟩ rfl rfl hf s.heap [] _ hP va_S.rf hl
theorem wo_calling {g : Gd} {σ : St} {U : State} (fr : JFrame) (mk : MethodId) (a : Array Value) (h : Wo g σ U) : Wo g σ (U.calling fr mk a) := by
  obtain ⟨h1, h2, h3, h4, h5, h6⟩ := h
  refine ⟨h1, va_K.moved (u := U) (U := U.calling fr mk a) (Vm.Alike.refl U.vm) h2, h3, fun w hw => ?_, FO.moved (u := U) (U := U.calling fr mk a) (Vm.Alike.refl U.vm) h5, Ex.same (u := U) (U := U.calling fr mk a) rfl h6⟩
  obtain ⟨a1, i, x, b, e⟩ := NW_all w hw
  have h6 := h4 w hw
  rw [e] at h6 ⊢
  exact va_Nw.same rfl (u := U) (U := U.calling fr mk a) rfl h6
theorem aa_sub {g : Gd} {s1 s2 : Nat} (h : s1 ≤ s2) : ∀ q, AA g s2 q → AA g s1 q := fun q hq => by
  rcases hq with hq | hq
  · exact Or.inl hq
  · exact Or.inr (Nat.le_trans h hq)
abbrev CW (y : MethodName) (bytes : ByteArray) (maxL : Nat) (ret : Option FieldType) (n : Nat) : Prop :=
  Cond.code y bytes maxL ret ∈ GT ∧ Cond.initialized y.cls ∈ GT ∧ (y.cls ≠ "java/lang/invoke/MethodHandle" ∧ y.cls ≠ "java/lang/invoke/VarHandle" ∧ (parseMethodDescriptor y.desc).map (fun d => d.parameters.length) = some n)
abbrev CWV (y : MethodName) (bytes : ByteArray) (maxL : Nat) (ret : Option FieldType) (n : Nat) : Prop := CW y bytes maxL ret n ∧ Cond.instanceMethod y ∈ GT ∧ Cond.selects y.cls y y ∈ GT
abbrev CWS (y : MethodName) (bytes : ByteArray) (maxL : Nat) (ret : Option FieldType) (n : Nat) : Prop := CW y bytes maxL ret n ∧ Cond.static y ∈ GT
theorem wo_pre {g : Gd} {σ : St} {s : State} {H : Heap} {locs : List Loc} (hK : Kx g s s.heap) (hP : va_P g.1 classes (wd g σ) H) (hS : va_S (AA g s.heap.size) s.heap H locs) : ∀ U : State, U.heap = H → s.WarmedH U.vm → U.heap.size = H.size ∧ Wo g σ U := fun U hU hW => by
  refine ⟨by rw [hU], by rw [hU]; exact hP, ?_⟩
  rw [hU]
  exact Kx.moved hW (va_S.K hK hS)
theorem good1 {y : MethodName} {cc : ByteArray} {n : Nat} {r : Option FieldType} (h : Cond.code y cc n r ∈ GT) : GoodIn GT (Cond.code y cc n r :: GT) := fun w hw => by
  rcases List.mem_cons.mp hw with e | e
  · subst e
    exact ⟨h, (gt_good _ h).2⟩
  · exact gt_good _ e
theorem ww_cVi {k : Cfg} {cc : ByteArray} {own : String} (C : Cx k cc own) {pc : Nat} {lv : List (Nat × Value)} {st : List Value} {σ : St} {y : MethodName} {rm rm' : Room} {bytes : ByteArray} {maxL n index : Nat} {ty : FieldType} {av : (Nat → Nat) → List Value} {f : St → Option (Int32 × St)} {st0 As : List Value} {α : Type} {F : Int32 → St → Option α} {r : α} {o K Co : Nat} {T : u_T} (M : MI y rm' bytes maxL ty av f) (cw : CWV y bytes maxL (some ty) n) (ho : kd o = K) (hlt : K < 900) (hcl : classes[K]? = some (y.cls, T, Co)) (hlink : Cond.methodLink own index y ∈ GT) (hRm : k.2.2.2.1 = rm) (hrm : (rm'.cells = 0 ∧ rm'.slots = 0) ∧ rm'.frames + 1 ≤ rm.frames ∧ 8 + (maxL + 11) + rm'.locals ≤ rm.locals) (hav : av (ad k) = .ref (ad k o) :: As) (hn : As.length = n) (hst : st0 = As.reverse ++ .ref (ad k o) :: st) (h8 : (st.map fun v => v.category).sum ≤ 8) (d : decode cc pc = .ok (.invokevirtual index, 3)) (h : cl (f σ) F = some r) (kk : ∀ v σ1, F v σ1 = some r → WW k (pc + 3) lv (.int v :: st) σ1) : WW k pc lv st0 σ := by
  obtain ⟨p, l, e, R, s, m, args, below, meth, c, g, nL, Q, c0, s0⟩ := k
  obtain ⟨⟨hx, hb, hml, hown, hts⟩, hK, hlk, hcs⟩ := C
  intro H locs ls hP hS hl
  obtain ⟨rv, rs, hf, hF⟩ := cl_some h
  have hRm : R = rm := hRm
  subst hRm
  have hpc := wo_pre hK hP hS
  subst hst
  have hoN : o < NC := kd_lt (by rw [ho]; omega)
  obtain ⟨⟨w1, w2, w3⟩, w4, w5⟩ := cw
  have hav : av g.2.2.2.2 = .ref (g.2.2.2.2 o) :: As := hav
  have hM := M l g H.size σ (rv, rs) hf
  rw [hav] at hM
  refine va_calli (va_runV (As := As) (rest := st) ⟨hx, hb, hml, hown, hts⟩ hM ⟨callB_of n hts (good1 w1) rfl hrm.1.1 hrm.1.2 (hts _ w2) (hts _ hlink) w3 hrm.2, hts _ w4, hts _ w5⟩ ⟨fun a U fr mk q => ⟨q.1, q.2.1, wo_calling fr mk a q.2.2⟩, va_recv hK.1 hP hcl ((wd_at g σ hoN).trans (by rw [ce_o ho hlt])), fun U hU hW => ⟨rfl, hpc U hU hW⟩⟩ rfl hn hl.1 rfl (lv_room h8) d ⟨hcs.1, hcs.2⟩) hS (fun q _ hq => aa_sub hS.1 q hq) (fun q hq => aa_sub hS.1 q hq) (fun rr u t H1 locs1 ht hvm hw hB hz1 hk1 hS1 => ?_)
  have e1 := congrArg Prod.fst hw
  have e2 := congrArg Prod.snd hw
  dsimp only at e1 e2
  subst e1
  subst e2
  have hP1 := hB.1
  rw [ht] at hP1
  exact kk _ _ hF H1 locs1 ls hP1 hS1 hl
theorem ww_cVv {k : Cfg} {cc : ByteArray} {own : String} (C : Cx k cc own) {pc : Nat} {lv : List (Nat × Value)} {st : List Value} {σ : St} {y : MethodName} {rm rm' : Room} {bytes : ByteArray} {maxL n index : Nat} {av : (Nat → Nat) → List Value} {f : St → Option (St)} {st0 As : List Value} {α : Type} {F : St → Option α} {r : α} {o K Co : Nat} {T : u_T} (M : MV y rm' bytes maxL av f) (cw : CWV y bytes maxL none n) (ho : kd o = K) (hlt : K < 900) (hcl : classes[K]? = some (y.cls, T, Co)) (hlink : Cond.methodLink own index y ∈ GT) (hRm : k.2.2.2.1 = rm) (hrm : (rm'.cells = 0 ∧ rm'.slots = 0) ∧ rm'.frames + 1 ≤ rm.frames ∧ 8 + (maxL + 11) + rm'.locals ≤ rm.locals) (hav : av (ad k) = .ref (ad k o) :: As) (hn : As.length = n) (hst : st0 = As.reverse ++ .ref (ad k o) :: st) (h8 : (st.map fun v => v.category).sum ≤ 8) (d : decode cc pc = .ok (.invokevirtual index, 3)) (h : cv (f σ) F = some r) (kk : ∀ σ1, F σ1 = some r → WW k (pc + 3) lv st σ1) : WW k pc lv st0 σ := by
  obtain ⟨p, l, e, R, s, m, args, below, meth, c, g, nL, Q, c0, s0⟩ := k
  obtain ⟨⟨hx, hb, hml, hown, hts⟩, hK, hlk, hcs⟩ := C
  intro H locs ls hP hS hl
  obtain ⟨rs, hf, hF⟩ := cv_some h
  have hRm : R = rm := hRm
  subst hRm
  have hpc := wo_pre hK hP hS
  subst hst
  have hoN : o < NC := kd_lt (by rw [ho]; omega)
  obtain ⟨⟨w1, w2, w3⟩, w4, w5⟩ := cw
  have hav : av g.2.2.2.2 = .ref (g.2.2.2.2 o) :: As := hav
  have hM := M l g H.size σ rs hf
  rw [hav] at hM
  refine va_callv (va_runV (As := As) (rest := st) ⟨hx, hb, hml, hown, hts⟩ hM ⟨callB_of n hts (good1 w1) rfl hrm.1.1 hrm.1.2 (hts _ w2) (hts _ hlink) w3 hrm.2, hts _ w4, hts _ w5⟩ ⟨fun a U fr mk q => ⟨q.1, q.2.1, wo_calling fr mk a q.2.2⟩, va_recv hK.1 hP hcl ((wd_at g σ hoN).trans (by rw [ce_o ho hlt])), fun U hU hW => ⟨rfl, hpc U hU hW⟩⟩ rfl hn hl.1 rfl (lv_room h8) d ⟨hcs.1, hcs.2⟩) hS (fun q _ hq => aa_sub hS.1 q hq) (fun q hq => aa_sub hS.1 q hq) (fun u t H1 locs1 ht hvm hw hB hz1 hk1 hS1 => ?_)
  subst hw
  have hP1 := hB.1
  rw [ht] at hP1
  exact kk _ hF H1 locs1 ls hP1 hS1 hl
theorem ww_cSi {k : Cfg} {cc : ByteArray} {own : String} (C : Cx k cc own) {pc : Nat} {lv : List (Nat × Value)} {st : List Value} {σ : St} {y : MethodName} {rm rm' : Room} {bytes : ByteArray} {maxL n index : Nat} {ty : FieldType} {av : (Nat → Nat) → List Value} {f : St → Option (Int32 × St)} {st0 As : List Value} {α : Type} {F : Int32 → St → Option α} {r : α} (M : MI y rm' bytes maxL ty av f) (cw : CWS y bytes maxL (some ty) n) (hlink : Cond.methodLink own index y ∈ GT) (hRm : k.2.2.2.1 = rm) (hrm : (rm'.cells = 0 ∧ rm'.slots = 0) ∧ rm'.frames + 1 ≤ rm.frames ∧ 8 + (maxL + 11) + rm'.locals ≤ rm.locals) (hav : av (ad k) = As) (hn : As.length = n) (hst : st0 = As.reverse ++ st) (h8 : (st.map fun v => v.category).sum ≤ 8) (d : decode cc pc = .ok (.invokestatic index, 3)) (h : cl (f σ) F = some r) (kk : ∀ v σ1, F v σ1 = some r → WW k (pc + 3) lv (.int v :: st) σ1) : WW k pc lv st0 σ := by
  obtain ⟨p, l, e, R, s, m, args, below, meth, c, g, nL, Q, c0, s0⟩ := k
  obtain ⟨⟨hx, hb, hml, hown, hts⟩, hK, hlk, hcs⟩ := C
  intro H locs ls hP hS hl
  obtain ⟨rv, rs, hf, hF⟩ := cl_some h
  have hRm : R = rm := hRm
  subst hRm
  have hpc := wo_pre hK hP hS
  subst hst
  obtain ⟨⟨w1, w2, w3⟩, w4⟩ := cw
  have hav : av g.2.2.2.2 = As := hav
  have hM := M l g H.size σ (rv, rs) hf
  rw [hav] at hM
  refine va_calli (va_runS (As := As) (rest := st) ⟨hx, hb, hml, hown, hts⟩ hM ⟨callB_of n hts (good1 w1) rfl hrm.1.1 hrm.1.2 (hts _ w2) (hts _ hlink) w3 hrm.2, hts _ w4⟩ ⟨fun a U fr mk q => ⟨q.1, q.2.1, wo_calling fr mk a q.2.2⟩, fun U hU hW => ⟨rfl, hpc U hU hW⟩⟩ rfl hn hl.1 rfl (lv_room h8) d ⟨hcs.1, hcs.2⟩) hS (fun q _ hq => aa_sub hS.1 q hq) (fun q hq => aa_sub hS.1 q hq) (fun rr u t H1 locs1 ht hvm hw hB hz1 hk1 hS1 => ?_)
  have e1 := congrArg Prod.fst hw
  have e2 := congrArg Prod.snd hw
  dsimp only at e1 e2
  subst e1
  subst e2
  have hP1 := hB.1
  rw [ht] at hP1
  exact kk _ _ hF H1 locs1 ls hP1 hS1 hl
theorem ww_cSv {k : Cfg} {cc : ByteArray} {own : String} (C : Cx k cc own) {pc : Nat} {lv : List (Nat × Value)} {st : List Value} {σ : St} {y : MethodName} {rm rm' : Room} {bytes : ByteArray} {maxL n index : Nat} {av : (Nat → Nat) → List Value} {f : St → Option (St)} {st0 As : List Value} {α : Type} {F : St → Option α} {r : α} (M : MV y rm' bytes maxL av f) (cw : CWS y bytes maxL none n) (hlink : Cond.methodLink own index y ∈ GT) (hRm : k.2.2.2.1 = rm) (hrm : (rm'.cells = 0 ∧ rm'.slots = 0) ∧ rm'.frames + 1 ≤ rm.frames ∧ 8 + (maxL + 11) + rm'.locals ≤ rm.locals) (hav : av (ad k) = As) (hn : As.length = n) (hst : st0 = As.reverse ++ st) (h8 : (st.map fun v => v.category).sum ≤ 8) (d : decode cc pc = .ok (.invokestatic index, 3)) (h : cv (f σ) F = some r) (kk : ∀ σ1, F σ1 = some r → WW k (pc + 3) lv st σ1) : WW k pc lv st0 σ := by
  obtain ⟨p, l, e, R, s, m, args, below, meth, c, g, nL, Q, c0, s0⟩ := k
  obtain ⟨⟨hx, hb, hml, hown, hts⟩, hK, hlk, hcs⟩ := C
  intro H locs ls hP hS hl
  obtain ⟨rs, hf, hF⟩ := cv_some h
  have hRm : R = rm := hRm
  subst hRm
  have hpc := wo_pre hK hP hS
  subst hst
  obtain ⟨⟨w1, w2, w3⟩, w4⟩ := cw
  have hav : av g.2.2.2.2 = As := hav
  have hM := M l g H.size σ rs hf
  rw [hav] at hM
  refine va_callv (va_runS (As := As) (rest := st) ⟨hx, hb, hml, hown, hts⟩ hM ⟨callB_of n hts (good1 w1) rfl hrm.1.1 hrm.1.2 (hts _ w2) (hts _ hlink) w3 hrm.2, hts _ w4⟩ ⟨fun a U fr mk q => ⟨q.1, q.2.1, wo_calling fr mk a q.2.2⟩, fun U hU hW => ⟨rfl, hpc U hU hW⟩⟩ rfl hn hl.1 rfl (lv_room h8) d ⟨hcs.1, hcs.2⟩) hS (fun q _ hq => aa_sub hS.1 q hq) (fun q hq => aa_sub hS.1 q hq) (fun u t H1 locs1 ht hvm hw hB hz1 hk1 hS1 => ?_)
  subst hw
  have hP1 := hB.1
  rw [ht] at hP1
  exact kk _ hF H1 locs1 ls hP1 hS1 hl
theorem ww_cNi {k : Cfg} {cc : ByteArray} {own : String} (C : Cx k cc own) {pc : Nat} {lv : List (Nat × Value)} {st : List Value} {σ : St} {y : MethodName} {rm rm' : Room} {bytes : ByteArray} {maxL n index : Nat} {ty : FieldType} {av : (Nat → Nat) → List Value} {f : St → Option (Int32 × St)} {st0 As : List Value} {α : Type} {F : Int32 → St → Option α} {r : α} {host : String} (M : MI y rm' bytes maxL ty av f) (cw : CWS y bytes maxL (some ty) n) (hlink : Cond.methodLinkNest own index y host ∈ NW) (hRm : k.2.2.2.1 = rm) (hrm : (rm'.cells = 0 ∧ rm'.slots = 0) ∧ rm'.frames + 1 ≤ rm.frames ∧ 8 + (maxL + 11) + rm'.locals ≤ rm.locals) (hav : av (ad k) = As) (hn : As.length = n) (hst : st0 = As.reverse ++ st) (h8 : (st.map fun v => v.category).sum ≤ 8) (d : decode cc pc = .ok (.invokestatic index, 3)) (h : cl (f σ) F = some r) (kk : ∀ v σ1, F v σ1 = some r → WW k (pc + 3) lv (.int v :: st) σ1) : WW k pc lv st0 σ := by
  obtain ⟨p, l, e, R, s, m, args, below, meth, c, g, nL, Q, c0, s0⟩ := k
  obtain ⟨⟨hx, hb, hml, hown, hts⟩, hK, hlk, hcs⟩ := C
  intro H locs ls hP hS hl
  obtain ⟨rv, rs, hf, hF⟩ := cl_some h
  have hRm : R = rm := hRm
  subst hRm
  have hpc := wo_pre hK hP hS
  subst hst
  obtain ⟨⟨w1, w2, w3⟩, w4⟩ := cw
  have hav : av g.2.2.2.2 = As := hav
  have hM := M l g H.size σ (rv, rs) hf
  rw [hav] at hM
  refine va_calli (va_runSN (As := As) (rest := st) ⟨hx, hb, hml, hown, hts⟩ hM ⟨va_cnB n hts (good1 w1) rfl hrm.1.1 hrm.1.2 (hK.2.2.1 _ hlink) (hts _ w2) w3 hrm.2, hts _ w4, trivial⟩ ⟨fun a U fr mk q => ⟨q.1, q.2.1, wo_calling fr mk a q.2.2⟩, fun U hU hW => ⟨rfl, hpc U hU hW⟩⟩ rfl hn hl.1 rfl (lv_room h8) d ⟨hcs.1, hcs.2⟩) hS (fun q _ hq => aa_sub hS.1 q hq) (fun q hq => aa_sub hS.1 q hq) (fun rr u t H1 locs1 ht hvm hw hB hz1 hk1 hS1 => ?_)
  have e1 := congrArg Prod.fst hw
  have e2 := congrArg Prod.snd hw
  dsimp only at e1 e2
  subst e1
  subst e2
  have hP1 := hB.1
  rw [ht] at hP1
  exact kk _ _ hF H1 locs1 ls hP1 hS1 hl
theorem ww_cNv {k : Cfg} {cc : ByteArray} {own : String} (C : Cx k cc own) {pc : Nat} {lv : List (Nat × Value)} {st : List Value} {σ : St} {y : MethodName} {rm rm' : Room} {bytes : ByteArray} {maxL n index : Nat} {av : (Nat → Nat) → List Value} {f : St → Option (St)} {st0 As : List Value} {α : Type} {F : St → Option α} {r : α} {host : String} (M : MV y rm' bytes maxL av f) (cw : CWS y bytes maxL none n) (hlink : Cond.methodLinkNest own index y host ∈ NW) (hRm : k.2.2.2.1 = rm) (hrm : (rm'.cells = 0 ∧ rm'.slots = 0) ∧ rm'.frames + 1 ≤ rm.frames ∧ 8 + (maxL + 11) + rm'.locals ≤ rm.locals) (hav : av (ad k) = As) (hn : As.length = n) (hst : st0 = As.reverse ++ st) (h8 : (st.map fun v => v.category).sum ≤ 8) (d : decode cc pc = .ok (.invokestatic index, 3)) (h : cv (f σ) F = some r) (kk : ∀ σ1, F σ1 = some r → WW k (pc + 3) lv st σ1) : WW k pc lv st0 σ := by
  obtain ⟨p, l, e, R, s, m, args, below, meth, c, g, nL, Q, c0, s0⟩ := k
  obtain ⟨⟨hx, hb, hml, hown, hts⟩, hK, hlk, hcs⟩ := C
  intro H locs ls hP hS hl
  obtain ⟨rs, hf, hF⟩ := cv_some h
  have hRm : R = rm := hRm
  subst hRm
  have hpc := wo_pre hK hP hS
  subst hst
  obtain ⟨⟨w1, w2, w3⟩, w4⟩ := cw
  have hav : av g.2.2.2.2 = As := hav
  have hM := M l g H.size σ rs hf
  rw [hav] at hM
  refine va_callv (va_runSN (As := As) (rest := st) ⟨hx, hb, hml, hown, hts⟩ hM ⟨va_cnB n hts (good1 w1) rfl hrm.1.1 hrm.1.2 (hK.2.2.1 _ hlink) (hts _ w2) w3 hrm.2, hts _ w4, trivial⟩ ⟨fun a U fr mk q => ⟨q.1, q.2.1, wo_calling fr mk a q.2.2⟩, fun U hU hW => ⟨rfl, hpc U hU hW⟩⟩ rfl hn hl.1 rfl (lv_room h8) d ⟨hcs.1, hcs.2⟩) hS (fun q _ hq => aa_sub hS.1 q hq) (fun q hq => aa_sub hS.1 q hq) (fun u t H1 locs1 ht hvm hw hB hz1 hk1 hS1 => ?_)
  subst hw
  have hP1 := hB.1
  rw [ht] at hP1
  exact kk _ hF H1 locs1 ls hP1 hS1 hl
