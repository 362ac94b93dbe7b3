/-! ===== an exception of the library is made with a text and thrown: the walk ends with it ===== -/
/-- what the tables must say of the class X of an exception that 'own' makes by its entry ic -/
def thA (own : String) (ic : Nat) (X : String) : List Cond := [.methodLink own ic (Bundle.initS X), .instanceMethod (Bundle.initS X), .instantiable X 6, .selects X Bundle.tFill0 Bundle.tFill0, .selects X Bundle.tFill Bundle.tFill, .lays X Bundle.tN "cause" "Ljava/lang/Throwable;", .lays X Bundle.tN "stackTrace" Bundle.steD, .lays X Bundle.tN "suppressedExceptions" Bundle.listD, .lays X Bundle.tN "detailMessage" "Ljava/lang/String;", .fieldLink Bundle.tN 198 Bundle.tN "backtrace" "Ljava/lang/Object;", .lays Bundle.tN Bundle.tN "backtrace" "Ljava/lang/Object;", .lays X Bundle.tN "backtrace" "Ljava/lang/Object;"]
/-- the chain of constructors from X up to Throwable's -/
def thC (pl : Platform) (s : State) (X : String) (nn : Nat) : Prop := ∀ top, s.methodNamed? (Bundle.initS Bundle.tN) = some top → ∃ (P1 : PassC) (Ps : List PassC), Ps.length = nn ∧ P1.LinksS pl s ∧ (∀ P, P ∈ Ps → P.LinksS pl s) ∧ s.methodNamed? (Bundle.initS X) = some P1.m ∧ P1.sup = firstOf top (Ps.map (·.toPassT)) ∧ PassesOn top (Ps.map (·.toPassT))
set_option maxHeartbeats 2000000 in
theorem th_ctor {p : Program} {l : Launch} {e : Env} {R : Room} {s : State} {m₀ : MethodId} {args : Array Value} {below : List Frame} {meth : Method} {c : Code} {T1 : State} {locs : List Loc} {cells slots : Nat}
    (X : Stand p l e R s m₀ args below meth c T1 locs cells slots) (hexec : p.tables.exec = Jvm.exec) (htr : e.platform.stackTraces = false) {own cls : String} {ic nn maxL : Nat} {bytes : ByteArray}
    (hown : s.vm.findClass own = some m₀.cls) (hcls : Bundle.fit cls = true) (hchain : thC e.platform s cls nn)
    (hT : ∀ a ∈ Bundle.throwableAtoms, a.before args s = true) (hTS : ∀ a ∈ Bundle.throwableSAtoms, a.before args s = true) (h : ∀ a ∈ thA own ic cls, a.before args s = true) (hcode : (Cond.code (Bundle.initS cls) bytes maxL none).before args s = true)
    (hU0 : (Cond.isRef (.static Bundle.tN "UNASSIGNED_STACK" Bundle.steD)).before args s = true) (hS0 : (Cond.isRef (.static Bundle.tN "SUPPRESSED_SENTINEL" Bundle.listD)).before args s = true)
    (hlocs : ∀ x ∈ locs, ∀ cell, s.heap[x.base]? = some cell → cell.vm.isStatics = false)
    {a : Addr} {cX : ClassId} {kX : Class} (hfoundX : s.vm.findClass cls = some cX) (hkX : s.vm.classes[cX]? = some kX) (hcell : T1.heap[a]? = some (freshCell cX kX)) (hnew : s.heap.size ≤ a)
    {msg : Value} (hmsg : msg.isRef = true)
    {g : JFrame} (hg : g.method = m₀) (hsize : g.locals.size = c.maxLocals) (hlocked : g.locked = none) (hentered : g.entered = []) {rest : List Value} (hstack : g.stack = msg :: .ref a :: .ref a :: rest)
    (hd6 : decode c.code g.pc = .ok (.invokespecial ic, 3)) (hd9 : decode c.code (g.pc + 3) = .ok (.athrow, 1)) (hout : ∀ x ∈ c.exceptionTable.toList, covers x (g.pc + 3) = false)
    (hRframes : nn + 3 < R.frames) (hRlocals : 2 * g.monitorRoom + ((Value.ref a :: rest).map fun v => v.category).sum + (13 * (nn + 1) + 42) ≤ R.locals) (hlocks : meth.locks = false) :
    ∃ U : State, Steps p.tables e below (T1.setTop g) U ∧ U.status = .running ∧ Ended U below (.threw a) ∧ s.WarmedH U.vm ∧ s.sameButNew ({ U with vm := s.vm } : State) locs cells slots ∧ (∀ q : Nat, q ≠ a → U.heap[q]? = T1.heap[q]?) ∧
      ∃ ce, U.heap[a]? = some ce ∧ ce.cls = cX ∧ ce.vm = .none := by
  have howns : e.platform.frameOwnsMonitors = true := by rw [X.admits.platform]
  have hfin : e.platform.finalization = false := by rw [X.admits.platform]
  have hpl : e.platform.magicAccessors = ({} : Platform).magicAccessors := by rw [X.admits.platform]
  have a' : ∀ x, x ∈ thA own ic cls → x.holds args s none s [] = true := fun x hx => h x hx
  obtain ⟨T, Z0, L, -, Y⟩ := ThrowableC.of_atoms (args := args) howns hfin hpl hT
  obtain ⟨Z, M, LZ, LM, hnZ⟩ := Init0T.ofS_atoms (args := args) hpl L Y hTS
  obtain ⟨P1, Ps, hlen, L1, hL, hP1m, hlink1, hlink⟩ := hchain _ hnZ
  have hfound : s.vm.findClass cls = some P1.m.cls := findClass_of_methodNamed hP1m
  cases Option.some.inj (hfoundX.symm.trans hfound)
  obtain ⟨c1, kX', hc1, hk, hord, -, -, hn6⟩ := Cond.instantiable_spec (a' (.instantiable cls 6) (by simp [thA]))
  cases Option.some.inj (hc1.symm.trans hfound)
  cases Option.some.inj (hkX.symm.trans hk)
  have sel : ∀ {y : MethodName} {mk : MethodId}, Cond.selects cls y y ∈ thA own ic cls → (y.cls ≠ "java/lang/invoke/MethodHandle" ∧ y.cls ≠ "java/lang/invoke/VarHandle") → s.methodNamed? y = some mk → selectMethod e.platform s.vm P1.m.cls mk = .method mk := by
    intro y mk hy hne hn
    obtain ⟨c2, r2, m2, q1, q2, q3, q4, -⟩ := Cond.selects_spec (a' _ hy)
    cases Option.some.inj (q1.symm.trans hfound)
    cases Option.some.inj (q2.symm.trans (State.methodFound?_of_named hn hne))
    cases Option.some.inj (q3.symm.trans hn)
    rw [Launch.admits_selectMethod X.admits]; exact q4
  obtain ⟨cellS0, hcS0, hiss⟩ := Y.statics
  obtain ⟨u0, hu0⟩ := Cond.staticRefV Y.unassigned L.unassignedStatic L.statics hcS0 hiss hU0
  obtain ⟨sen, hsen⟩ := Cond.staticRefV Y.sentinel L.sentinelStatic L.statics hcS0 hiss hS0
  obtain ⟨ci198, i198, fB, hk198, hg198, ha198, hsB, -, hnB, htB, hffB⟩ := Cond.ownField (t := .object "java/lang/Object") Y.found L.cls (by decide +kernel) (a' (.fieldLink Bundle.tN 198 Bundle.tN "backtrace" "Ljava/lang/Object;") (by simp [thA])) (a' (.lays Bundle.tN Bundle.tN "backtrace" "Ljava/lang/Object;") (by simp [thA])) e.platform hpl
  obtain ⟨cellS, hcellS, heS, -, hkeep⟩ := X.same.2.2.2.2.2 T.aS cellS0 hcS0
  have hout' : ∀ i, (⟨T.aS, i⟩ : Loc) ∉ locs := fun i hmem => by
    have := hlocs _ hmem cellS0 hcS0
    rw [hiss] at this; cases this
  have hknownS : cellS.vm ≠ .unknown := by
    rw [heS]; intro hu
    rw [show cellS0.vm = .unknown from hu] at hiss
    cases hiss
  have hneS : T.aS ≠ a := Nat.ne_of_lt (Nat.lt_of_lt_of_le (Array.getElem?_eq_some_iff.mp hcS0).1 hnew)
  obtain ⟨iM, hffM⟩ := Y.msg
  obtain ⟨tyC, dC, hdC, hdnC⟩ := Cond.laysAt hfound hk Y.cause (a' (.lays cls Bundle.tN "cause" "Ljava/lang/Throwable;") (by simp [thA]))
  obtain ⟨tyS, dS, hdS, hdnS⟩ := Cond.laysAt hfound hk Y.stack (a' (.lays cls Bundle.tN "stackTrace" Bundle.steD) (by simp [thA]))
  obtain ⟨tyP, dP, hdP, hdnP⟩ := Cond.laysAt hfound hk Y.supp (a' (.lays cls Bundle.tN "suppressedExceptions" Bundle.listD) (by simp [thA]))
  obtain ⟨tyM, dM, hdM, hdnM⟩ := Cond.laysAt hfound hk hffM (a' (.lays cls Bundle.tN "detailMessage" "Ljava/lang/String;") (by simp [thA]))
  obtain ⟨tyB, dB, hdB, hdnB⟩ := Cond.laysAt hfound hk hffB (a' (.lays cls Bundle.tN "backtrace" "Ljava/lang/Object;") (by simp [thA]))
  have bC := Cond.laysApart hdB hdC hdnB hdnC (by rw [hnB, Y.causeName]; decide)
  have bS := Cond.laysApart hdB hdS hdnB hdnS (by rw [hnB, Y.stackName]; decide)
  have bP := Cond.laysApart hdB hdP hdnB hdnP (by rw [hnB, Y.suppName]; decide)
  have hskip : SkipFacts T e.platform s (fun u => u) u0 ((preparedCellV T.toThrowableT (freshCell P1.m.cls kX) a u0 sen).withEntry T1.cur) :=
    ⟨{ ci198 := ci198, i198 := i198, fBack := fB }, ⟨hk198, hg198, ha198, hsB⟩, by
      have := fresh_default (c := P1.m.cls) tyB
      rw [htB] at this
      simpa [preparedCellV, Cell.setSlot, Cell.withEntry, Array.getElem?_setIfInBounds, bC, bS, bP, bC.symm, bS.symm, bP.symm, defaultValue] using this, fun _ _ => rfl⟩
  obtain ⟨tm, methC, cdC, kC, vm₁, hnC, -, -, -, -, -, -, -, hW₁, st1⟩ := Steps.initColdS (tb := p.tables) (e := e) (below := below) (s := s) (U := T1) X.here hexec X.warmed hpl hown (t := Bundle.initS cls) rfl rfl (Bundle.fit_spec hcls).2
    (a' (.methodLink own ic (Bundle.initS cls)) (by simp [thA])) (h (.instanceMethod (Bundle.initS cls)) (by simp [thA])) (bytes := bytes) (maxL := maxL) hcode
    (f := g) hg (a := a) (msg := msg) (rest := .ref a :: rest) hstack hd6
  cases Option.some.inj (hnC.symm.trans hP1m)
  have X₁ := X.noted hW₁
  obtain ⟨vm₂, X₂, st2⟩ := X₁.ctorMessageOffV hexec (g := { g with stack := .ref a :: rest }) hg hsize T L Z LZ M LM (P1 :: Ps)
    (fun P hP => by rcases List.mem_cons.mp hP with rfl | hP; exact L1; exact hL P hP) ⟨hlink1, hlink⟩ (u0 := u0) (sen := sen) (self := a) hmsg (cell := freshCell P1.m.cls kX) (cellS := cellS)
    hcell (fun _ => by simp) (by simp) rfl rfl (sel (by simp [thA]) (by decide) Y.fill0) (sel (by simp [thA]) (by decide) Y.fill) hcellS hneS hknownS (by rw [hkeep _ (hout' _)]; exact hu0) (by rw [hkeep _ (hout' _)]; exact hsen)
    (Takes.of_laid hk hord tyC (by rw [Y.causeType]; rfl)) (Takes.of_laid hk hord tyS (by rw [Y.stackType]; exact fits_refV_array _ u0)) (Takes.of_laid hk hord tyP (by rw [Y.suppType]; exact fits_refV_object _ sen))
    (Takes.of_laid hk hord tyM (by rw [Y.msgType]; exact fits_refV_object _ ⟨msg, hmsg⟩)) Y.objLocals hskip htr [] hd6
    (by simp only [List.length_cons, hlen]; omega) (by simp only [List.length_cons, hlen]; exact hRlocals)
  obtain ⟨hwalk, hrun, hended, hWU, hsame⟩ := X₂.athrowLeaves hexec (g := { g with stack := .ref a :: rest, pc := g.pc + 3 }) hg hlocked hentered hout (a := a) (rest := rest) rfl hd9
  have hlt : a < ((T1.setVm vm₁).setVm vm₂).heap.size := (Array.getElem?_eq_some_iff.mp hcell).1
  have hU := heapAt_setCell_self (s := (T1.setVm vm₁).setVm vm₂) (plainBareV T.toThrowableT (freshCell P1.m.cls kX) a u0 sen msg) hlt
  refine ⟨_, st1 _ (fun acts => ?_), hrun, hended, hWU, hsame.weaken (fun y hy hlt' => ?_) (Nat.le_refl _) (Nat.le_refl _), fun q hq => ?_, _, hU, rfl, rfl⟩
  · rw [doInvoke_state]
    exact st2 _ hwalk
  · rcases List.mem_append.mp hy with h1 | h1
    · exact h1
    · exfalso
      have hb : y.base = a := by
        simp only [List.mem_cons, List.not_mem_nil, or_false] at h1
        rcases h1 with rfl | rfl | rfl | rfl | rfl <;> rfl
      rw [hb] at hlt'
      exact Nat.not_lt.mpr hnew hlt'
  · have hq' : ¬ a = q := fun e => hq e.symm
    simp [State.setFrames, State.setCell, State.setVm, hq', Array.getElem?_setIfInBounds]
/-- an end of either kind, with what it wrote and made -/
def MQT (below : List Frame) (Qc : Array Value → State → Outcome → State → Prop) (a : Array Value) (s : State) (mc ms : Nat) (free : Addr → Prop) : State → Prop := fun t =>
  ∃ o, t.status = .running ∧ Ended t below o ∧ Qc a s o t ∧ ∃ L, (s.WarmedH t.vm ∧ s.sameButNew ({ t with vm := s.vm } : State) L mc ms) ∧ ∀ q ∈ L, free q.base
def exN (j : Nat) : String := if j = 1 then "java/util/NoSuchElementException" else if j = 2 then "java/lang/IllegalStateException" else "java/lang/IllegalArgumentException"
/-- the end of a method that answers an int (kind 0) or throws (kind 1, 2, 3: exN) -/
def QT (g : Gd) (sz : Nat) (res : (Nat × Int32) × St) : Array Value → State → Outcome → State → Prop := fun _ st oc t =>
  (Wo g res.2 t ∧ va_F (AA g sz) st t) ∧ (if res.1.1 = 0 then oc = .returned (some (.int res.1.2)) else ∃ (x : Nat) (ce : Cell), oc = .threw x ∧ t.heap[x]? = some ce ∧ ce.vm = .none ∧ t.vm.findClass (exN res.1.1) = some ce.cls)
def RT : Cfg → (Nat × Int32) × St → Prop
  | (_, l, _, _, s, _, args, below, meth, c, g, _, Q, c0, s0), res => (meth.sig.returnType = some .int ∧ Q = MQT below (QT g s.heap.size res) args s 1 6 (AA g s.heap.size)) ∧ l.stackTraces = false ∧ c.exceptionTable.isEmpty = true ∧ c0 = 0 ∧ s0 = 0
theorem ww_iretT {k : Cfg} {cc : ByteArray} {own : String} (C : Cx k cc own) {pc : Nat} {lv : List (Nat × Value)} {σ : St} {res : (Nat × Int32) × St} (hR : RT k res) {v : Int32} (d : decode cc pc = .ok (.ireturn, 1)) (h : some ((0, v), σ) = some res) : WW k pc lv [.int v] σ := by
  obtain ⟨p, l, e, R, s, m, args, below, meth, c, g, nL, Q, c0, s0⟩ := k
  obtain ⟨⟨hx, hb, hml, hown, hts⟩, hK, hlk, hcs⟩ := C
  obtain ⟨⟨hr, rfl⟩, hl0, hex, rfl, rfl⟩ := hR
  intro H locs ls hP hS hl
  have hr2 : ((0, v), σ) = res := Option.some.inj h
  subst hr2
  have w := W.iret (p := p) (l := l) (e := e) (R := R) (s := s) (m := m) (args := args) (below := below) (meth := meth) (c := c) (H := H) (locs := locs) (cells := 0) (slots := 0) (Qc := QT g s.heap.size ((0, v), σ)) (free := AA g s.heap.size) (v := v) (ls := ls) hx hb hr (fun t ht hW => ⟨⟨⟨by rw [ht]; exact hP, by rw [ht]; exact Kx.moved hW (va_S.K hK hS)⟩, hS.F ht⟩, rfl⟩) hS.2.2 d
  intro T hT X
  obtain ⟨t, a1, o, b1, b2, b3, L, ⟨-, b4, b5⟩, b6⟩ := w T hT X
  exact ⟨t, a1, o, b1, b2, b3, L, ⟨b4, b5.weaken (fun y hy _ => hy) (Nat.zero_le _) (Nat.zero_le _)⟩, b6⟩
theorem sf_lays {g : Gd} {U : State} {n d : String} {args : Array Value} (h : SF g U U.heap n d) : (Cond.laysStatic "java/lang/Throwable" n d).before args U = true := by
  obtain ⟨cf, kf, fi, f, q, cell, u, h1, h2, h3, h4, h5, h6, h7, h8, h9, h10, h11, h12⟩ := h
  exact Cond.laysStatic_of h1 h2 h3 h4 h5 h6 h7 h8 h9
theorem sf_ref {g : Gd} {U : State} {n d : String} {args : Array Value} (h : SF g U U.heap n d) : (Cond.isRef (.static "java/lang/Throwable" n d)).before args U = true := by
  obtain ⟨cf, kf, fi, f, q, cell, u, h1, h2, h3, h4, h5, h6, h7, h8, h9, h10, h11, h12⟩ := h
  have hv : (Term.static "java/lang/Throwable" n d).eval args U none [] U = some u := by simp [Term.eval, State.fieldNamed?, h2, h3, h4, h5, h6, h10]
  cases u <;> simp [Value.isRef] at h11 <;> simp [Cond.before, Cond.holds, Cond.value, hv]
/-- the words of Throwable among GT, and the two static fields -/
def notLS : Cond → Bool
  | .laysStatic .. => false
  | _ => true
def TA : List Cond := Bundle.throwableAtoms.filter notLS
theorem ta_all {g : Gd} {s : State} {args : Array Value} (hG : ∀ w ∈ TA, w ∈ GT) (hts : ∀ w ∈ GT, w.before args s = true) (hE : Ex g s s.heap) : ∀ a ∈ Bundle.throwableAtoms, a.before args s = true := by
  intro a ha
  by_cases hc : notLS a = true
  · exact hts a (hG a (List.mem_filter.mpr ⟨ha, hc⟩))
  · simp only [Bundle.throwableAtoms, List.mem_cons, List.not_mem_nil, or_false] at ha
    rcases ha with rfl | rfl | rfl | rfl | rfl | rfl | rfl | rfl | rfl | rfl | rfl | rfl | rfl | rfl | rfl | rfl | rfl | rfl | rfl | rfl | rfl | rfl | rfl | rfl <;> first | exact absurd rfl hc | exact sf_lays hE.2.2.2.1 | exact sf_lays hE.2.2.2.2
theorem blank_fresh (cC : ClassId) (kC : Class) : blank cC kC = freshCell cC kC := rfl
theorem wd_vm {g : Gd} {σ : St} {H : Heap} (hP : va_P g.1 classes (wd g σ) H) {o : Nat} (ho : o < NC) : ∃ cell : Cell, H[g.2.2.2.2 o]? = some cell ∧ cell.vm = .none := by
  have h := hP o _ (wd_at g σ ho)
  unfold ce at h
  split at h
  · exact ⟨_, h, rfl⟩
  · split at h
    · exact ⟨_, h, rfl⟩
    · split at h
      · exact ⟨_, h, rfl⟩
      · obtain ⟨r, h1, cell, q1, q2, q3, q4⟩ := h
        exact ⟨cell, q1, q3⟩
set_option maxHeartbeats 2000000 in
theorem ww_throw {k : Cfg} {cc : ByteArray} (C : Cx k cc "BundleHouse") {pc : Nat} {lv : List (Nat × Value)} {σ : St} {res : (Nat × Int32) × St} (hR : RT k res) (j : Nat) (hj : ¬ j = 0) {ix is ic nn maxL : Nat} {text : String} {bytes : ByteArray}
    (hfit : Bundle.fit (exN j) = true) (hclass : Cond.classLink "BundleHouse" ix (exN j) ∈ GT) (hinst : Cond.instantiable (exN j) 6 ∈ GT) (hini : Cond.initialized (exN j) ∈ GT) (hTA : ∀ w ∈ TA, w ∈ GT) (hTS : ∀ w ∈ Bundle.throwableSAtoms, w ∈ GT) (hA : ∀ w ∈ thA "BundleHouse" ic (exN j), w ∈ GT) (hcode : Cond.code (Bundle.initS (exN j)) bytes maxL none ∈ GT)
    (hchain : ∀ (pl : Platform) (s : State) (args : Array Value), pl.magicAccessors = ({} : Platform).magicAccessors → (∀ w ∈ GT, w.before args s = true) → (∀ x ∈ DCL, va_Nw (.declares x) s) → thC pl s (exN j) nn)
    (hstr : (is, text) ∈ STR) (hrm : 1 ≤ k.2.2.2.1.cells ∧ 6 ≤ k.2.2.2.1.slots ∧ nn + 3 < k.2.2.2.1.frames ∧ 1 + (13 * (nn + 1) + 42) ≤ k.2.2.2.1.locals)
    (d0 : decode cc pc = .ok (.new ix, 3)) (d1 : decode cc (pc + 3) = .ok (.dup, 1)) (d2 : decode cc (pc + 4) = .ok (.ldc is, 2)) (d3 : decode cc (pc + 6) = .ok (.invokespecial ic, 3)) (d4 : decode cc (pc + 9) = .ok (.athrow, 1))
    (h : some ((j, (0 : Int32)), σ) = some res) : WW k pc lv [] σ := by
  obtain ⟨p, l, e, R, s, m, args, below, meth, c, g, nL, Q, c0, s0⟩ := k
  obtain ⟨⟨hx, hb, hml, hown, hts⟩, hK, hlk, hcs⟩ := C
  obtain ⟨⟨hr, rfl⟩, hl0, hex, rfl, rfl⟩ := hR
  intro H locs ls hP hS hl
  have hr2 : ((j, (0 : Int32)), σ) = res := Option.some.inj h
  subst hr2
  obtain ⟨cX, kX0, hfX, -, -, -⟩ := Cond.instantiable_spec (hts _ hinst)
  obtain ⟨qs, hqs⟩ := hK.2.2.2.2.1 (is, text) hstr
  refine W.newcK (g := F0 m pc ls []) hx hb hown (hts _ hclass) (hts _ hinst) (hts _ hini) rfl d0 (by have := hrm.1; simpa using this) (by have := hrm.2.1; simpa using this) hfX rfl (fun H1 kC hkC e1 z1 o1 => ?_)
  show W p l e R s m args below meth c H1 locs (0 + 1) (0 + 6) _ (F0 m (pc + 3) ls [.ref H.size])
  refine lv_dup hx hb d1 rfl ?_
  refine va_ldcS hx hb hown hqs d2 ?_
  intro T hT X
  have hP1 : va_P g.1 classes (wd g σ) H1 := hP.kept (fun q x hx => o1 x.1 ((hP q x hx).lt))
  have hexc : ∀ x ∈ c.exceptionTable.toList, covers x (pc + 4 + 2 + 3) = false := fun x hx => by
    have he : c.exceptionTable = #[] := by simpa using hex
    rw [he] at hx
    cases hx
  have hlocs : ∀ x ∈ locs, ∀ cell, s.heap[x.base]? = some cell → cell.vm.isStatics = false := by
    intro x hx2 cell hcell
    rcases hS.2.2 x hx2 with ⟨o, ho, eo⟩ | hge
    · obtain ⟨cell', hc', hv', -, -⟩ := X.same.2.2.2.2.2 x.base cell hcell
      obtain ⟨c1, hc1, hv1⟩ := wd_vm hP1 ho
      have hc2 : T.heap[x.base]? = some cell' := hc'
      rw [hT, eo] at hc2
      cases hc1.symm.trans hc2
      rw [hv'] at hv1
      rw [show cell.vm = .none from hv1]; rfl
    · rw [Array.getElem?_eq_none hge] at hcell; cases hcell
  have hpl : e.platform.magicAccessors = ({} : Platform).magicAccessors := by rw [X.admits.platform]
  have htr : e.platform.stackTraces = false := by rw [X.admits.platform]; exact hl0
  obtain ⟨U, u1, u2, u3, u4, u5, u6, ce, u7, u8, u9⟩ := th_ctor X hx htr hown hfit (hchain e.platform s args hpl hts hK.2.2.2.2.2.1) (ta_all hTA hts hK.2.2.2.2) (fun w hw => hts w (hTS w hw)) (fun w hw => hts w (hA w hw)) (hts _ hcode) (sf_ref hK.2.2.2.2.2.2.2.1) (sf_ref hK.2.2.2.2.2.2.2.2) hlocs hfX hkC (a := H.size) (by rw [hT]; exact e1) hS.1 (msg := .ref qs) rfl
    (g := F0 m (pc + 4 + 2) ls [.ref qs, .ref H.size, .ref H.size]) rfl (hl.1.trans hml.symm) rfl rfl (rest := []) rfl (by rw [hb]; exact d3) (by rw [hb]; exact d4) hexc hrm.2.2.1 (by have := hrm.2.2.2; simpa [JFrame.monitorRoom, Value.category] using this) hlk
  have hPU : va_P g.1 classes (wd g σ) U.heap := hP1.kept (fun q x hx => by
    rw [u6 x.1 (Nat.ne_of_lt ((hP q x hx).lt)), hT])
  have hFU : va_F (AA g s.heap.size) s U := by
    refine ⟨?_, fun q h1 h2 => ?_⟩
    · have := (Array.getElem?_eq_some_iff.mp u7).1
      exact Nat.le_trans hS.1 (Nat.le_of_lt this)
    · have hqH : q < H.size := Nat.lt_of_lt_of_le h1 hS.1
      rw [u6 q (Nat.ne_of_lt hqH), hT, o1 q hqH]
      exact hS.2.1 q h1 h2
  have hKU : Kx g s U.heap := hK.kept (fun q h1 h2 => hFU.2 q h1 (fun hA => by
    rcases hA with ⟨o, ho, eo⟩ | hge
    · exact h2 o ho eo
    · exact absurd h1 (Nat.not_lt.mpr hge)))
  refine ⟨U, u1, .threw H.size, u2, u3, ⟨⟨⟨hPU, Kx.moved u4 hKU⟩, hFU⟩, ?_⟩, locs, ⟨u4, u5⟩, hS.2.2⟩
  show (if j = 0 then _ else _)
  rw [if_neg hj]
  exact ⟨H.size, ce, rfl, u7, u9, by rw [u4.alike.findClass, u8]; exact hfX⟩
/-- the contract of a method that answers an int or throws -/
def MT (y : MethodName) (rm : Room) (cc : ByteArray) (nL : Nat) (av : (Nat → Nat) → List Value) (f : St → Option ((Nat × Int32) × St)) : Prop :=
  ∀ (l : Launch), l.stackTraces = false → ∀ (g : Gd) (sz : Nat) (σ : St) (res : (Nat × Int32) × St), f σ = some res → MetFree l y (headSpec (Cond.code y cc nL (some .int) :: GT) rm) (va_Pc (av g.2.2.2.2) (fun U => U.heap.size = sz ∧ Wo g σ U)) (fun _ _ _ _ _ => True)
    (fun a st o t => QT g sz res a st o t ∧ ∃ L, (st.WarmedH t.vm ∧ st.sameButNew ({ t with vm := st.vm } : State) L 1 6) ∧ ∀ q ∈ L, AA g sz q.base)
theorem mt_of {y : MethodName} {rm : Room} {cc : ByteArray} {nL : Nat} {av : (Nat → Nat) → List Value} {f : St → Option ((Nat × Int32) × St)} (hy : plainName y.cls = true) (hlen : ∀ a, (lg_sl (av a)).length ≤ nL)
    (body : ∀ (k : Cfg) (res : (Nat × Int32) × St) (σ : St), Cx k cc y.cls → RT k res → k.2.2.2.1 = rm → k.2.2.2.2.2.2.2.2.2.2.2.1 = nL → f σ = some res → WW k 0 (lv_args 0 (av (ad k))) [] σ) : MT y rm cc nL av f := by
  intro l hl0 g sz σ res hf
  refine MetFree.of_bodyS (code := cc) (maxLocals := nL) (ret := some .int) hy ?_ ?_
  · intro args s m h hn
    obtain ⟨meth, c, h1, h2, h3, h4, h5, h6, -, -⟩ := Cond.code_spec hn (atoms_spec (ws := Cond.code y cc nL (some .int) :: GT) h _ List.mem_cons_self)
    exact ⟨meth, c, h1, h2, h3, h4, h5, h6⟩
  · intro p e s m args below meth c s₁ B hml hv _
    obtain ⟨rfl, hsz, hP, hK⟩ := hv
    subst hsz
    have hh0 : s₁.heap = s.heap := by rw [B.state]; rfl
    have hall := atoms_spec (ws := Cond.code y cc nL (some .int) :: GT) B.pre
    have hl := lv_entry (av g.2.2.2.2) (hlen g.2.2.2.2)
    have hts : ∀ w ∈ GT, w.before (av g.2.2.2.2).toArray s = true := fun w hw => hall w (List.mem_cons_of_mem _ hw)
    have w := body (p, l, e, (headSpec (Cond.code y cc nL (some .int) :: GT) rm).room, s, m, (av g.2.2.2.2).toArray, below, meth, c, g, nL, MQT below (QT g s.heap.size res) (av g.2.2.2.2).toArray s 1 6 (AA g s.heap.size), 0, 0) res σ
      ⟨⟨B.exec, B.bytes, hml, findClass_of_methodNamed B.named, hts⟩, hK, B.notSynchronized, Nat.zero_le _, Nat.zero_le _⟩ ⟨⟨B.returns, rfl⟩, hl0, B.noHandlers (hall _ List.mem_cons_self), rfl, rfl⟩ rfl rfl hf s.heap [] _ hP va_S.rf hl
    obtain ⟨t, a1, o, b1, b2, b3⟩ := w s₁ hh0 (Stand.of_body B)
    exact ⟨t, o, by rw [lg_entry_eq]; exact a1, b1, b2, b3⟩
