def R_law : String := "BundleHouseLaw"
def lw_P (b : Addr) (xs : List Int32) (args : Array Value) (s : State) : Prop := args = #[.ref b] ∧ s.IntsAt b xs ∧ xs.length ≤ 3584 ∧ (Jvm.Cond.and given_1 narrow_1).before args s = true
def lw_Q (_ : Array Value) (s : State) (o : Outcome) (t : State) : Prop := o = .returned (some (.int 1)) ∧ Framed s o t [] 1130 34937
def lw_Z (below : List Frame) (a : Array Value) (s : State) : State → Prop := fun t => ∃ o, t.status = .running ∧ Ended t below o ∧ lw_Q a s o t
/-- the law's own end, with 1 on the stack, nothing written that was there before, its room as the claim has it -/
theorem lw_ret {p : Program} {l : Launch} {e : Env} {s : State} {m : MethodId} {below : List Frame} {meth : Method} {c : Code} {b : Nat} (hx : p.tables.exec = Jvm.exec) (hb : c.code = code) (hr : meth.sig.returnType = ret) (hlocks : meth.locks = false) {pc : Nat} {H : Heap} {ls : Array Slot} (hdg : decode code pc = .ok (.ireturn, 1)) : W p l e room_1 s m #[Value.ref b] below meth c H [] 1130 34937 (lw_Z below #[Value.ref b] s) (F0 m pc ls [.int 1]) := by
  intro T hT X
  obtain ⟨fs, hret, hrun, hended, hW, hframe⟩ := X.leave (v := some (.int 1)) (hlocks := hlocks) (fun h => by rw [hr] at h; cases h)
  have hmeth' : T.vm.method? m = some meth := X.method'
  refine ⟨T.setFrames fs, ?_, .returned (some (.int 1)), hrun, hended, rfl, ⟨_, rfl⟩, hW, hframe⟩
  jvm_step X.here [X.here.top, hx, hb, hdg, hmeth', hr, ret, narrow_b1]
  (try refine ⟨rfl, ?_⟩); (try refine ⟨rfl, ?_⟩)
  first | (intro acts; rw [hret _ acts rfl rfl rfl]) | rw [hret _ _ rfl rfl rfl]
  exact Steps.refl _
/-- what holds at the law's entry: the machine, the code, the tables' words (any of lw_tbl by 'hts w (by decide +kernel)'), the script of L ints xs at the cell b, what the Statement gives of the start (any of its parts by flat_of_before) -/
def lw_At (p : Program) (s : State) (m : MethodId) (meth : Method) (c : Code) (b L : Nat) (xs : Nat → Int32) : Prop :=
  p.tables.exec = Jvm.exec ∧ c.code = code ∧ meth.sig.returnType = ret ∧ c.maxLocals = 7 ∧ s.vm.findClass R_law = some m.cls ∧ (∀ w ∈ lw_tbl, w.before #[Value.ref b] s = true) ∧ va_X b L xs s s.heap ∧ b < s.heap.size ∧ meth.locks = false ∧ (Jvm.Cond.and given_1 narrow_1).before #[Value.ref b] s = true
/-! ===== rows of the law's own body ===== -/
def lx {β : Type} (L : Nat) (xs : Nat → Int32) (i : Int32) (f : Int32 → Option β) : Option β := if i < 0 ∨ L ≤ i.toNatClampNeg then none else f (xs i.toNatClampNeg)
theorem lx_some {β : Type} {L : Nat} {xs : Nat → Int32} {i : Int32} {f : Int32 → Option β} {r : β} (h : lx L xs i f = some r) : vp_in i L ∧ f (xs i.toNatClampNeg) = some r := by
  unfold lx at h
  by_cases hc : i < 0 ∨ L ≤ i.toNatClampNeg
  · rw [if_pos hc] at h; cases h
  · rw [if_neg hc] at h; exact ⟨hc, h⟩
/-- the script, apart from the world -/
def LX : Cfg → Nat → Nat → (Nat → Int32) → Prop
  | (_, _, _, _, s, _, _, _, _, _, g, _, _, _, _), b, L, xs => va_X b L xs s s.heap ∧ b < s.heap.size ∧ ¬ AA g s.heap.size b
/-- the law's end -/
def LQ : Cfg → Nat → Prop
  | (_, _, _, R, s, _, args, below, meth, _, g, _, Q, _, _), b => meth.sig.returnType = ret ∧ Q = lw_Z below #[Value.ref b] s ∧ args = #[Value.ref b] ∧ R = room_1 ∧ ∀ o, o < NC → s.heap.size ≤ g.2.2.2.2 o
theorem ww_xld {k : Cfg} {cc : ByteArray} {own : String} (C : Cx k cc own) {pc : Nat} {lv : List (Nat × Value)} {st : List Value} {σ : St} {b L : Nat} {xs : Nat → Int32} (hX : LX k b L xs) {i : Int32} {α : Type} {F : Int32 → Option α} {r : α} (d : decode cc pc = .ok (.iaload, 1)) (h : lx L xs i F = some r) (kk : ∀ x, F x = some r → WW k (pc + 1) lv (.int x :: st) σ) : WW k pc lv (.int i :: .ref b :: st) σ := by
  obtain ⟨p, l, e, R, s, m, args, below, meth, c, g, nL, Q, c0, s0⟩ := k
  obtain ⟨⟨hx, hb, hml, hown, hts⟩, hK, hlk, hcs⟩ := C
  intro H locs ls hP hS hl
  obtain ⟨hi, h⟩ := lx_some h
  exact va_sld hx hb hX.1 hX.2.1 hX.2.2 hS hi d (kk _ h H locs ls hP hS hl)
theorem ww_xlen {k : Cfg} {cc : ByteArray} {own : String} (C : Cx k cc own) {pc : Nat} {lv : List (Nat × Value)} {st : List Value} {σ : St} {b L : Nat} {xs : Nat → Int32} (hX : LX k b L xs) (d : decode cc pc = .ok (.arraylength, 1)) (kk : WW k (pc + 1) lv (.int (nI L) :: st) σ) : WW k pc lv (.ref b :: st) σ := by
  obtain ⟨p, l, e, R, s, m, args, below, meth, c, g, nL, Q, c0, s0⟩ := k
  obtain ⟨⟨hx, hb, hml, hown, hts⟩, hK, hlk, hcs⟩ := C
  intro H locs ls hP hS hl
  exact va_slen hx hb hX.1 hX.2.1 hX.2.2 hS d (kk H locs ls hP hS hl)
theorem ww_lret {k : Cfg} (C : Cx k code "BundleHouseLaw") {b : Nat} (hQ : LQ k b) {pc : Nat} {lv : List (Nat × Value)} {σ : St} {res : Int32 × St} (hres : res.1 = 1) (hc : k.2.2.2.2.2.2.2.2.2.2.2.2.2.1 ≤ 1130) (hs : k.2.2.2.2.2.2.2.2.2.2.2.2.2.2 ≤ 34937) {v : Int32} (d : decode code pc = .ok (.ireturn, 1)) (h : some (v, σ) = some res) : WW k pc lv [.int v] σ := by
  obtain ⟨p, l, e, R, s, m, args, below, meth, c, g, nL, Q, c0, s0⟩ := k
  obtain ⟨⟨hx, hb, hml, hown, hts⟩, hK, hlk, hcs⟩ := C
  obtain ⟨hr, rfl, rfl, rfl, hge⟩ := hQ
  intro H locs ls hP hS hl
  have hv : v = 1 := by
    have := congrArg Prod.fst (Option.some.inj h)
    exact this.trans hres
  subst hv
  refine va_forget (fun q hq => ?_) ?_
  · rcases hS.2.2 q hq with ⟨o, ho, e1⟩ | h1
    · rw [e1]; exact hge o ho
    · exact h1
  · refine W.widen (k := 1130) (n := 34937) hc hs ?_
    exact lw_ret hx hb hr hlk d
