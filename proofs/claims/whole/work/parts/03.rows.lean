theorem ww_iconst {k : Cfg} {cc : ByteArray} {own : String} (C : Cx k cc own) {pc : Nat} {lv : List (Nat × Value)} {st : List Value} {σ : St} {n : Int} {v : Int32} (d : decode cc pc = .ok (.iconst n, 1)) (hv : Int32.ofInt n = v) (kk : WW k (pc + 1) lv (.int v :: st) σ) : WW k pc lv st σ := by
  obtain ⟨p, l, e, R, s, m, args, below, meth, c, g, nL, Q, c0, s0⟩ := k
  obtain ⟨⟨hx, hb, hml, hown, hts⟩, hK, hlk, hcs⟩ := C
  intro H locs ls hP hS hl
  exact lv_iconst hx hb d hv (kk H locs ls hP hS hl)
theorem ww_bipush {k : Cfg} {cc : ByteArray} {own : String} (C : Cx k cc own) {pc : Nat} {lv : List (Nat × Value)} {st : List Value} {σ : St} {n : Int} {v : Int32} (d : decode cc pc = .ok (.bipush n, 2)) (hv : (Int8.ofInt n).toInt32 = v) (kk : WW k (pc + 2) lv (.int v :: st) σ) : WW k pc lv st σ := by
  obtain ⟨p, l, e, R, s, m, args, below, meth, c, g, nL, Q, c0, s0⟩ := k
  obtain ⟨⟨hx, hb, hml, hown, hts⟩, hK, hlk, hcs⟩ := C
  intro H locs ls hP hS hl
  exact lv_bipush hx hb d hv (kk H locs ls hP hS hl)
theorem ww_sipush {k : Cfg} {cc : ByteArray} {own : String} (C : Cx k cc own) {pc : Nat} {lv : List (Nat × Value)} {st : List Value} {σ : St} {n : Int} {v : Int32} (d : decode cc pc = .ok (.sipush n, 3)) (hv : (Int16.ofInt n).toInt32 = v) (kk : WW k (pc + 3) lv (.int v :: st) σ) : WW k pc lv st σ := by
  obtain ⟨p, l, e, R, s, m, args, below, meth, c, g, nL, Q, c0, s0⟩ := k
  obtain ⟨⟨hx, hb, hml, hown, hts⟩, hK, hlk, hcs⟩ := C
  intro H locs ls hP hS hl
  exact lv_sipush hx hb d hv (kk H locs ls hP hS hl)
theorem ww_lconst {k : Cfg} {cc : ByteArray} {own : String} (C : Cx k cc own) {pc : Nat} {lv : List (Nat × Value)} {st : List Value} {σ : St} {n : Fin 2} {v : Int64} (d : decode cc pc = .ok (.lconst n, 1)) (hv : Int64.ofNat (n : Nat) = v) (kk : WW k (pc + 1) lv (.long v :: st) σ) : WW k pc lv st σ := by
  obtain ⟨p, l, e, R, s, m, args, below, meth, c, g, nL, Q, c0, s0⟩ := k
  obtain ⟨⟨hx, hb, hml, hown, hts⟩, hK, hlk, hcs⟩ := C
  intro H locs ls hP hS hl
  exact lv_lconst hx hb d hv (kk H locs ls hP hS hl)
theorem ww_ldc2 {k : Cfg} {cc : ByteArray} {own : String} (C : Cx k cc own) {pc : Nat} {lv : List (Nat × Value)} {st : List Value} {σ : St} {index : Nat} {v : Int64} (hc : Jvm.Cond.constantLong own index v ∈ GT) (d : decode cc pc = .ok (.ldc2_w index, 3)) (kk : WW k (pc + 3) lv (.long v :: st) σ) : WW k pc lv st σ := by
  obtain ⟨p, l, e, R, s, m, args, below, meth, c, g, nL, Q, c0, s0⟩ := k
  obtain ⟨⟨hx, hb, hml, hown, hts⟩, hK, hlk, hcs⟩ := C
  intro H locs ls hP hS hl
  exact lv_ldc2 hx hb hown (hts _ hc) d (kk H locs ls hP hS hl)
theorem ww_iload_n {k : Cfg} {cc : ByteArray} {own : String} (C : Cx k cc own) {pc : Nat} {lv : List (Nat × Value)} {st : List Value} {σ : St} {q : Fin 4} {i : Nat} {x : Int32} (j : Nat) (hj : lv[j]? = some (i, .int x)) (hi : (q : Nat) = i) (d : decode cc pc = .ok (.iload_n q, 1)) (kk : WW k (pc + 1) lv (.int x :: st) σ) : WW k pc lv st σ := by
  obtain ⟨p, l, e, R, s, m, args, below, meth, c, g, nL, Q, c0, s0⟩ := k
  obtain ⟨⟨hx, hb, hml, hown, hts⟩, hK, hlk, hcs⟩ := C
  intro H locs ls hP hS hl
  exact lv_iload_n hx hb d hi (lv_at hl j hj) (kk H locs ls hP hS hl)
theorem ww_iload {k : Cfg} {cc : ByteArray} {own : String} (C : Cx k cc own) {pc : Nat} {lv : List (Nat × Value)} {st : List Value} {σ : St} {i : Nat} {x : Int32} (j : Nat) (hj : lv[j]? = some (i, .int x)) (d : decode cc pc = .ok (.iload i, 2)) (kk : WW k (pc + 2) lv (.int x :: st) σ) : WW k pc lv st σ := by
  obtain ⟨p, l, e, R, s, m, args, below, meth, c, g, nL, Q, c0, s0⟩ := k
  obtain ⟨⟨hx, hb, hml, hown, hts⟩, hK, hlk, hcs⟩ := C
  intro H locs ls hP hS hl
  exact lv_iload hx hb d (lv_at hl j hj) (kk H locs ls hP hS hl)
theorem ww_istore_n {k : Cfg} {cc : ByteArray} {own : String} (C : Cx k cc own) {pc : Nat} {lv : List (Nat × Value)} {st : List Value} {σ : St} {q : Fin 4} {i : Nat} {x : Int32} (lv' : List (Nat × Value)) (hi : (q : Nat) = i) {nM : Nat} (hnL : k.2.2.2.2.2.2.2.2.2.2.2.1 = nM) (hn : i < nM) (hl2 : (i, Value.int x) :: lv.filter (fun q => !(q.1 == i) && !(q.1 + 1 == i && q.2.category == 2)) = lv') (d : decode cc pc = .ok (.istore_n q, 1)) (kk : WW k (pc + 1) lv' st σ) : WW k pc lv (.int x :: st) σ := by
  obtain ⟨p, l, e, R, s, m, args, below, meth, c, g, nL, Q, c0, s0⟩ := k
  obtain ⟨⟨hx, hb, hml, hown, hts⟩, hK, hlk, hcs⟩ := C
  intro H locs ls hP hS hl
  have hnL : nL = nM := hnL
  subst hnL
  exact lv_istore_n hx hb d hi hl hn hl2 (fun ls' hl' => kk H locs ls' hP hS hl')
theorem ww_istore {k : Cfg} {cc : ByteArray} {own : String} (C : Cx k cc own) {pc : Nat} {lv : List (Nat × Value)} {st : List Value} {σ : St} {i : Nat} {x : Int32} (lv' : List (Nat × Value))  {nM : Nat} (hnL : k.2.2.2.2.2.2.2.2.2.2.2.1 = nM) (hn : i < nM) (hl2 : (i, Value.int x) :: lv.filter (fun q => !(q.1 == i) && !(q.1 + 1 == i && q.2.category == 2)) = lv') (d : decode cc pc = .ok (.istore i, 2)) (kk : WW k (pc + 2) lv' st σ) : WW k pc lv (.int x :: st) σ := by
  obtain ⟨p, l, e, R, s, m, args, below, meth, c, g, nL, Q, c0, s0⟩ := k
  obtain ⟨⟨hx, hb, hml, hown, hts⟩, hK, hlk, hcs⟩ := C
  intro H locs ls hP hS hl
  have hnL : nL = nM := hnL
  subst hnL
  exact lv_istore hx hb d hl hn hl2 (fun ls' hl' => kk H locs ls' hP hS hl')
theorem ww_lload_n {k : Cfg} {cc : ByteArray} {own : String} (C : Cx k cc own) {pc : Nat} {lv : List (Nat × Value)} {st : List Value} {σ : St} {q : Fin 4} {i : Nat} {x : Int64} (j : Nat) (hj : lv[j]? = some (i, .long x)) (hi : (q : Nat) = i) (d : decode cc pc = .ok (.lload_n q, 1)) (kk : WW k (pc + 1) lv (.long x :: st) σ) : WW k pc lv st σ := by
  obtain ⟨p, l, e, R, s, m, args, below, meth, c, g, nL, Q, c0, s0⟩ := k
  obtain ⟨⟨hx, hb, hml, hown, hts⟩, hK, hlk, hcs⟩ := C
  intro H locs ls hP hS hl
  exact lv_lload_n hx hb d hi (lv_at hl j hj) (kk H locs ls hP hS hl)
theorem ww_lload {k : Cfg} {cc : ByteArray} {own : String} (C : Cx k cc own) {pc : Nat} {lv : List (Nat × Value)} {st : List Value} {σ : St} {i : Nat} {x : Int64} (j : Nat) (hj : lv[j]? = some (i, .long x)) (d : decode cc pc = .ok (.lload i, 2)) (kk : WW k (pc + 2) lv (.long x :: st) σ) : WW k pc lv st σ := by
  obtain ⟨p, l, e, R, s, m, args, below, meth, c, g, nL, Q, c0, s0⟩ := k
  obtain ⟨⟨hx, hb, hml, hown, hts⟩, hK, hlk, hcs⟩ := C
  intro H locs ls hP hS hl
  exact lv_lload hx hb d (lv_at hl j hj) (kk H locs ls hP hS hl)
theorem ww_lstore_n {k : Cfg} {cc : ByteArray} {own : String} (C : Cx k cc own) {pc : Nat} {lv : List (Nat × Value)} {st : List Value} {σ : St} {q : Fin 4} {i : Nat} {x : Int64} (lv' : List (Nat × Value)) (hi : (q : Nat) = i) {nM : Nat} (hnL : k.2.2.2.2.2.2.2.2.2.2.2.1 = nM) (hn : i + 1 < nM) (hl2 : (i, Value.long x) :: lv.filter (fun q => !(q.1 == i) && (!(q.1 == i + 1) && !(q.1 + 1 == i && q.2.category == 2))) = lv') (d : decode cc pc = .ok (.lstore_n q, 1)) (kk : WW k (pc + 1) lv' st σ) : WW k pc lv (.long x :: st) σ := by
  obtain ⟨p, l, e, R, s, m, args, below, meth, c, g, nL, Q, c0, s0⟩ := k
  obtain ⟨⟨hx, hb, hml, hown, hts⟩, hK, hlk, hcs⟩ := C
  intro H locs ls hP hS hl
  have hnL : nL = nM := hnL
  subst hnL
  exact lv_lstore_n hx hb d hi hl hn hl2 (fun ls' hl' => kk H locs ls' hP hS hl')
theorem ww_lstore {k : Cfg} {cc : ByteArray} {own : String} (C : Cx k cc own) {pc : Nat} {lv : List (Nat × Value)} {st : List Value} {σ : St} {i : Nat} {x : Int64} (lv' : List (Nat × Value))  {nM : Nat} (hnL : k.2.2.2.2.2.2.2.2.2.2.2.1 = nM) (hn : i + 1 < nM) (hl2 : (i, Value.long x) :: lv.filter (fun q => !(q.1 == i) && (!(q.1 == i + 1) && !(q.1 + 1 == i && q.2.category == 2))) = lv') (d : decode cc pc = .ok (.lstore i, 2)) (kk : WW k (pc + 2) lv' st σ) : WW k pc lv (.long x :: st) σ := by
  obtain ⟨p, l, e, R, s, m, args, below, meth, c, g, nL, Q, c0, s0⟩ := k
  obtain ⟨⟨hx, hb, hml, hown, hts⟩, hK, hlk, hcs⟩ := C
  intro H locs ls hP hS hl
  have hnL : nL = nM := hnL
  subst hnL
  exact lv_lstore hx hb d hl hn hl2 (fun ls' hl' => kk H locs ls' hP hS hl')
theorem ww_aload_n {k : Cfg} {cc : ByteArray} {own : String} (C : Cx k cc own) {pc : Nat} {lv : List (Nat × Value)} {st : List Value} {σ : St} {q : Fin 4} {i : Nat} {x : Nat} (j : Nat) (hj : lv[j]? = some (i, .ref x)) (hi : (q : Nat) = i) (d : decode cc pc = .ok (.aload_n q, 1)) (kk : WW k (pc + 1) lv (.ref x :: st) σ) : WW k pc lv st σ := by
  obtain ⟨p, l, e, R, s, m, args, below, meth, c, g, nL, Q, c0, s0⟩ := k
  obtain ⟨⟨hx, hb, hml, hown, hts⟩, hK, hlk, hcs⟩ := C
  intro H locs ls hP hS hl
  exact lv_aload_n hx hb d hi (lv_at hl j hj) (kk H locs ls hP hS hl)
theorem ww_aload {k : Cfg} {cc : ByteArray} {own : String} (C : Cx k cc own) {pc : Nat} {lv : List (Nat × Value)} {st : List Value} {σ : St} {i : Nat} {x : Nat} (j : Nat) (hj : lv[j]? = some (i, .ref x)) (d : decode cc pc = .ok (.aload i, 2)) (kk : WW k (pc + 2) lv (.ref x :: st) σ) : WW k pc lv st σ := by
  obtain ⟨p, l, e, R, s, m, args, below, meth, c, g, nL, Q, c0, s0⟩ := k
  obtain ⟨⟨hx, hb, hml, hown, hts⟩, hK, hlk, hcs⟩ := C
  intro H locs ls hP hS hl
  exact lv_aload hx hb d (lv_at hl j hj) (kk H locs ls hP hS hl)
theorem ww_astore_n {k : Cfg} {cc : ByteArray} {own : String} (C : Cx k cc own) {pc : Nat} {lv : List (Nat × Value)} {st : List Value} {σ : St} {q : Fin 4} {i : Nat} {x : Nat} (lv' : List (Nat × Value)) (hi : (q : Nat) = i) {nM : Nat} (hnL : k.2.2.2.2.2.2.2.2.2.2.2.1 = nM) (hn : i < nM) (hl2 : (i, Value.ref x) :: lv.filter (fun q => !(q.1 == i) && !(q.1 + 1 == i && q.2.category == 2)) = lv') (d : decode cc pc = .ok (.astore_n q, 1)) (kk : WW k (pc + 1) lv' st σ) : WW k pc lv (.ref x :: st) σ := by
  obtain ⟨p, l, e, R, s, m, args, below, meth, c, g, nL, Q, c0, s0⟩ := k
  obtain ⟨⟨hx, hb, hml, hown, hts⟩, hK, hlk, hcs⟩ := C
  intro H locs ls hP hS hl
  have hnL : nL = nM := hnL
  subst hnL
  exact lv_astore_n hx hb d hi hl hn hl2 (fun ls' hl' => kk H locs ls' hP hS hl')
theorem ww_astore {k : Cfg} {cc : ByteArray} {own : String} (C : Cx k cc own) {pc : Nat} {lv : List (Nat × Value)} {st : List Value} {σ : St} {i : Nat} {x : Nat} (lv' : List (Nat × Value))  {nM : Nat} (hnL : k.2.2.2.2.2.2.2.2.2.2.2.1 = nM) (hn : i < nM) (hl2 : (i, Value.ref x) :: lv.filter (fun q => !(q.1 == i) && !(q.1 + 1 == i && q.2.category == 2)) = lv') (d : decode cc pc = .ok (.astore i, 2)) (kk : WW k (pc + 2) lv' st σ) : WW k pc lv (.ref x :: st) σ := by
  obtain ⟨p, l, e, R, s, m, args, below, meth, c, g, nL, Q, c0, s0⟩ := k
  obtain ⟨⟨hx, hb, hml, hown, hts⟩, hK, hlk, hcs⟩ := C
  intro H locs ls hP hS hl
  have hnL : nL = nM := hnL
  subst hnL
  exact lv_astore hx hb d hl hn hl2 (fun ls' hl' => kk H locs ls' hP hS hl')
theorem ww_iinc {k : Cfg} {cc : ByteArray} {own : String} (C : Cx k cc own) {pc : Nat} {lv : List (Nat × Value)} {st : List Value} {σ : St} {i : Nat} {n : Int} {x y : Int32} {α : Type} {F : Int32 → Option α} {r : α} (j : Nat) (lv' : Int32 → List (Nat × Value)) (hj : lv[j]? = some (i, .int x)) (hy : Int32.ofInt n = y) {nM : Nat} (hnL : k.2.2.2.2.2.2.2.2.2.2.2.1 = nM) (hn : i < nM) (hl2 : ∀ v, (i, Value.int v) :: lv.filter (fun q => !(q.1 == i) && !(q.1 + 1 == i && q.2.category == 2)) = lv' v) (d : decode cc pc = .ok (.iinc i n, 3)) (h : nm (x + y) F = some r) (kk : ∀ v, F v = some r → WW k (pc + 3) (lv' v) st σ) : WW k pc lv st σ := by
  obtain ⟨p, l, e, R, s, m, args, below, meth, c, g, nL, Q, c0, s0⟩ := k
  obtain ⟨⟨hx, hb, hml, hown, hts⟩, hK, hlk, hcs⟩ := C
  intro H locs ls hP hS hl
  have hnL : nL = nM := hnL
  subst hnL
  exact lv_iinc (v := x + y) hx hb d hl hj (by rw [hy]) hn (hl2 (x + y)) (fun ls' hl' => kk (x + y) h H locs ls' hP hS hl')
theorem ww_iadd {k : Cfg} {cc : ByteArray} {own : String} (C : Cx k cc own) {pc : Nat} {lv : List (Nat × Value)} {st : List Value} {σ : St} {x y : Int32} (d : decode cc pc = .ok (.iadd, 1)) (kk : WW k (pc + 1) lv (.int (x + y) :: st) σ) : WW k pc lv (.int y :: .int x :: st) σ := by
  obtain ⟨p, l, e, R, s, m, args, below, meth, c, g, nL, Q, c0, s0⟩ := k
  obtain ⟨⟨hx, hb, hml, hown, hts⟩, hK, hlk, hcs⟩ := C
  intro H locs ls hP hS hl
  exact lv_iadd hx hb d (kk H locs ls hP hS hl)
theorem ww_isub {k : Cfg} {cc : ByteArray} {own : String} (C : Cx k cc own) {pc : Nat} {lv : List (Nat × Value)} {st : List Value} {σ : St} {x y : Int32} (d : decode cc pc = .ok (.isub, 1)) (kk : WW k (pc + 1) lv (.int (x - y) :: st) σ) : WW k pc lv (.int y :: .int x :: st) σ := by
  obtain ⟨p, l, e, R, s, m, args, below, meth, c, g, nL, Q, c0, s0⟩ := k
  obtain ⟨⟨hx, hb, hml, hown, hts⟩, hK, hlk, hcs⟩ := C
  intro H locs ls hP hS hl
  exact lv_isub hx hb d (kk H locs ls hP hS hl)
theorem ww_imul {k : Cfg} {cc : ByteArray} {own : String} (C : Cx k cc own) {pc : Nat} {lv : List (Nat × Value)} {st : List Value} {σ : St} {x y : Int32} (d : decode cc pc = .ok (.imul, 1)) (kk : WW k (pc + 1) lv (.int (x * y) :: st) σ) : WW k pc lv (.int y :: .int x :: st) σ := by
  obtain ⟨p, l, e, R, s, m, args, below, meth, c, g, nL, Q, c0, s0⟩ := k
  obtain ⟨⟨hx, hb, hml, hown, hts⟩, hK, hlk, hcs⟩ := C
  intro H locs ls hP hS hl
  exact lv_imul hx hb d (kk H locs ls hP hS hl)
theorem ww_iand {k : Cfg} {cc : ByteArray} {own : String} (C : Cx k cc own) {pc : Nat} {lv : List (Nat × Value)} {st : List Value} {σ : St} {x y : Int32} (d : decode cc pc = .ok (.iand, 1)) (kk : WW k (pc + 1) lv (.int (x &&& y) :: st) σ) : WW k pc lv (.int y :: .int x :: st) σ := by
  obtain ⟨p, l, e, R, s, m, args, below, meth, c, g, nL, Q, c0, s0⟩ := k
  obtain ⟨⟨hx, hb, hml, hown, hts⟩, hK, hlk, hcs⟩ := C
  intro H locs ls hP hS hl
  exact lv_iand hx hb d (kk H locs ls hP hS hl)
theorem ww_ior {k : Cfg} {cc : ByteArray} {own : String} (C : Cx k cc own) {pc : Nat} {lv : List (Nat × Value)} {st : List Value} {σ : St} {x y : Int32} (d : decode cc pc = .ok (.ior, 1)) (kk : WW k (pc + 1) lv (.int (x ||| y) :: st) σ) : WW k pc lv (.int y :: .int x :: st) σ := by
  obtain ⟨p, l, e, R, s, m, args, below, meth, c, g, nL, Q, c0, s0⟩ := k
  obtain ⟨⟨hx, hb, hml, hown, hts⟩, hK, hlk, hcs⟩ := C
  intro H locs ls hP hS hl
  exact lv_ior hx hb d (kk H locs ls hP hS hl)
theorem ww_ixor {k : Cfg} {cc : ByteArray} {own : String} (C : Cx k cc own) {pc : Nat} {lv : List (Nat × Value)} {st : List Value} {σ : St} {x y : Int32} (d : decode cc pc = .ok (.ixor, 1)) (kk : WW k (pc + 1) lv (.int (x ^^^ y) :: st) σ) : WW k pc lv (.int y :: .int x :: st) σ := by
  obtain ⟨p, l, e, R, s, m, args, below, meth, c, g, nL, Q, c0, s0⟩ := k
  obtain ⟨⟨hx, hb, hml, hown, hts⟩, hK, hlk, hcs⟩ := C
  intro H locs ls hP hS hl
  exact lv_ixor hx hb d (kk H locs ls hP hS hl)
theorem ww_ishl {k : Cfg} {cc : ByteArray} {own : String} (C : Cx k cc own) {pc : Nat} {lv : List (Nat × Value)} {st : List Value} {σ : St} {x y : Int32} (d : decode cc pc = .ok (.ishl, 1)) (kk : WW k (pc + 1) lv (.int (shl x y) :: st) σ) : WW k pc lv (.int y :: .int x :: st) σ := by
  obtain ⟨p, l, e, R, s, m, args, below, meth, c, g, nL, Q, c0, s0⟩ := k
  obtain ⟨⟨hx, hb, hml, hown, hts⟩, hK, hlk, hcs⟩ := C
  intro H locs ls hP hS hl
  exact lv_ishl hx hb d (kk H locs ls hP hS hl)
theorem ww_ishr {k : Cfg} {cc : ByteArray} {own : String} (C : Cx k cc own) {pc : Nat} {lv : List (Nat × Value)} {st : List Value} {σ : St} {x y : Int32} (d : decode cc pc = .ok (.ishr, 1)) (kk : WW k (pc + 1) lv (.int (shr x y) :: st) σ) : WW k pc lv (.int y :: .int x :: st) σ := by
  obtain ⟨p, l, e, R, s, m, args, below, meth, c, g, nL, Q, c0, s0⟩ := k
  obtain ⟨⟨hx, hb, hml, hown, hts⟩, hK, hlk, hcs⟩ := C
  intro H locs ls hP hS hl
  exact lv_ishr hx hb d (kk H locs ls hP hS hl)
theorem ww_iushr {k : Cfg} {cc : ByteArray} {own : String} (C : Cx k cc own) {pc : Nat} {lv : List (Nat × Value)} {st : List Value} {σ : St} {x y : Int32} (d : decode cc pc = .ok (.iushr, 1)) (kk : WW k (pc + 1) lv (.int (ushr x y) :: st) σ) : WW k pc lv (.int y :: .int x :: st) σ := by
  obtain ⟨p, l, e, R, s, m, args, below, meth, c, g, nL, Q, c0, s0⟩ := k
  obtain ⟨⟨hx, hb, hml, hown, hts⟩, hK, hlk, hcs⟩ := C
  intro H locs ls hP hS hl
  exact lv_iushr hx hb d rfl (kk H locs ls hP hS hl)
theorem ww_idiv {k : Cfg} {cc : ByteArray} {own : String} (C : Cx k cc own) {pc : Nat} {lv : List (Nat × Value)} {st : List Value} {σ : St} {x y : Int32} (hne : ¬ y = 0) (d : decode cc pc = .ok (.idiv, 1)) (kk : WW k (pc + 1) lv (.int (x / y) :: st) σ) : WW k pc lv (.int y :: .int x :: st) σ := by
  obtain ⟨p, l, e, R, s, m, args, below, meth, c, g, nL, Q, c0, s0⟩ := k
  obtain ⟨⟨hx, hb, hml, hown, hts⟩, hK, hlk, hcs⟩ := C
  intro H locs ls hP hS hl
  exact lv_idiv hx hb d hne (kk H locs ls hP hS hl)
theorem ww_irem {k : Cfg} {cc : ByteArray} {own : String} (C : Cx k cc own) {pc : Nat} {lv : List (Nat × Value)} {st : List Value} {σ : St} {x y : Int32} (hne : ¬ y = 0) (d : decode cc pc = .ok (.irem, 1)) (kk : WW k (pc + 1) lv (.int (rem x y) :: st) σ) : WW k pc lv (.int y :: .int x :: st) σ := by
  obtain ⟨p, l, e, R, s, m, args, below, meth, c, g, nL, Q, c0, s0⟩ := k
  obtain ⟨⟨hx, hb, hml, hown, hts⟩, hK, hlk, hcs⟩ := C
  intro H locs ls hP hS hl
  exact lv_irem hx hb d hne (kk H locs ls hP hS hl)
theorem ww_ineg {k : Cfg} {cc : ByteArray} {own : String} (C : Cx k cc own) {pc : Nat} {lv : List (Nat × Value)} {st : List Value} {σ : St} {x : Int32} (d : decode cc pc = .ok (.ineg, 1)) (kk : WW k (pc + 1) lv (.int (-x) :: st) σ) : WW k pc lv (.int x :: st) σ := by
  obtain ⟨p, l, e, R, s, m, args, below, meth, c, g, nL, Q, c0, s0⟩ := k
  obtain ⟨⟨hx, hb, hml, hown, hts⟩, hK, hlk, hcs⟩ := C
  intro H locs ls hP hS hl
  exact lv_ineg hx hb d (kk H locs ls hP hS hl)
theorem ww_ladd {k : Cfg} {cc : ByteArray} {own : String} (C : Cx k cc own) {pc : Nat} {lv : List (Nat × Value)} {st : List Value} {σ : St} {x y : Int64} (d : decode cc pc = .ok (.ladd, 1)) (kk : WW k (pc + 1) lv (.long (x + y) :: st) σ) : WW k pc lv (.long y :: .long x :: st) σ := by
  obtain ⟨p, l, e, R, s, m, args, below, meth, c, g, nL, Q, c0, s0⟩ := k
  obtain ⟨⟨hx, hb, hml, hown, hts⟩, hK, hlk, hcs⟩ := C
  intro H locs ls hP hS hl
  exact lv_ladd hx hb d (kk H locs ls hP hS hl)
theorem ww_lsub {k : Cfg} {cc : ByteArray} {own : String} (C : Cx k cc own) {pc : Nat} {lv : List (Nat × Value)} {st : List Value} {σ : St} {x y : Int64} (d : decode cc pc = .ok (.lsub, 1)) (kk : WW k (pc + 1) lv (.long (x - y) :: st) σ) : WW k pc lv (.long y :: .long x :: st) σ := by
  obtain ⟨p, l, e, R, s, m, args, below, meth, c, g, nL, Q, c0, s0⟩ := k
  obtain ⟨⟨hx, hb, hml, hown, hts⟩, hK, hlk, hcs⟩ := C
  intro H locs ls hP hS hl
  exact lv_lsub hx hb d (kk H locs ls hP hS hl)
theorem ww_lmul {k : Cfg} {cc : ByteArray} {own : String} (C : Cx k cc own) {pc : Nat} {lv : List (Nat × Value)} {st : List Value} {σ : St} {x y : Int64} (d : decode cc pc = .ok (.lmul, 1)) (kk : WW k (pc + 1) lv (.long (x * y) :: st) σ) : WW k pc lv (.long y :: .long x :: st) σ := by
  obtain ⟨p, l, e, R, s, m, args, below, meth, c, g, nL, Q, c0, s0⟩ := k
  obtain ⟨⟨hx, hb, hml, hown, hts⟩, hK, hlk, hcs⟩ := C
  intro H locs ls hP hS hl
  exact lv_lmul hx hb d (kk H locs ls hP hS hl)
theorem ww_land {k : Cfg} {cc : ByteArray} {own : String} (C : Cx k cc own) {pc : Nat} {lv : List (Nat × Value)} {st : List Value} {σ : St} {x y : Int64} (d : decode cc pc = .ok (.land, 1)) (kk : WW k (pc + 1) lv (.long (x &&& y) :: st) σ) : WW k pc lv (.long y :: .long x :: st) σ := by
  obtain ⟨p, l, e, R, s, m, args, below, meth, c, g, nL, Q, c0, s0⟩ := k
  obtain ⟨⟨hx, hb, hml, hown, hts⟩, hK, hlk, hcs⟩ := C
  intro H locs ls hP hS hl
  exact lv_land hx hb d (kk H locs ls hP hS hl)
theorem ww_lcmp {k : Cfg} {cc : ByteArray} {own : String} (C : Cx k cc own) {pc : Nat} {lv : List (Nat × Value)} {st : List Value} {σ : St} {x y : Int64} (d : decode cc pc = .ok (.lcmp, 1)) (kk : WW k (pc + 1) lv (.int (lg_cmp x y) :: st) σ) : WW k pc lv (.long y :: .long x :: st) σ := by
  obtain ⟨p, l, e, R, s, m, args, below, meth, c, g, nL, Q, c0, s0⟩ := k
  obtain ⟨⟨hx, hb, hml, hown, hts⟩, hK, hlk, hcs⟩ := C
  intro H locs ls hP hS hl
  exact W.lcmp hx hb d (kk H locs ls hP hS hl)
theorem ww_i2l {k : Cfg} {cc : ByteArray} {own : String} (C : Cx k cc own) {pc : Nat} {lv : List (Nat × Value)} {st : List Value} {σ : St} {x : Int32} (d : decode cc pc = .ok (.i2l, 1)) (kk : WW k (pc + 1) lv (.long (Int32.toInt64 x) :: st) σ) : WW k pc lv (.int x :: st) σ := by
  obtain ⟨p, l, e, R, s, m, args, below, meth, c, g, nL, Q, c0, s0⟩ := k
  obtain ⟨⟨hx, hb, hml, hown, hts⟩, hK, hlk, hcs⟩ := C
  intro H locs ls hP hS hl
  exact lv_i2l hx hb d rfl (kk H locs ls hP hS hl)
theorem ww_l2i {k : Cfg} {cc : ByteArray} {own : String} (C : Cx k cc own) {pc : Nat} {lv : List (Nat × Value)} {st : List Value} {σ : St} {x : Int64} (d : decode cc pc = .ok (.l2i, 1)) (kk : WW k (pc + 1) lv (.int (Int64.toInt32 x) :: st) σ) : WW k pc lv (.long x :: st) σ := by
  obtain ⟨p, l, e, R, s, m, args, below, meth, c, g, nL, Q, c0, s0⟩ := k
  obtain ⟨⟨hx, hb, hml, hown, hts⟩, hK, hlk, hcs⟩ := C
  intro H locs ls hP hS hl
  exact lv_l2i hx hb d rfl (kk H locs ls hP hS hl)
theorem ww_i2b {k : Cfg} {cc : ByteArray} {own : String} (C : Cx k cc own) {pc : Nat} {lv : List (Nat × Value)} {st : List Value} {σ : St} {x : Int32} (d : decode cc pc = .ok (.i2b, 1)) (kk : WW k (pc + 1) lv (.int (i2b x) :: st) σ) : WW k pc lv (.int x :: st) σ := by
  obtain ⟨p, l, e, R, s, m, args, below, meth, c, g, nL, Q, c0, s0⟩ := k
  obtain ⟨⟨hx, hb, hml, hown, hts⟩, hK, hlk, hcs⟩ := C
  intro H locs ls hP hS hl
  exact lv_i2b hx hb d rfl (kk H locs ls hP hS hl)
theorem ww_dup {k : Cfg} {cc : ByteArray} {own : String} (C : Cx k cc own) {pc : Nat} {lv : List (Nat × Value)} {st : List Value} {σ : St} {v : Value} (h1 : v.category = 1) (d : decode cc pc = .ok (.dup, 1)) (kk : WW k (pc + 1) lv (v :: v :: st) σ) : WW k pc lv (v :: st) σ := by
  obtain ⟨p, l, e, R, s, m, args, below, meth, c, g, nL, Q, c0, s0⟩ := k
  obtain ⟨⟨hx, hb, hml, hown, hts⟩, hK, hlk, hcs⟩ := C
  intro H locs ls hP hS hl
  exact lv_dup hx hb d h1 (kk H locs ls hP hS hl)
theorem ww_dup_x1 {k : Cfg} {cc : ByteArray} {own : String} (C : Cx k cc own) {pc : Nat} {lv : List (Nat × Value)} {st : List Value} {σ : St} {v w : Value} (h1 : v.category = 1) (h2 : w.category = 1) (d : decode cc pc = .ok (.dup_x1, 1)) (kk : WW k (pc + 1) lv (v :: w :: v :: st) σ) : WW k pc lv (v :: w :: st) σ := by
  obtain ⟨p, l, e, R, s, m, args, below, meth, c, g, nL, Q, c0, s0⟩ := k
  obtain ⟨⟨hx, hb, hml, hown, hts⟩, hK, hlk, hcs⟩ := C
  intro H locs ls hP hS hl
  exact lv_dup_x1 hx hb d h1 h2 (kk H locs ls hP hS hl)
theorem ww_dup2 {k : Cfg} {cc : ByteArray} {own : String} (C : Cx k cc own) {pc : Nat} {lv : List (Nat × Value)} {st : List Value} {σ : St} {v w : Value} (h1 : v.category = 1) (h2 : w.category = 1) (d : decode cc pc = .ok (.dup2, 1)) (kk : WW k (pc + 1) lv (v :: w :: v :: w :: st) σ) : WW k pc lv (v :: w :: st) σ := by
  obtain ⟨p, l, e, R, s, m, args, below, meth, c, g, nL, Q, c0, s0⟩ := k
  obtain ⟨⟨hx, hb, hml, hown, hts⟩, hK, hlk, hcs⟩ := C
  intro H locs ls hP hS hl
  exact lv_dup2_11 hx hb d h1 h2 (kk H locs ls hP hS hl)
theorem ww_pop {k : Cfg} {cc : ByteArray} {own : String} (C : Cx k cc own) {pc : Nat} {lv : List (Nat × Value)} {st : List Value} {σ : St} {v : Value} (h1 : v.category = 1) (d : decode cc pc = .ok (.pop, 1)) (kk : WW k (pc + 1) lv st σ) : WW k pc lv (v :: st) σ := by
  obtain ⟨p, l, e, R, s, m, args, below, meth, c, g, nL, Q, c0, s0⟩ := k
  obtain ⟨⟨hx, hb, hml, hown, hts⟩, hK, hlk, hcs⟩ := C
  intro H locs ls hP hS hl
  exact lv_pop hx hb d h1 (kk H locs ls hP hS hl)
theorem ww_icmp_eq {k : Cfg} {cc : ByteArray} {own : String} (C : Cx k cc own) {pc : Nat} {lv : List (Nat × Value)} {st : List Value} {σ : St} {x y : Int32} {off : Int} (tgt : Nat) {α : Type} {A B : Option α} {r : α} (d : decode cc pc = .ok (.if_icmp .eq off, 3)) (ht : (pc : Int) + off = (tgt : Int)) (h : (if x = y then A else B) = some r) (k1 : A = some r → WW k tgt lv st σ) (k2 : B = some r → WW k (pc + 3) lv st σ) : WW k pc lv (.int y :: .int x :: st) σ := by
  obtain ⟨p, l, e, R, s, m, args, below, meth, c, g, nL, Q, c0, s0⟩ := k
  obtain ⟨⟨hx, hb, hml, hown, hts⟩, hK, hlk, hcs⟩ := C
  intro H locs ls hP hS hl
  refine lv_icmp_eq hx hb d ht (fun hc => ?_) (fun hc => ?_)
  · exact k1 (by rw [if_pos hc] at h; exact h) H locs ls hP hS hl
  · exact k2 (by rw [if_neg (by first | exact hc | exact fun q => q hc)] at h; exact h) H locs ls hP hS hl
theorem ww_if_eq {k : Cfg} {cc : ByteArray} {own : String} (C : Cx k cc own) {pc : Nat} {lv : List (Nat × Value)} {st : List Value} {σ : St} {x : Int32} {off : Int} (tgt : Nat) {α : Type} {A B : Option α} {r : α} (d : decode cc pc = .ok (.ifCond .eq off, 3)) (ht : (pc : Int) + off = (tgt : Int)) (h : (if x = 0 then A else B) = some r) (k1 : A = some r → WW k tgt lv st σ) (k2 : B = some r → WW k (pc + 3) lv st σ) : WW k pc lv (.int x :: st) σ := by
  obtain ⟨p, l, e, R, s, m, args, below, meth, c, g, nL, Q, c0, s0⟩ := k
  obtain ⟨⟨hx, hb, hml, hown, hts⟩, hK, hlk, hcs⟩ := C
  intro H locs ls hP hS hl
  refine lv_if_eq hx hb d ht (fun hc => ?_) (fun hc => ?_)
  · exact k1 (by rw [if_pos hc] at h; exact h) H locs ls hP hS hl
  · exact k2 (by rw [if_neg (by first | exact hc | exact fun q => q hc)] at h; exact h) H locs ls hP hS hl
theorem ww_icmp_ne {k : Cfg} {cc : ByteArray} {own : String} (C : Cx k cc own) {pc : Nat} {lv : List (Nat × Value)} {st : List Value} {σ : St} {x y : Int32} {off : Int} (tgt : Nat) {α : Type} {A B : Option α} {r : α} (d : decode cc pc = .ok (.if_icmp .ne off, 3)) (ht : (pc : Int) + off = (tgt : Int)) (h : (if ¬ x = y then A else B) = some r) (k1 : A = some r → WW k tgt lv st σ) (k2 : B = some r → WW k (pc + 3) lv st σ) : WW k pc lv (.int y :: .int x :: st) σ := by
  obtain ⟨p, l, e, R, s, m, args, below, meth, c, g, nL, Q, c0, s0⟩ := k
  obtain ⟨⟨hx, hb, hml, hown, hts⟩, hK, hlk, hcs⟩ := C
  intro H locs ls hP hS hl
  refine lv_icmp_ne hx hb d ht (fun hc => ?_) (fun hc => ?_)
  · exact k1 (by rw [if_pos hc] at h; exact h) H locs ls hP hS hl
  · exact k2 (by rw [if_neg (by first | exact hc | exact fun q => q hc)] at h; exact h) H locs ls hP hS hl
theorem ww_if_ne {k : Cfg} {cc : ByteArray} {own : String} (C : Cx k cc own) {pc : Nat} {lv : List (Nat × Value)} {st : List Value} {σ : St} {x : Int32} {off : Int} (tgt : Nat) {α : Type} {A B : Option α} {r : α} (d : decode cc pc = .ok (.ifCond .ne off, 3)) (ht : (pc : Int) + off = (tgt : Int)) (h : (if ¬ x = 0 then A else B) = some r) (k1 : A = some r → WW k tgt lv st σ) (k2 : B = some r → WW k (pc + 3) lv st σ) : WW k pc lv (.int x :: st) σ := by
  obtain ⟨p, l, e, R, s, m, args, below, meth, c, g, nL, Q, c0, s0⟩ := k
  obtain ⟨⟨hx, hb, hml, hown, hts⟩, hK, hlk, hcs⟩ := C
  intro H locs ls hP hS hl
  refine lv_if_ne hx hb d ht (fun hc => ?_) (fun hc => ?_)
  · exact k1 (by rw [if_pos hc] at h; exact h) H locs ls hP hS hl
  · exact k2 (by rw [if_neg (by first | exact hc | exact fun q => q hc)] at h; exact h) H locs ls hP hS hl
theorem ww_icmp_lt {k : Cfg} {cc : ByteArray} {own : String} (C : Cx k cc own) {pc : Nat} {lv : List (Nat × Value)} {st : List Value} {σ : St} {x y : Int32} {off : Int} (tgt : Nat) {α : Type} {A B : Option α} {r : α} (d : decode cc pc = .ok (.if_icmp .lt off, 3)) (ht : (pc : Int) + off = (tgt : Int)) (h : (if x < y then A else B) = some r) (k1 : A = some r → WW k tgt lv st σ) (k2 : B = some r → WW k (pc + 3) lv st σ) : WW k pc lv (.int y :: .int x :: st) σ := by
  obtain ⟨p, l, e, R, s, m, args, below, meth, c, g, nL, Q, c0, s0⟩ := k
  obtain ⟨⟨hx, hb, hml, hown, hts⟩, hK, hlk, hcs⟩ := C
  intro H locs ls hP hS hl
  refine lv_icmp_lt hx hb d ht (fun hc => ?_) (fun hc => ?_)
  · exact k1 (by rw [if_pos hc] at h; exact h) H locs ls hP hS hl
  · exact k2 (by rw [if_neg (by first | exact hc | exact fun q => q hc)] at h; exact h) H locs ls hP hS hl
theorem ww_if_lt {k : Cfg} {cc : ByteArray} {own : String} (C : Cx k cc own) {pc : Nat} {lv : List (Nat × Value)} {st : List Value} {σ : St} {x : Int32} {off : Int} (tgt : Nat) {α : Type} {A B : Option α} {r : α} (d : decode cc pc = .ok (.ifCond .lt off, 3)) (ht : (pc : Int) + off = (tgt : Int)) (h : (if x < 0 then A else B) = some r) (k1 : A = some r → WW k tgt lv st σ) (k2 : B = some r → WW k (pc + 3) lv st σ) : WW k pc lv (.int x :: st) σ := by
  obtain ⟨p, l, e, R, s, m, args, below, meth, c, g, nL, Q, c0, s0⟩ := k
  obtain ⟨⟨hx, hb, hml, hown, hts⟩, hK, hlk, hcs⟩ := C
  intro H locs ls hP hS hl
  refine lv_if_lt hx hb d ht (fun hc => ?_) (fun hc => ?_)
  · exact k1 (by rw [if_pos hc] at h; exact h) H locs ls hP hS hl
  · exact k2 (by rw [if_neg (by first | exact hc | exact fun q => q hc)] at h; exact h) H locs ls hP hS hl
theorem ww_icmp_ge {k : Cfg} {cc : ByteArray} {own : String} (C : Cx k cc own) {pc : Nat} {lv : List (Nat × Value)} {st : List Value} {σ : St} {x y : Int32} {off : Int} (tgt : Nat) {α : Type} {A B : Option α} {r : α} (d : decode cc pc = .ok (.if_icmp .ge off, 3)) (ht : (pc : Int) + off = (tgt : Int)) (h : (if y ≤ x then A else B) = some r) (k1 : A = some r → WW k tgt lv st σ) (k2 : B = some r → WW k (pc + 3) lv st σ) : WW k pc lv (.int y :: .int x :: st) σ := by
  obtain ⟨p, l, e, R, s, m, args, below, meth, c, g, nL, Q, c0, s0⟩ := k
  obtain ⟨⟨hx, hb, hml, hown, hts⟩, hK, hlk, hcs⟩ := C
  intro H locs ls hP hS hl
  refine lv_icmp_ge hx hb d ht (fun hc => ?_) (fun hc => ?_)
  · exact k1 (by rw [if_pos hc] at h; exact h) H locs ls hP hS hl
  · exact k2 (by rw [if_neg (by first | exact hc | exact fun q => q hc)] at h; exact h) H locs ls hP hS hl
theorem ww_if_ge {k : Cfg} {cc : ByteArray} {own : String} (C : Cx k cc own) {pc : Nat} {lv : List (Nat × Value)} {st : List Value} {σ : St} {x : Int32} {off : Int} (tgt : Nat) {α : Type} {A B : Option α} {r : α} (d : decode cc pc = .ok (.ifCond .ge off, 3)) (ht : (pc : Int) + off = (tgt : Int)) (h : (if 0 ≤ x then A else B) = some r) (k1 : A = some r → WW k tgt lv st σ) (k2 : B = some r → WW k (pc + 3) lv st σ) : WW k pc lv (.int x :: st) σ := by
  obtain ⟨p, l, e, R, s, m, args, below, meth, c, g, nL, Q, c0, s0⟩ := k
  obtain ⟨⟨hx, hb, hml, hown, hts⟩, hK, hlk, hcs⟩ := C
  intro H locs ls hP hS hl
  refine lv_if_ge hx hb d ht (fun hc => ?_) (fun hc => ?_)
  · exact k1 (by rw [if_pos hc] at h; exact h) H locs ls hP hS hl
  · exact k2 (by rw [if_neg (by first | exact hc | exact fun q => q hc)] at h; exact h) H locs ls hP hS hl
theorem ww_icmp_gt {k : Cfg} {cc : ByteArray} {own : String} (C : Cx k cc own) {pc : Nat} {lv : List (Nat × Value)} {st : List Value} {σ : St} {x y : Int32} {off : Int} (tgt : Nat) {α : Type} {A B : Option α} {r : α} (d : decode cc pc = .ok (.if_icmp .gt off, 3)) (ht : (pc : Int) + off = (tgt : Int)) (h : (if y < x then A else B) = some r) (k1 : A = some r → WW k tgt lv st σ) (k2 : B = some r → WW k (pc + 3) lv st σ) : WW k pc lv (.int y :: .int x :: st) σ := by
  obtain ⟨p, l, e, R, s, m, args, below, meth, c, g, nL, Q, c0, s0⟩ := k
  obtain ⟨⟨hx, hb, hml, hown, hts⟩, hK, hlk, hcs⟩ := C
  intro H locs ls hP hS hl
  refine lv_icmp_gt hx hb d ht (fun hc => ?_) (fun hc => ?_)
  · exact k1 (by rw [if_pos hc] at h; exact h) H locs ls hP hS hl
  · exact k2 (by rw [if_neg (by first | exact hc | exact fun q => q hc)] at h; exact h) H locs ls hP hS hl
theorem ww_if_gt {k : Cfg} {cc : ByteArray} {own : String} (C : Cx k cc own) {pc : Nat} {lv : List (Nat × Value)} {st : List Value} {σ : St} {x : Int32} {off : Int} (tgt : Nat) {α : Type} {A B : Option α} {r : α} (d : decode cc pc = .ok (.ifCond .gt off, 3)) (ht : (pc : Int) + off = (tgt : Int)) (h : (if 0 < x then A else B) = some r) (k1 : A = some r → WW k tgt lv st σ) (k2 : B = some r → WW k (pc + 3) lv st σ) : WW k pc lv (.int x :: st) σ := by
  obtain ⟨p, l, e, R, s, m, args, below, meth, c, g, nL, Q, c0, s0⟩ := k
  obtain ⟨⟨hx, hb, hml, hown, hts⟩, hK, hlk, hcs⟩ := C
  intro H locs ls hP hS hl
  refine lv_if_gt hx hb d ht (fun hc => ?_) (fun hc => ?_)
  · exact k1 (by rw [if_pos hc] at h; exact h) H locs ls hP hS hl
  · exact k2 (by rw [if_neg (by first | exact hc | exact fun q => q hc)] at h; exact h) H locs ls hP hS hl
theorem ww_icmp_le {k : Cfg} {cc : ByteArray} {own : String} (C : Cx k cc own) {pc : Nat} {lv : List (Nat × Value)} {st : List Value} {σ : St} {x y : Int32} {off : Int} (tgt : Nat) {α : Type} {A B : Option α} {r : α} (d : decode cc pc = .ok (.if_icmp .le off, 3)) (ht : (pc : Int) + off = (tgt : Int)) (h : (if x ≤ y then A else B) = some r) (k1 : A = some r → WW k tgt lv st σ) (k2 : B = some r → WW k (pc + 3) lv st σ) : WW k pc lv (.int y :: .int x :: st) σ := by
  obtain ⟨p, l, e, R, s, m, args, below, meth, c, g, nL, Q, c0, s0⟩ := k
  obtain ⟨⟨hx, hb, hml, hown, hts⟩, hK, hlk, hcs⟩ := C
  intro H locs ls hP hS hl
  refine lv_icmp_le hx hb d ht (fun hc => ?_) (fun hc => ?_)
  · exact k1 (by rw [if_pos hc] at h; exact h) H locs ls hP hS hl
  · exact k2 (by rw [if_neg (by first | exact hc | exact fun q => q hc)] at h; exact h) H locs ls hP hS hl
theorem ww_if_le {k : Cfg} {cc : ByteArray} {own : String} (C : Cx k cc own) {pc : Nat} {lv : List (Nat × Value)} {st : List Value} {σ : St} {x : Int32} {off : Int} (tgt : Nat) {α : Type} {A B : Option α} {r : α} (d : decode cc pc = .ok (.ifCond .le off, 3)) (ht : (pc : Int) + off = (tgt : Int)) (h : (if x ≤ 0 then A else B) = some r) (k1 : A = some r → WW k tgt lv st σ) (k2 : B = some r → WW k (pc + 3) lv st σ) : WW k pc lv (.int x :: st) σ := by
  obtain ⟨p, l, e, R, s, m, args, below, meth, c, g, nL, Q, c0, s0⟩ := k
  obtain ⟨⟨hx, hb, hml, hown, hts⟩, hK, hlk, hcs⟩ := C
  intro H locs ls hP hS hl
  refine lv_if_le hx hb d ht (fun hc => ?_) (fun hc => ?_)
  · exact k1 (by rw [if_pos hc] at h; exact h) H locs ls hP hS hl
  · exact k2 (by rw [if_neg (by first | exact hc | exact fun q => q hc)] at h; exact h) H locs ls hP hS hl
theorem ww_goto {k : Cfg} {cc : ByteArray} {own : String} (C : Cx k cc own) {pc : Nat} {lv : List (Nat × Value)} {st : List Value} {σ : St} {off : Int} (tgt : Nat) (d : decode cc pc = .ok (.goto off, 3)) (ht : (pc : Int) + off = (tgt : Int)) (kk : WW k tgt lv st σ) : WW k pc lv st σ := by
  obtain ⟨p, l, e, R, s, m, args, below, meth, c, g, nL, Q, c0, s0⟩ := k
  obtain ⟨⟨hx, hb, hml, hown, hts⟩, hK, hlk, hcs⟩ := C
  intro H locs ls hP hS hl
  exact lv_goto hx hb d ht (kk H locs ls hP hS hl)
theorem ww_lookup {k : Cfg} {cc : ByteArray} {own : String} (C : Cx k cc own) {pc : Nat} {lv : List (Nat × Value)} {st : List Value} {σ : St} {dflt : Int} {ps : Array (Int × Int)} {len : Nat} {x : Int32} {off : Int} (tgt : Nat) (d : decode cc pc = .ok (.lookupswitch dflt ps, len)) (hp : (ps.toList.zip (ps.toList.drop 1)).all (fun (a, next) => a.1 < next.1) = true) (ho : Op.lookupswitch.offset ps.toList dflt x.toInt = off) (ht : (pc : Int) + off = (tgt : Int)) (kk : WW k tgt lv st σ) : WW k pc lv (.int x :: st) σ := by
  obtain ⟨p, l, e, R, s, m, args, below, meth, c, g, nL, Q, c0, s0⟩ := k
  obtain ⟨⟨hx, hb, hml, hown, hts⟩, hK, hlk, hcs⟩ := C
  intro H locs ls hP hS hl
  exact lv_lookup hx hb d hp ho ht (kk H locs ls hP hS hl)
theorem ww_tabIn {k : Cfg} {cc : ByteArray} {own : String} (C : Cx k cc own) {pc : Nat} {lv : List (Nat × Value)} {st : List Value} {σ : St} {dflt lo hi : Int} {offs : Array Int} {len : Nat} {x : Int32} {off : Int} (tgt : Nat) (d : decode cc pc = .ok (.tableswitch dflt lo hi offs, len)) (h1 : ¬ x.toInt < lo) (h2 : ¬ hi < x.toInt) (ho : offs[(x.toInt - lo).toNat]? = some off) (ht : (pc : Int) + off = (tgt : Int)) (kk : WW k tgt lv st σ) : WW k pc lv (.int x :: st) σ := by
  obtain ⟨p, l, e, R, s, m, args, below, meth, c, g, nL, Q, c0, s0⟩ := k
  obtain ⟨⟨hx, hb, hml, hown, hts⟩, hK, hlk, hcs⟩ := C
  intro H locs ls hP hS hl
  exact lv_tableIn hx hb d h1 h2 ho ht (kk H locs ls hP hS hl)
theorem ww_tabOut {k : Cfg} {cc : ByteArray} {own : String} (C : Cx k cc own) {pc : Nat} {lv : List (Nat × Value)} {st : List Value} {σ : St} {dflt lo hi : Int} {offs : Array Int} {len : Nat} {x : Int32} (tgt : Nat) (d : decode cc pc = .ok (.tableswitch dflt lo hi offs, len)) (h : x.toInt < lo ∨ hi < x.toInt) (ht : (pc : Int) + dflt = (tgt : Int)) (kk : WW k tgt lv st σ) : WW k pc lv (.int x :: st) σ := by
  obtain ⟨p, l, e, R, s, m, args, below, meth, c, g, nL, Q, c0, s0⟩ := k
  obtain ⟨⟨hx, hb, hml, hown, hts⟩, hK, hlk, hcs⟩ := C
  intro H locs ls hP hS hl
  exact lv_tableOut hx hb d h ht (kk H locs ls hP hS hl)
theorem ww_nmi {k : Cfg} {pc : Nat} {lv : List (Nat × Value)} {st : List Value} {σ : St} {x : Int32} {α : Type} {F : Int32 → Option α} {r : α} (h : nm x F = some r) (kk : ∀ v, F v = some r → WW k pc lv (.int v :: st) σ) : WW k pc lv (.int x :: st) σ := kk x h
theorem ww_nml {k : Cfg} {pc : Nat} {lv : List (Nat × Value)} {st : List Value} {σ : St} {x : Int64} {α : Type} {F : Int64 → Option α} {r : α} (h : nm x F = some r) (kk : ∀ v, F v = some r → WW k pc lv (.long v :: st) σ) : WW k pc lv (.long x :: st) σ := kk x h
theorem ww_nm2 {k : Cfg} {pc : Nat} {lv : List (Nat × Value)} {st : List Value} {σ : St} {x : Int32} {w : Value} {α : Type} {F : Int32 → Option α} {r : α} (h : nm x F = some r) (kk : ∀ v, F v = some r → WW k pc lv (w :: .int v :: st) σ) : WW k pc lv (w :: .int x :: st) σ := kk x h
theorem ww_lv {k : Cfg} {pc : Nat} {lv lv' : List (Nat × Value)} {st : List Value} {σ : St} (ks : List Nat) (hk : lv_pick lv ks = lv') (kk : WW k pc lv' st σ) : WW k pc lv st σ := by
  obtain ⟨p, l, e, R, s, m, args, below, meth, c, g, nL, Q, c0, s0⟩ := k
  exact fun H locs ls hP hS hl => kk H locs ls hP hS (lv_sub hl ks hk)
theorem ww_geti {k : Cfg} {cc : ByteArray} {own : String} (C : Cx k cc own) {pc : Nat} {lv : List (Nat × Value)} {st : List Value} {σ : St} {K Co : Nat} {CN : String} {T : u_T} {ty0 : Nat → FieldType} (B : KO K Co CN T ty0) {index o : Nat} (j : Nat) (ho : kd o = K) (hj : j < Co) (hlink : Cond.fieldLink own index CN (T j).2.1 (T j).2.2.1 ∈ GT) (hsame : (T j).1 = CN) (hr : rf K j = 0) (d : decode cc pc = .ok (.getfield index, 3)) (kk : WW k (pc + 3) lv (.int (σ o j) :: st) σ) : WW k pc lv (.ref (ad k o) :: st) σ := by
  obtain ⟨p, l, e, R, s, m, args, below, meth, c, g, nL, Q, c0, s0⟩ := k
  obtain ⟨⟨hx, hb, hml, hown, hts⟩, hK, hlk, hcs⟩ := C
  intro H locs ls hP hS hl
  obtain ⟨hin, hcl, hnf, hlt, hty, hnm⟩ := B
  have hoN : o < NC := kd_lt (by rw [ho]; omega)
  subst hnf
  refine va_get (D := g.1) (ci := K) (v := .int (σ o j)) (C := CN) (T := T) (N := nf K) hx hb hts hin hown hK.1 hP o ((wd_at g σ hoN).trans (by rw [ce_o ho hlt])) hcl j hj (hts _ hlink) (fun x9 h9 => by rw [← hsame]; exact h9) ((fs_at _ hj).trans (by rw [fv_i ho hr])) d (kk H locs ls hP hS hl)
theorem ww_getr {k : Cfg} {cc : ByteArray} {own : String} (C : Cx k cc own) {pc : Nat} {lv : List (Nat × Value)} {st : List Value} {σ : St} {K Co : Nat} {CN : String} {T : u_T} {ty0 : Nat → FieldType} (B : KO K Co CN T ty0) {index o : Nat} (j : Nat) (ho : kd o = K) (hj : j < Co) (hlink : Cond.fieldLink own index CN (T j).2.1 (T j).2.2.1 ∈ GT) (hsame : (T j).1 = CN) (hr : rf K j = 1) (d : decode cc pc = .ok (.getfield index, 3)) (kk : WW k (pc + 3) lv (.ref (ad k (ch o j)) :: st) σ) : WW k pc lv (.ref (ad k o) :: st) σ := by
  obtain ⟨p, l, e, R, s, m, args, below, meth, c, g, nL, Q, c0, s0⟩ := k
  obtain ⟨⟨hx, hb, hml, hown, hts⟩, hK, hlk, hcs⟩ := C
  intro H locs ls hP hS hl
  obtain ⟨hin, hcl, hnf, hlt, hty, hnm⟩ := B
  have hoN : o < NC := kd_lt (by rw [ho]; omega)
  subst hnf
  refine va_get (D := g.1) (ci := K) (v := .ref (g.2.2.2.2 (ch o j))) (C := CN) (T := T) (N := nf K) hx hb hts hin hown hK.1 hP o ((wd_at g σ hoN).trans (by rw [ce_o ho hlt])) hcl j hj (hts _ hlink) (fun x9 h9 => by rw [← hsame]; exact h9) ((fs_at _ hj).trans (by rw [fv_r ho hr])) d (kk H locs ls hP hS hl)
theorem ww_getm {k : Cfg} {cc : ByteArray} {own : String} (C : Cx k cc own) {pc : Nat} {lv : List (Nat × Value)} {st : List Value} {σ : St} {K Co : Nat} {CN : String} {T : u_T} {ty0 : Nat → FieldType} (B : KO K Co CN T ty0) {index o : Nat} (j : Nat) (ho : kd o = K) (hj : j < Co) (hlink : Cond.fieldLink own index CN (T j).2.1 (T j).2.2.1 ∈ GT) (hsame : (T j).1 = CN) (hr : rf K j = 2) (d : decode cc pc = .ok (.getfield index, 3)) (kk : WW k (pc + 3) lv (.ref (ad k (rn (σ o j))) :: st) σ) : WW k pc lv (.ref (ad k o) :: st) σ := by
  obtain ⟨p, l, e, R, s, m, args, below, meth, c, g, nL, Q, c0, s0⟩ := k
  obtain ⟨⟨hx, hb, hml, hown, hts⟩, hK, hlk, hcs⟩ := C
  intro H locs ls hP hS hl
  obtain ⟨hin, hcl, hnf, hlt, hty, hnm⟩ := B
  have hoN : o < NC := kd_lt (by rw [ho]; omega)
  subst hnf
  refine va_get (D := g.1) (ci := K) (v := .ref (g.2.2.2.2 (rn (σ o j)))) (C := CN) (T := T) (N := nf K) hx hb hts hin hown hK.1 hP o ((wd_at g σ hoN).trans (by rw [ce_o ho hlt])) hcl j hj (hts _ hlink) (fun x9 h9 => by rw [← hsame]; exact h9) ((fs_at _ hj).trans (by rw [fv_m ho hr])) d (kk H locs ls hP hS hl)
theorem ww_puti {k : Cfg} {cc : ByteArray} {own : String} (C : Cx k cc own) {pc : Nat} {lv : List (Nat × Value)} {st : List Value} {σ : St} {K Co : Nat} {CN : String} {T : u_T} {ty0 : Nat → FieldType} (B : KO K Co CN T ty0) {index o : Nat} (j : Nat) (ho : kd o = K) (hj : j < Co) (hlink : Cond.fieldLink own index CN (T j).2.1 (T j).2.2.1 ∈ GT) (hsame : (T j).1 = CN) (hfin : (T j).2.2.2 = false) (hr : rf K j = 0) {v : Int32} (hI : ty0 j = .int) {α : Type} {F : St → Option α} {r : α} (d : decode cc pc = .ok (.putfield index, 3)) (h : nm (s2 σ o j v) F = some r) (kk : ∀ σ1, F σ1 = some r → WW k (pc + 3) lv st σ1) : WW k pc lv (.int v :: .ref (ad k o) :: st) σ := by
  obtain ⟨p, l, e, R, s, m, args, below, meth, c, g, nL, Q, c0, s0⟩ := k
  obtain ⟨⟨hx, hb, hml, hown, hts⟩, hK, hlk, hcs⟩ := C
  intro H locs ls hP hS hl
  obtain ⟨hin, hcl, hnf, hlt, hty, hnm⟩ := B
  have hoN : o < NC := kd_lt (by rw [ho]; omega)
  subst hnf
  refine va_put (D := g.1) (A := AA g s.heap.size) (ci := K) (ty := ty0 j) (C := CN) (T := T) (N := nf K) hx hb hts hin ty0 hty hnm hown hK.1 hP (wd_D hK.2.1 σ _) hS o ((wd_at g σ hoN).trans (by rw [ce_o ho hlt])) hcl j hj (hts _ hlink) (fun x9 h9 => by rw [← hsame]; exact h9) hfin (hty j hj) (by rw [hI]; rfl) (by rw [hI]; rfl) (by simp; exact hj) d (fun H1 locs1 hP1 hD1 hS1 => ?_)
  refine kk (s2 σ o j v) h H1 locs1 ls ?_ hS1 hl
  unfold s2
  rw [← wd_set g σ hoN, ce_o ho hlt]
  rw [show Value.int v = fv g.2.2.2.2 o (upd (σ o) j v) j from by rw [fv_i ho hr]; simp [upd]] at hP1
  rw [fs_set _ _ hj (fun i hi => by simp [fv, upd, hi])] at hP1
  exact hP1
theorem ww_putz {k : Cfg} {cc : ByteArray} {own : String} (C : Cx k cc own) {pc : Nat} {lv : List (Nat × Value)} {st : List Value} {σ : St} {K Co : Nat} {CN : String} {T : u_T} {ty0 : Nat → FieldType} (B : KO K Co CN T ty0) {index o : Nat} (j : Nat) (ho : kd o = K) (hj : j < Co) (hlink : Cond.fieldLink own index CN (T j).2.1 (T j).2.2.1 ∈ GT) (hsame : (T j).1 = CN) (hfin : (T j).2.2.2 = false) (hr : rf K j = 0) {v : Int32} (hI : ty0 j = .boolean) {α : Type} {F : St → Option α} {r : α} (d : decode cc pc = .ok (.putfield index, 3)) (h : zb v (nm (s2 σ o j v) F) = some r) (kk : ∀ σ1, F σ1 = some r → WW k (pc + 3) lv st σ1) : WW k pc lv (.int v :: .ref (ad k o) :: st) σ := by
  obtain ⟨p, l, e, R, s, m, args, below, meth, c, g, nL, Q, c0, s0⟩ := k
  obtain ⟨⟨hx, hb, hml, hown, hts⟩, hK, hlk, hcs⟩ := C
  intro H locs ls hP hS hl
  obtain ⟨hin, hcl, hnf, hlt, hty, hnm⟩ := B
  have hoN : o < NC := kd_lt (by rw [ho]; omega)
  subst hnf
  obtain ⟨hz, h⟩ := zb_some h
  refine va_put (D := g.1) (A := AA g s.heap.size) (ci := K) (ty := ty0 j) (C := CN) (T := T) (N := nf K) hx hb hts hin ty0 hty hnm hown hK.1 hP (wd_D hK.2.1 σ _) hS o ((wd_at g σ hoN).trans (by rw [ce_o ho hlt])) hcl j hj (hts _ hlink) (fun x9 h9 => by rw [← hsame]; exact h9) hfin (hty j hj) (by rw [hI]; rcases hz with rfl | rfl <;> rfl) (by rw [hI]; rcases hz with rfl | rfl <;> rfl) (by simp; exact hj) d (fun H1 locs1 hP1 hD1 hS1 => ?_)
  refine kk (s2 σ o j v) h H1 locs1 ls ?_ hS1 hl
  unfold s2
  rw [← wd_set g σ hoN, ce_o ho hlt]
  rw [show Value.int v = fv g.2.2.2.2 o (upd (σ o) j v) j from by rw [fv_i ho hr]; simp [upd]] at hP1
  rw [fs_set _ _ hj (fun i hi => by simp [fv, upd, hi])] at hP1
  exact hP1
theorem ww_putZ {k : Cfg} {cc : ByteArray} {own : String} (C : Cx k cc own) {pc : Nat} {lv : List (Nat × Value)} {st : List Value} {σ : St} {K Co : Nat} {CN : String} {T : u_T} {ty0 : Nat → FieldType} (B : KO K Co CN T ty0) {index o : Nat} (j : Nat) (ho : kd o = K) (hj : j < Co) (hlink : Cond.fieldLink own index CN (T j).2.1 (T j).2.2.1 ∈ GT) (hsame : (T j).1 = CN) (hfin : (T j).2.2.2 = false) (hr : rf K j = 0) {v : Int32} (hI : ty0 j = .boolean) (hz : v = 0 ∨ v = 1) {α : Type} {F : St → Option α} {r : α} (d : decode cc pc = .ok (.putfield index, 3)) (h : nm (s2 σ o j v) F = some r) (kk : ∀ σ1, F σ1 = some r → WW k (pc + 3) lv st σ1) : WW k pc lv (.int v :: .ref (ad k o) :: st) σ := by
  obtain ⟨p, l, e, R, s, m, args, below, meth, c, g, nL, Q, c0, s0⟩ := k
  obtain ⟨⟨hx, hb, hml, hown, hts⟩, hK, hlk, hcs⟩ := C
  intro H locs ls hP hS hl
  obtain ⟨hin, hcl, hnf, hlt, hty, hnm⟩ := B
  have hoN : o < NC := kd_lt (by rw [ho]; omega)
  subst hnf
  refine va_put (D := g.1) (A := AA g s.heap.size) (ci := K) (ty := ty0 j) (C := CN) (T := T) (N := nf K) hx hb hts hin ty0 hty hnm hown hK.1 hP (wd_D hK.2.1 σ _) hS o ((wd_at g σ hoN).trans (by rw [ce_o ho hlt])) hcl j hj (hts _ hlink) (fun x9 h9 => by rw [← hsame]; exact h9) hfin (hty j hj) (by rw [hI]; rcases hz with rfl | rfl <;> rfl) (by rw [hI]; rcases hz with rfl | rfl <;> rfl) (by simp; exact hj) d (fun H1 locs1 hP1 hD1 hS1 => ?_)
  refine kk (s2 σ o j v) h H1 locs1 ls ?_ hS1 hl
  unfold s2
  rw [← wd_set g σ hoN, ce_o ho hlt]
  rw [show Value.int v = fv g.2.2.2.2 o (upd (σ o) j v) j from by rw [fv_i ho hr]; simp [upd]] at hP1
  rw [fs_set _ _ hj (fun i hi => by simp [fv, upd, hi])] at hP1
  exact hP1
theorem ww_putm {k : Cfg} {cc : ByteArray} {own : String} (C : Cx k cc own) {pc : Nat} {lv : List (Nat × Value)} {st : List Value} {σ : St} {K Co : Nat} {CN : String} {T : u_T} {ty0 : Nat → FieldType} (B : KO K Co CN T ty0) {index o : Nat} (j : Nat) (ho : kd o = K) (hj : j < Co) (hlink : Cond.fieldLink own index CN (T j).2.1 (T j).2.2.1 ∈ GT) (hsame : (T j).1 = CN) (hfin : (T j).2.2.2 = false) (hr : rf K j = 2) {q : Nat} (hI : ty0 j = .array .int) {α : Type} {F : St → Option α} {r : α} (d : decode cc pc = .ok (.putfield index, 3)) (h : gr q (nm (s2 σ o j (nI q)) F) = some r) (kk : ∀ σ1, F σ1 = some r → WW k (pc + 3) lv st σ1) : WW k pc lv (.ref (ad k q) :: .ref (ad k o) :: st) σ := by
  obtain ⟨p, l, e, R, s, m, args, below, meth, c, g, nL, Q, c0, s0⟩ := k
  obtain ⟨⟨hx, hb, hml, hown, hts⟩, hK, hlk, hcs⟩ := C
  intro H locs ls hP hS hl
  obtain ⟨hin, hcl, hnf, hlt, hty, hnm⟩ := B
  have hoN : o < NC := kd_lt (by rw [ho]; omega)
  subst hnf
  obtain ⟨hz, h⟩ := gr_some h
  refine va_put (D := g.1) (A := AA g s.heap.size) (ci := K) (ty := ty0 j) (C := CN) (T := T) (N := nf K) hx hb hts hin ty0 hty hnm hown hK.1 hP (wd_D hK.2.1 σ _) hS o ((wd_at g σ hoN).trans (by rw [ce_o ho hlt])) hcl j hj (hts _ hlink) (fun x9 h9 => by rw [← hsame]; exact h9) hfin (hty j hj) (by rw [hI]; rfl) (by rw [hI]; rfl) (by simp; exact hj) d (fun H1 locs1 hP1 hD1 hS1 => ?_)
  refine kk (s2 σ o j (nI q)) h H1 locs1 ls ?_ hS1 hl
  unfold s2
  rw [← wd_set g σ hoN, ce_o ho hlt]
  rw [show Value.ref (g.2.2.2.2 q) = fv g.2.2.2.2 o (upd (σ o) j (nI q)) j from by rw [fv_m ho hr]; simp [upd]; rw [nI_clamp (by omega)]] at hP1
  rw [fs_set _ _ hj (fun i hi => by simp [fv, upd, hi])] at hP1
  exact hP1
theorem ww_iald {k : Cfg} {cc : ByteArray} {own : String} (C : Cx k cc own) {pc : Nat} {lv : List (Nat × Value)} {st : List Value} {σ : St} {n o : Nat} {i : Int32} {α : Type} {F : Int32 → Option α} {r : α} (ho : kd o = 900) (hn : al o = n) (d : decode cc pc = .ok (.iaload, 1)) (h : ld σ o n i F = some r) (kk : ∀ x, F x = some r → WW k (pc + 1) lv (.int x :: st) σ) : WW k pc lv (.int i :: .ref (ad k o) :: st) σ := by
  obtain ⟨p, l, e, R, s, m, args, below, meth, c, g, nL, Q, c0, s0⟩ := k
  obtain ⟨⟨hx, hb, hml, hown, hts⟩, hK, hlk, hcs⟩ := C
  intro H locs ls hP hS hl
  have hoN : o < NC := kd_lt (by rw [ho]; omega)
  subst hn
  obtain ⟨hi, h⟩ := ld_some h
  exact va_iald hx hb hK.1 hP o 0 ((wd_at g σ hoN).trans (by rw [ce_i ho])) rfl hi d (kk _ h H locs ls hP hS hl)
theorem ww_zald {k : Cfg} {cc : ByteArray} {own : String} (C : Cx k cc own) {pc : Nat} {lv : List (Nat × Value)} {st : List Value} {σ : St} {n o : Nat} {i : Int32} {α : Type} {F : Int32 → Option α} {r : α} (ho : kd o = 902) (hn : al o = n) (d : decode cc pc = .ok (.baload, 1)) (h : ld σ o n i F = some r) (kk : ∀ x, F x = some r → WW k (pc + 1) lv (.int x :: st) σ) : WW k pc lv (.int i :: .ref (ad k o) :: st) σ := by
  obtain ⟨p, l, e, R, s, m, args, below, meth, c, g, nL, Q, c0, s0⟩ := k
  obtain ⟨⟨hx, hb, hml, hown, hts⟩, hK, hlk, hcs⟩ := C
  intro H locs ls hP hS hl
  have hoN : o < NC := kd_lt (by rw [ho]; omega)
  subst hn
  obtain ⟨hi, h⟩ := ld_some h
  exact va_zald hx hb hK.1 hP o 1 ((wd_at g σ hoN).trans (by rw [ce_z ho])) rfl hi d (kk _ h H locs ls hP hS hl)
theorem ww_lrld {k : Cfg} {cc : ByteArray} {own : String} (C : Cx k cc own) {pc : Nat} {lv : List (Nat × Value)} {st : List Value} {σ : St} {o : Nat} {i : Int32} {α : Type} {F : Int32 → Option α} {r : α} (d : decode cc pc = .ok (.iaload, 1)) (h : lr σ o i F = some r) (kk : ∀ x, F x = some r → WW k (pc + 1) lv (.int x :: st) σ) : WW k pc lv (.int i :: .ref (ad k o) :: st) σ := by
  obtain ⟨p, l, e, R, s, m, args, below, meth, c, g, nL, Q, c0, s0⟩ := k
  obtain ⟨⟨hx, hb, hml, hown, hts⟩, hK, hlk, hcs⟩ := C
  intro H locs ls hP hS hl
  obtain ⟨ho, h⟩ := lr_some h
  have hoN : o < NC := kd_lt (by rw [ho]; omega)
  obtain ⟨hi, h⟩ := ld_some h
  exact va_iald hx hb hK.1 hP o 0 ((wd_at g σ hoN).trans (by rw [ce_i ho])) rfl hi d (kk _ h H locs ls hP hS hl)
theorem ww_iast {k : Cfg} {cc : ByteArray} {own : String} (C : Cx k cc own) {pc : Nat} {lv : List (Nat × Value)} {st : List Value} {σ : St} {n o : Nat} {i v : Int32} {α : Type} {F : St → Option α} {r : α} (ho : kd o = 900) (hn : al o = n) (d : decode cc pc = .ok (.iastore, 1)) (h : sa σ o n i v F = some r) (kk : ∀ σ1, F σ1 = some r → WW k (pc + 1) lv st σ1) : WW k pc lv (.int v :: .int i :: .ref (ad k o) :: st) σ := by
  obtain ⟨p, l, e, R, s, m, args, below, meth, c, g, nL, Q, c0, s0⟩ := k
  obtain ⟨⟨hx, hb, hml, hown, hts⟩, hK, hlk, hcs⟩ := C
  intro H locs ls hP hS hl
  have hoN : o < NC := kd_lt (by rw [ho]; omega)
  subst hn
  obtain ⟨hi, h⟩ := sa_some h
  refine va_iast hx hb hK.1 hP (wd_D hK.2.1 σ _) hS o 0 ((wd_at g σ hoN).trans (by rw [ce_i ho])) rfl hi d (fun H1 locs1 hP1 hD1 hS1 => ?_)
  refine kk _ h H1 locs1 ls ?_ hS1 hl
  unfold s2
  rw [← wd_set g σ hoN, ce_i ho]
  exact hP1
theorem ww_srst {k : Cfg} {cc : ByteArray} {own : String} (C : Cx k cc own) {pc : Nat} {lv : List (Nat × Value)} {st : List Value} {σ : St} {o : Nat} {i v : Int32} {α : Type} {F : St → Option α} {r : α} (d : decode cc pc = .ok (.iastore, 1)) (h : sr σ o i v F = some r) (kk : ∀ σ1, F σ1 = some r → WW k (pc + 1) lv st σ1) : WW k pc lv (.int v :: .int i :: .ref (ad k o) :: st) σ := by
  obtain ⟨p, l, e, R, s, m, args, below, meth, c, g, nL, Q, c0, s0⟩ := k
  obtain ⟨⟨hx, hb, hml, hown, hts⟩, hK, hlk, hcs⟩ := C
  intro H locs ls hP hS hl
  obtain ⟨ho, h⟩ := sr_some h
  have hoN : o < NC := kd_lt (by rw [ho]; omega)
  obtain ⟨hi, h⟩ := sa_some h
  refine va_iast hx hb hK.1 hP (wd_D hK.2.1 σ _) hS o 0 ((wd_at g σ hoN).trans (by rw [ce_i ho])) rfl hi d (fun H1 locs1 hP1 hD1 hS1 => ?_)
  refine kk _ h H1 locs1 ls ?_ hS1 hl
  unfold s2
  rw [← wd_set g σ hoN, ce_i ho]
  exact hP1
theorem ww_zast {k : Cfg} {cc : ByteArray} {own : String} (C : Cx k cc own) {pc : Nat} {lv : List (Nat × Value)} {st : List Value} {σ : St} {n o : Nat} {i v : Int32} {α : Type} {F : St → Option α} {r : α} (ho : kd o = 902) (hn : al o = n) (d : decode cc pc = .ok (.bastore, 1)) (h : zb v (sa σ o n i v F) = some r) (kk : ∀ σ1, F σ1 = some r → WW k (pc + 1) lv st σ1) : WW k pc lv (.int v :: .int i :: .ref (ad k o) :: st) σ := by
  obtain ⟨p, l, e, R, s, m, args, below, meth, c, g, nL, Q, c0, s0⟩ := k
  obtain ⟨⟨hx, hb, hml, hown, hts⟩, hK, hlk, hcs⟩ := C
  intro H locs ls hP hS hl
  obtain ⟨hz, h⟩ := zb_some h
  have hoN : o < NC := kd_lt (by rw [ho]; omega)
  subst hn
  obtain ⟨hi, h⟩ := sa_some h
  refine va_zast hx hb hK.1 hP (wd_D hK.2.1 σ _) hS o 1 ((wd_at g σ hoN).trans (by rw [ce_z ho])) rfl hi d (fun H1 locs1 hP1 hD1 hS1 => ?_)
  refine kk _ h H1 locs1 ls ?_ hS1 hl
  unfold s2
  rw [← wd_set g σ hoN, ce_z ho]
  rw [show vp_nar .boolean v = v from by rcases hz with rfl | rfl <;> rfl] at hP1
  exact hP1
theorem ww_zastL {k : Cfg} {cc : ByteArray} {own : String} (C : Cx k cc own) {pc : Nat} {lv : List (Nat × Value)} {st : List Value} {σ : St} {n o : Nat} {i v : Int32} {α : Type} {F : St → Option α} {r : α} (ho : kd o = 902) (hn : al o = n) (hz : v = 0 ∨ v = 1) (d : decode cc pc = .ok (.bastore, 1)) (h : sa σ o n i v F = some r) (kk : ∀ σ1, F σ1 = some r → WW k (pc + 1) lv st σ1) : WW k pc lv (.int v :: .int i :: .ref (ad k o) :: st) σ := by
  obtain ⟨p, l, e, R, s, m, args, below, meth, c, g, nL, Q, c0, s0⟩ := k
  obtain ⟨⟨hx, hb, hml, hown, hts⟩, hK, hlk, hcs⟩ := C
  intro H locs ls hP hS hl
  have hoN : o < NC := kd_lt (by rw [ho]; omega)
  subst hn
  obtain ⟨hi, h⟩ := sa_some h
  refine va_zast hx hb hK.1 hP (wd_D hK.2.1 σ _) hS o 1 ((wd_at g σ hoN).trans (by rw [ce_z ho])) rfl hi d (fun H1 locs1 hP1 hD1 hS1 => ?_)
  refine kk _ h H1 locs1 ls ?_ hS1 hl
  unfold s2
  rw [← wd_set g σ hoN, ce_z ho]
  rw [show vp_nar .boolean v = v from by rcases hz with rfl | rfl <;> rfl] at hP1
  exact hP1
theorem ww_copy {k : Cfg} {cc : ByteArray} {own : String} (C : Cx k cc own) {pc : Nat} {lv : List (Nat × Value)} {st : List Value} {σ : St} {n n' o o' index : Nat} {sp dp q : Int32} {α : Type} {F : St → Option α} {r : α} (ho : kd o = 900) (hn : al o = n) (ho' : kd o' = 900) (hn' : al o' = n') (hlink : Cond.methodLink own index arraycopyName ∈ GT) (h1 : Cond.native arraycopyName ∈ GT) (h2 : Cond.static arraycopyName ∈ GT) (h3 : Cond.initialized "java/lang/System" ∈ GT) (hR : 1 ≤ k.2.2.2.1.frames ∧ (st.map fun v => v.category).sum + (nativeFrameWords "java/lang/System" "arraycopy" 5 + 11) ≤ k.2.2.2.1.locals) (d : decode cc pc = .ok (.invokestatic index, 3)) (h : cp σ o n sp o' n' dp q F = some r) (kk : ∀ σ1, F σ1 = some r → WW k (pc + 3) lv st σ1) : WW k pc lv (.int q :: .int dp :: .ref (ad k o') :: .int sp :: .ref (ad k o) :: st) σ := by
  obtain ⟨p, l, e, R, s, m, args, below, meth, c, g, nL, Q, c0, s0⟩ := k
  obtain ⟨⟨hx, hb, hml, hown, hts⟩, hK, hlk, hcs⟩ := C
  intro H locs ls hP hS hl
  have hoN : o < NC := kd_lt (by rw [ho]; omega)
  have hoN' : o' < NC := kd_lt (by rw [ho']; omega)
  subst hn
  subst hn'
  obtain ⟨⟨c1, c2, c3, c4, c5⟩, h⟩ := cp_some h
  refine va_copyi hx hb (hml.trans hl.1.symm) hown (hts _ hlink) (hts _ h1) (hts _ h2) (hts _ h3) hK.1 hP (wd_D hK.2.1 σ _) hS o o' 0 0 ((wd_at g σ hoN).trans (by rw [ce_i ho])) ((wd_at g σ hoN').trans (by rw [ce_i ho'])) rfl rfl rfl c1 c2 c3 c4 c5 (fun i _ => rfl) hR.1 hR.2 d (fun H1 locs1 hP1 hD1 hS1 => ?_)
  refine kk _ h H1 locs1 ls ?_ hS1 hl
  rw [← wd_set g σ hoN', ce_i ho']
  exact hP1
theorem ww_gets {k : Cfg} {cc : ByteArray} {own : String} (C : Cx k cc own) {pc : Nat} {lv : List (Nat × Value)} {st : List Value} {σ : St} {index : Nat} (hlink : Cond.fieldLink own index "BundleHouse" "FORMS" "[I" ∈ GT) (d : decode cc pc = .ok (.getstatic index, 3)) (kk : WW k (pc + 3) lv (.ref (ad k NC) :: st) σ) : WW k pc lv st σ := by
  obtain ⟨p, l, e, R, s, m, args, below, meth, c, g, nL, Q, c0, s0⟩ := k
  obtain ⟨⟨hx, hb, hml, hown, hts⟩, hK, hlk, hcs⟩ := C
  intro H locs ls hP hS hl
  obtain ⟨cf, kf, fi, f, q, cell, h1, h2, h3, h4, h5, h6, h7, h8⟩ := hK.2.2.2.1.1
  exact va_gets hx hb ⟨cf, kf, fi, f, q, cell, h1, h2, h3, h4, h5, h6, h7, fun hA => by
    rcases hA with ⟨o, ho, e⟩ | hA
    · exact h8 o ho e
    · exact absurd (Array.getElem?_eq_some_iff.mp h5).1 (Nat.not_lt.mpr hA)⟩ hS hown (hts _ hlink) (fun _ h9 => h9) d (kk H locs ls hP hS hl)
theorem ww_mmax {k : Cfg} {cc : ByteArray} {own : String} (C : Cx k cc own) {pc : Nat} {lv : List (Nat × Value)} {st : List Value} {σ : St} {x y : Int32} {index : Nat} (hlink : Cond.methodLink own index Lib.Math.max.name ∈ GT) (h1 : Cond.static Lib.Math.max.name ∈ GT) (h2 : Cond.initialized "java/lang/Math" ∈ GT) (h3 : Cond.code Lib.Math.max.name Lib.Math.max.code 2 (some .int) ∈ GT) (hR : 1 ≤ k.2.2.2.1.frames ∧ (st.map fun v => v.category).sum + 13 ≤ k.2.2.2.1.locals) (d : decode cc pc = .ok (.invokestatic index, 3)) (kk : WW k (pc + 3) lv (.int (mx x y) :: st) σ) : WW k pc lv (.int y :: .int x :: st) σ := by
  obtain ⟨p, l, e, R, s, m, args, below, meth, c, g, nL, Q, c0, s0⟩ := k
  obtain ⟨⟨hx, hb, hml, hown, hts⟩, hK, hlk, hcs⟩ := C
  intro H locs ls hP hS hl
  exact va_mmax hx hb (hml.trans hl.1.symm) hown (hts _ hlink) (hts _ h1) (hts _ h2) (hts _ h3) hR.1 hR.2 hcs.1 hcs.2 d (kk H locs ls hP hS hl)
theorem ww_mmin {k : Cfg} {cc : ByteArray} {own : String} (C : Cx k cc own) {pc : Nat} {lv : List (Nat × Value)} {st : List Value} {σ : St} {x y : Int32} {index : Nat} (hlink : Cond.methodLink own index Lib.Math.min.name ∈ GT) (h1 : Cond.static Lib.Math.min.name ∈ GT) (h2 : Cond.initialized "java/lang/Math" ∈ GT) (h3 : Cond.code Lib.Math.min.name Lib.Math.min.code 2 (some .int) ∈ GT) (hR : 1 ≤ k.2.2.2.1.frames ∧ (st.map fun v => v.category).sum + 13 ≤ k.2.2.2.1.locals) (d : decode cc pc = .ok (.invokestatic index, 3)) (kk : WW k (pc + 3) lv (.int (mn x y) :: st) σ) : WW k pc lv (.int y :: .int x :: st) σ := by
  obtain ⟨p, l, e, R, s, m, args, below, meth, c, g, nL, Q, c0, s0⟩ := k
  obtain ⟨⟨hx, hb, hml, hown, hts⟩, hK, hlk, hcs⟩ := C
  intro H locs ls hP hS hl
  exact va_mmin hx hb (hml.trans hl.1.symm) hown (hts _ hlink) (hts _ h1) (hts _ h2) (hts _ h3) hR.1 hR.2 hcs.1 hcs.2 d (kk H locs ls hP hS hl)
theorem ww_slen {k : Cfg} {cc : ByteArray} {own : String} (C : Cx k cc own) {pc : Nat} {lv : List (Nat × Value)} {st : List Value} {σ : St} (d : decode cc pc = .ok (.arraylength, 1)) (kk : WW k (pc + 1) lv (.int 23 :: st) σ) : WW k pc lv (.ref (ad k NC) :: st) σ := by
  obtain ⟨p, l, e, R, s, m, args, below, meth, c, g, nL, Q, c0, s0⟩ := k
  obtain ⟨⟨hx, hb, hml, hown, hts⟩, hK, hlk, hcs⟩ := C
  intro H locs ls hP hS hl
  obtain ⟨scr, k1, k2, k3, k4, k5, k6⟩ := hK.2.2.2.1.2.1
  have hbl : g.2.2.2.2 NC < s.heap.size := (Array.getElem?_eq_some_iff.mp k1).1
  have hbA : ¬ AA g s.heap.size (g.2.2.2.2 NC) := fun hA => by
    rcases hA with ⟨o, ho, e⟩ | hA
    · exact hK.2.2.2.1.2.2 o ho e
    · exact absurd hbl (Nat.not_lt.mpr hA)
  have k0 : H[g.2.2.2.2 NC]? = some scr := by rw [hS.2.1 _ hbl hbA]; exact k1
  exact W.alen (n := Int32.ofNat 23) hx hb k0 k2 k5 rfl rfl d (kk H locs ls hP hS hl)
theorem ww_sld {k : Cfg} {cc : ByteArray} {own : String} (C : Cx k cc own) {pc : Nat} {lv : List (Nat × Value)} {st : List Value} {σ : St} {i : Int32} {α : Type} {F : Int32 → Option α} {r : α} (d : decode cc pc = .ok (.iaload, 1)) (h : fo i F = some r) (kk : ∀ x, F x = some r → WW k (pc + 1) lv (.int x :: st) σ) : WW k pc lv (.int i :: .ref (ad k NC) :: st) σ := by
  obtain ⟨p, l, e, R, s, m, args, below, meth, c, g, nL, Q, c0, s0⟩ := k
  obtain ⟨⟨hx, hb, hml, hown, hts⟩, hK, hlk, hcs⟩ := C
  intro H locs ls hP hS hl
  obtain ⟨hi, h⟩ := fo_some h
  have hlt : i.toNatClampNeg < 23 := Nat.not_le.mp fun q => hi (Or.inr q)
  obtain ⟨scr, k1, k2, k3, k4, k5, k6⟩ := hK.2.2.2.1.2.1
  have hbl : g.2.2.2.2 NC < s.heap.size := (Array.getElem?_eq_some_iff.mp k1).1
  have hbA : ¬ AA g s.heap.size (g.2.2.2.2 NC) := fun hA => by
    rcases hA with ⟨o, ho, e⟩ | hA
    · exact hK.2.2.2.1.2.2 o ho e
    · exact absurd hbl (Nat.not_lt.mpr hA)
  have k0 : H[g.2.2.2.2 NC]? = some scr := by rw [hS.2.1 _ hbl hbA]; exact k1
  exact W.iald (v := .int (FORMS i.toNatClampNeg)) hx hb k0 k2 k3 (fun hc => hi (hc.imp id (fun q => Nat.le_trans k4 q))) (k6 _ hlt) rfl rfl d (kk _ h H locs ls hP hS hl)
