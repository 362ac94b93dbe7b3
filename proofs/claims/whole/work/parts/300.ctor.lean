theorem g_1_167 : (Jvm.Cond.classLink "BundleHouse" (31 : Nat) "BundleHouse$Reader") ∈ GT := gt_of (ts_1 (List.mem_of_getElem? (i := 167) rfl)) rfl
theorem g_1_168 : (Jvm.Cond.methodLink "BundleHouse" (33 : Nat) ({ cls := "BundleHouse$Reader", name := "<init>", desc := "(LBundleHouse$Strip;)V" } : Jvm.MethodName)) ∈ GT := gt_of (ts_1 (List.mem_of_getElem? (i := 168) rfl)) rfl
theorem g_1_169 : (Jvm.Cond.classLink "BundleHouse" (38 : Nat) "BundleHouse$Program") ∈ GT := gt_of (ts_1 (List.mem_of_getElem? (i := 169) rfl)) rfl
theorem g_1_170 : (Jvm.Cond.instantiable "BundleHouse$Program" (14 : Nat)) ∈ GT := gt_of (ts_1 (List.mem_of_getElem? (i := 170) rfl)) rfl
theorem g_1_172 : (Jvm.Cond.instanceMethod ({ cls := "BundleHouse$Program", name := "<init>", desc := "()V" } : Jvm.MethodName)) ∈ GT := gt_of (ts_1 (List.mem_of_getElem? (i := 172) rfl)) rfl
theorem g_1_173 : (Jvm.Cond.code ({ cls := "BundleHouse$Program", name := "<init>", desc := "()V" } : Jvm.MethodName) prog_8_method_1_code (1 : Nat) (Option.none : Option Jvm.ClassFile.FieldType)) ∈ GT := gt_of (ts_1 (List.mem_of_getElem? (i := 173) rfl)) rfl
theorem g_1_174 : (Jvm.Cond.methodLink "BundleHouse$Program" (3 : Nat) ({ cls := "java/lang/Object", name := "<init>", desc := "()V" } : Jvm.MethodName)) ∈ GT := gt_of (ts_1 (List.mem_of_getElem? (i := 174) rfl)) rfl
theorem g_1_228 : (Jvm.Cond.classLink "BundleHouse" (45 : Nat) "BundleHouse$Builder") ∈ GT := gt_of (ts_1 (List.mem_of_getElem? (i := 228) rfl)) rfl
theorem g_1_229 : (Jvm.Cond.instantiable "BundleHouse$Builder" (7 : Nat)) ∈ GT := gt_of (ts_1 (List.mem_of_getElem? (i := 229) rfl)) rfl
theorem g_1_230 : (Jvm.Cond.methodLink "BundleHouse" (47 : Nat) ({ cls := "BundleHouse$Builder", name := "<init>", desc := "(LBundleHouse$Program;LBundleHouse$Strip;)V" } : Jvm.MethodName)) ∈ GT := gt_of (ts_1 (List.mem_of_getElem? (i := 230) rfl)) rfl
theorem g_1_231 : (Jvm.Cond.instanceMethod ({ cls := "BundleHouse$Builder", name := "<init>", desc := "(LBundleHouse$Program;LBundleHouse$Strip;)V" } : Jvm.MethodName)) ∈ GT := gt_of (ts_1 (List.mem_of_getElem? (i := 231) rfl)) rfl
theorem g_1_232 : (Jvm.Cond.code ({ cls := "BundleHouse$Builder", name := "<init>", desc := "(LBundleHouse$Program;LBundleHouse$Strip;)V" } : Jvm.MethodName) prog_2_method_1_code (3 : Nat) (Option.none : Option Jvm.ClassFile.FieldType)) ∈ GT := gt_of (ts_1 (List.mem_of_getElem? (i := 232) rfl)) rfl
theorem g_1_233 : (Jvm.Cond.methodLink "BundleHouse$Builder" (3 : Nat) ({ cls := "java/lang/Object", name := "<init>", desc := "()V" } : Jvm.MethodName)) ∈ GT := gt_of (ts_1 (List.mem_of_getElem? (i := 233) rfl)) rfl
theorem g_1_234 : (Jvm.Cond.classLink "BundleHouse$Builder" (15 : Nat) "BundleHouse$Piece") ∈ GT := gt_of (ts_1 (List.mem_of_getElem? (i := 234) rfl)) rfl
theorem g_1_235 : (Jvm.Cond.instantiable "BundleHouse$Piece" (2 : Nat)) ∈ GT := gt_of (ts_1 (List.mem_of_getElem? (i := 235) rfl)) rfl
theorem g_1_237 : (Jvm.Cond.instanceMethod ({ cls := "BundleHouse$Piece", name := "<init>", desc := "()V" } : Jvm.MethodName)) ∈ GT := gt_of (ts_1 (List.mem_of_getElem? (i := 237) rfl)) rfl
theorem g_1_238 : (Jvm.Cond.code ({ cls := "BundleHouse$Piece", name := "<init>", desc := "()V" } : Jvm.MethodName) prog_6_method_1_code (1 : Nat) (Option.none : Option Jvm.ClassFile.FieldType)) ∈ GT := gt_of (ts_1 (List.mem_of_getElem? (i := 238) rfl)) rfl
theorem g_1_239 : (Jvm.Cond.methodLink "BundleHouse$Piece" (3 : Nat) ({ cls := "java/lang/Object", name := "<init>", desc := "()V" } : Jvm.MethodName)) ∈ GT := gt_of (ts_1 (List.mem_of_getElem? (i := 239) rfl)) rfl
theorem g_1_27 : (Jvm.Cond.methodLink "BundleHouse" (3 : Nat) ({ cls := "java/lang/Object", name := "<init>", desc := "()V" } : Jvm.MethodName)) ∈ GT := gt_of (ts_1 (List.mem_of_getElem? (i := 27) rfl)) rfl
theorem g_1_30 : (Jvm.Cond.classLink "BundleHouse" (9 : Nat) "BundleHouse$Strip") ∈ GT := gt_of (ts_1 (List.mem_of_getElem? (i := 30) rfl)) rfl
theorem g_1_31 : (Jvm.Cond.instantiable "BundleHouse$Strip" (3 : Nat)) ∈ GT := gt_of (ts_1 (List.mem_of_getElem? (i := 31) rfl)) rfl
theorem g_1_33 : (Jvm.Cond.instanceMethod ({ cls := "BundleHouse$Strip", name := "<init>", desc := "()V" } : Jvm.MethodName)) ∈ GT := gt_of (ts_1 (List.mem_of_getElem? (i := 33) rfl)) rfl
theorem g_1_34 : (Jvm.Cond.code ({ cls := "BundleHouse$Strip", name := "<init>", desc := "()V" } : Jvm.MethodName) prog_11_method_1_code (1 : Nat) (Option.none : Option Jvm.ClassFile.FieldType)) ∈ GT := gt_of (ts_1 (List.mem_of_getElem? (i := 34) rfl)) rfl
theorem g_1_35 : (Jvm.Cond.methodLink "BundleHouse$Strip" (3 : Nat) ({ cls := "java/lang/Object", name := "<init>", desc := "()V" } : Jvm.MethodName)) ∈ GT := gt_of (ts_1 (List.mem_of_getElem? (i := 35) rfl)) rfl
theorem g_1_51 : (Jvm.Cond.arrayClass Jvm.ClassFile.FieldType.int) ∈ GT := gt_of (ts_1 (List.mem_of_getElem? (i := 51) rfl)) rfl
theorem g_1_52 : (Jvm.Cond.classLink "BundleHouse" (16 : Nat) "BundleHouse$Policy") ∈ GT := gt_of (ts_1 (List.mem_of_getElem? (i := 52) rfl)) rfl
theorem g_1_53 : (Jvm.Cond.instantiable "BundleHouse$Policy" (3 : Nat)) ∈ GT := gt_of (ts_1 (List.mem_of_getElem? (i := 53) rfl)) rfl
theorem g_1_54 : (Jvm.Cond.methodLink "BundleHouse" (18 : Nat) ({ cls := "BundleHouse$Policy", name := "<init>", desc := "(LBundleHouse$Strip;)V" } : Jvm.MethodName)) ∈ GT := gt_of (ts_1 (List.mem_of_getElem? (i := 54) rfl)) rfl
theorem g_1_55 : (Jvm.Cond.instanceMethod ({ cls := "BundleHouse$Policy", name := "<init>", desc := "(LBundleHouse$Strip;)V" } : Jvm.MethodName)) ∈ GT := gt_of (ts_1 (List.mem_of_getElem? (i := 55) rfl)) rfl
theorem g_1_56 : (Jvm.Cond.code ({ cls := "BundleHouse$Policy", name := "<init>", desc := "(LBundleHouse$Strip;)V" } : Jvm.MethodName) prog_7_method_1_code (2 : Nat) (Option.none : Option Jvm.ClassFile.FieldType)) ∈ GT := gt_of (ts_1 (List.mem_of_getElem? (i := 56) rfl)) rfl
theorem g_1_57 : (Jvm.Cond.methodLink "BundleHouse$Policy" (3 : Nat) ({ cls := "java/lang/Object", name := "<init>", desc := "()V" } : Jvm.MethodName)) ∈ GT := gt_of (ts_1 (List.mem_of_getElem? (i := 57) rfl)) rfl
theorem g_1_58 : (Jvm.Cond.classLink "BundleHouse$Policy" (19 : Nat) "BundleHouse$Reader") ∈ GT := gt_of (ts_1 (List.mem_of_getElem? (i := 58) rfl)) rfl
theorem g_1_59 : (Jvm.Cond.instantiable "BundleHouse$Reader" (10 : Nat)) ∈ GT := gt_of (ts_1 (List.mem_of_getElem? (i := 59) rfl)) rfl
theorem g_1_60 : (Jvm.Cond.methodLink "BundleHouse$Policy" (21 : Nat) ({ cls := "BundleHouse$Reader", name := "<init>", desc := "(LBundleHouse$Strip;)V" } : Jvm.MethodName)) ∈ GT := gt_of (ts_1 (List.mem_of_getElem? (i := 60) rfl)) rfl
theorem g_1_61 : (Jvm.Cond.instanceMethod ({ cls := "BundleHouse$Reader", name := "<init>", desc := "(LBundleHouse$Strip;)V" } : Jvm.MethodName)) ∈ GT := gt_of (ts_1 (List.mem_of_getElem? (i := 61) rfl)) rfl
theorem g_1_62 : (Jvm.Cond.code ({ cls := "BundleHouse$Reader", name := "<init>", desc := "(LBundleHouse$Strip;)V" } : Jvm.MethodName) prog_9_method_1_code (2 : Nat) (Option.none : Option Jvm.ClassFile.FieldType)) ∈ GT := gt_of (ts_1 (List.mem_of_getElem? (i := 62) rfl)) rfl
theorem g_1_63 : (Jvm.Cond.methodLink "BundleHouse$Reader" (3 : Nat) ({ cls := "java/lang/Object", name := "<init>", desc := "()V" } : Jvm.MethodName)) ∈ GT := gt_of (ts_1 (List.mem_of_getElem? (i := 63) rfl)) rfl
theorem g_1_64 : (Jvm.Cond.classLink "BundleHouse$Reader" (9 : Nat) "BundleHouse$Instruction") ∈ GT := gt_of (ts_1 (List.mem_of_getElem? (i := 64) rfl)) rfl
theorem g_1_65 : (Jvm.Cond.instantiable "BundleHouse$Instruction" (7 : Nat)) ∈ GT := gt_of (ts_1 (List.mem_of_getElem? (i := 65) rfl)) rfl
theorem g_1_67 : (Jvm.Cond.instanceMethod ({ cls := "BundleHouse$Instruction", name := "<init>", desc := "()V" } : Jvm.MethodName)) ∈ GT := gt_of (ts_1 (List.mem_of_getElem? (i := 67) rfl)) rfl
theorem g_1_68 : (Jvm.Cond.code ({ cls := "BundleHouse$Instruction", name := "<init>", desc := "()V" } : Jvm.MethodName) prog_4_method_1_code (1 : Nat) (Option.none : Option Jvm.ClassFile.FieldType)) ∈ GT := gt_of (ts_1 (List.mem_of_getElem? (i := 68) rfl)) rfl
theorem g_1_69 : (Jvm.Cond.methodLink "BundleHouse$Instruction" (1 : Nat) ({ cls := "java/lang/Object", name := "<init>", desc := "()V" } : Jvm.MethodName)) ∈ GT := gt_of (ts_1 (List.mem_of_getElem? (i := 69) rfl)) rfl
theorem g_2_10 : (Jvm.Cond.classLink "BundleHouse$Builder" (22 : Nat) "BundleHouse$Instruction") ∈ GT := gt_of (ts_2 (List.mem_of_getElem? (i := 10) rfl)) rfl
theorem g_2_118 : (Jvm.Cond.classLink "BundleHouse" (70 : Nat) "BundleHouse$Runner") ∈ GT := gt_of (ts_2 (List.mem_of_getElem? (i := 118) rfl)) rfl
theorem g_2_119 : (Jvm.Cond.instantiable "BundleHouse$Runner" (3 : Nat)) ∈ GT := gt_of (ts_2 (List.mem_of_getElem? (i := 119) rfl)) rfl
theorem g_2_120 : (Jvm.Cond.methodLink "BundleHouse" (72 : Nat) ({ cls := "BundleHouse$Runner", name := "<init>", desc := "(LBundleHouse$Strip;LBundleHouse$Reader;LBundleHouse$Machine;)V" } : Jvm.MethodName)) ∈ GT := gt_of (ts_2 (List.mem_of_getElem? (i := 120) rfl)) rfl
theorem g_2_121 : (Jvm.Cond.instanceMethod ({ cls := "BundleHouse$Runner", name := "<init>", desc := "(LBundleHouse$Strip;LBundleHouse$Reader;LBundleHouse$Machine;)V" } : Jvm.MethodName)) ∈ GT := gt_of (ts_2 (List.mem_of_getElem? (i := 121) rfl)) rfl
theorem g_2_122 : (Jvm.Cond.code ({ cls := "BundleHouse$Runner", name := "<init>", desc := "(LBundleHouse$Strip;LBundleHouse$Reader;LBundleHouse$Machine;)V" } : Jvm.MethodName) prog_10_method_1_code (4 : Nat) (Option.none : Option Jvm.ClassFile.FieldType)) ∈ GT := gt_of (ts_2 (List.mem_of_getElem? (i := 122) rfl)) rfl
theorem g_2_123 : (Jvm.Cond.methodLink "BundleHouse$Runner" (3 : Nat) ({ cls := "java/lang/Object", name := "<init>", desc := "()V" } : Jvm.MethodName)) ∈ GT := gt_of (ts_2 (List.mem_of_getElem? (i := 123) rfl)) rfl
theorem g_2_134 : (Jvm.Cond.classLink "BundleHouse" (79 : Nat) "BundleHouse$Walker") ∈ GT := gt_of (ts_2 (List.mem_of_getElem? (i := 134) rfl)) rfl
theorem g_2_135 : (Jvm.Cond.instantiable "BundleHouse$Walker" (4 : Nat)) ∈ GT := gt_of (ts_2 (List.mem_of_getElem? (i := 135) rfl)) rfl
theorem g_2_136 : (Jvm.Cond.methodLink "BundleHouse" (81 : Nat) ({ cls := "BundleHouse$Walker", name := "<init>", desc := "(LBundleHouse$Program;LBundleHouse$Machine;)V" } : Jvm.MethodName)) ∈ GT := gt_of (ts_2 (List.mem_of_getElem? (i := 136) rfl)) rfl
theorem g_2_137 : (Jvm.Cond.instanceMethod ({ cls := "BundleHouse$Walker", name := "<init>", desc := "(LBundleHouse$Program;LBundleHouse$Machine;)V" } : Jvm.MethodName)) ∈ GT := gt_of (ts_2 (List.mem_of_getElem? (i := 137) rfl)) rfl
theorem g_2_138 : (Jvm.Cond.code ({ cls := "BundleHouse$Walker", name := "<init>", desc := "(LBundleHouse$Program;LBundleHouse$Machine;)V" } : Jvm.MethodName) prog_12_method_1_code (3 : Nat) (Option.none : Option Jvm.ClassFile.FieldType)) ∈ GT := gt_of (ts_2 (List.mem_of_getElem? (i := 138) rfl)) rfl
theorem g_2_139 : (Jvm.Cond.methodLink "BundleHouse$Walker" (3 : Nat) ({ cls := "java/lang/Object", name := "<init>", desc := "()V" } : Jvm.MethodName)) ∈ GT := gt_of (ts_2 (List.mem_of_getElem? (i := 139) rfl)) rfl
theorem g_2_140 : (Jvm.Cond.classLink "BundleHouse$Walker" (9 : Nat) "BundleHouse$Instruction") ∈ GT := gt_of (ts_2 (List.mem_of_getElem? (i := 140) rfl)) rfl
theorem g_2_35 : (Jvm.Cond.classLink "BundleHouse" (57 : Nat) "BundleHouse$Machine") ∈ GT := gt_of (ts_2 (List.mem_of_getElem? (i := 35) rfl)) rfl
theorem g_2_36 : (Jvm.Cond.instantiable "BundleHouse$Machine" (14 : Nat)) ∈ GT := gt_of (ts_2 (List.mem_of_getElem? (i := 36) rfl)) rfl
theorem g_2_38 : (Jvm.Cond.instanceMethod ({ cls := "BundleHouse$Machine", name := "<init>", desc := "()V" } : Jvm.MethodName)) ∈ GT := gt_of (ts_2 (List.mem_of_getElem? (i := 38) rfl)) rfl
theorem g_2_39 : (Jvm.Cond.code ({ cls := "BundleHouse$Machine", name := "<init>", desc := "()V" } : Jvm.MethodName) prog_5_method_1_code (1 : Nat) (Option.none : Option Jvm.ClassFile.FieldType)) ∈ GT := gt_of (ts_2 (List.mem_of_getElem? (i := 39) rfl)) rfl
theorem g_2_40 : (Jvm.Cond.methodLink "BundleHouse$Machine" (3 : Nat) ({ cls := "java/lang/Object", name := "<init>", desc := "()V" } : Jvm.MethodName)) ∈ GT := gt_of (ts_2 (List.mem_of_getElem? (i := 40) rfl)) rfl
theorem g_2_41 : (Jvm.Cond.classLink "BundleHouse$Machine" (9 : Nat) "BundleHouse$Flags") ∈ GT := gt_of (ts_2 (List.mem_of_getElem? (i := 41) rfl)) rfl
theorem g_2_42 : (Jvm.Cond.instantiable "BundleHouse$Flags" (4 : Nat)) ∈ GT := gt_of (ts_2 (List.mem_of_getElem? (i := 42) rfl)) rfl
theorem g_2_44 : (Jvm.Cond.instanceMethod ({ cls := "BundleHouse$Flags", name := "<init>", desc := "()V" } : Jvm.MethodName)) ∈ GT := gt_of (ts_2 (List.mem_of_getElem? (i := 44) rfl)) rfl
theorem g_2_45 : (Jvm.Cond.code ({ cls := "BundleHouse$Flags", name := "<init>", desc := "()V" } : Jvm.MethodName) prog_3_method_1_code (1 : Nat) (Option.none : Option Jvm.ClassFile.FieldType)) ∈ GT := gt_of (ts_2 (List.mem_of_getElem? (i := 45) rfl)) rfl
theorem g_2_46 : (Jvm.Cond.methodLink "BundleHouse$Flags" (3 : Nat) ({ cls := "java/lang/Object", name := "<init>", desc := "()V" } : Jvm.MethodName)) ∈ GT := gt_of (ts_2 (List.mem_of_getElem? (i := 46) rfl)) rfl
theorem g_6_49 : (Jvm.Cond.methodLink "BundleHouseModel" (1 : Nat) ({ cls := "java/lang/Object", name := "<init>", desc := "()V" } : Jvm.MethodName)) ∈ GT := gt_of (ts_6 (List.mem_of_getElem? (i := 49) rfl)) rfl
theorem g_7_0 : (Jvm.Cond.arrayClass Jvm.ClassFile.FieldType.boolean) ∈ GT := gt_of (ts_7 (List.mem_of_getElem? (i := 0) rfl)) rfl
theorem sp_200 : (Int16.ofInt 200).toInt32 = 200 := by decide
theorem sp_2048 : (Int16.ofInt 2048).toInt32 = 2048 := by decide
theorem sp_6000 : (Int16.ofInt 6000).toInt32 = 6000 := by decide
/-! ===== constructors: explicit lists of cells, in the order in which they are made ===== -/
def KC (D : va_G) (cI cZ : ClassId) (U : State) : Prop := va_K D classes [(cI, .int), (cZ, .boolean)] U ∧ ∀ w ∈ NW, va_Nw w U
theorem KC.moved {D : va_G} {cI cZ : ClassId} {u U : State} (hW : u.WarmedH U.vm) (h : KC D cI cZ u) : KC D cI cZ U := ⟨va_K.moved hW.alike h.1, fun w hw => by
  have h3 := h.2 w hw
  obtain ⟨a, i, x, b, e⟩ := NW_all w hw
  rw [e] at h3 ⊢
  exact va_Nw.warmM hW h3⟩
theorem KC.calling {D : va_G} {cI cZ : ClassId} {U : State} (fr : JFrame) (mk : MethodId) (a : Array Value) (h : KC D cI cZ U) : KC D cI cZ (U.calling fr mk a) := ⟨va_K.moved (u := U) (U := U.calling fr mk a) (Vm.Alike.refl U.vm) h.1, fun w hw => by
  obtain ⟨a1, i, x, b, e⟩ := NW_all w hw
  have h6 := h.2 w hw
  rw [e] at h6 ⊢
  exact va_Nw.same rfl (u := U) (U := U.calling fr mk a) rfl h6⟩
section NA
variable {p : Program} {l : Launch} {e : Env} {R : Room} {s : State} {m : MethodId} {args : Array Value} {below : List Frame} {meth : Method} {c : Code} {H : Heap} {locs : List Loc} {cells slots : Nat} {Q : State → Prop}
theorem na_row {cc : ByteArray} {pc : Nat} {ls : Array Slot} {rest : List Value} {D : va_G} {cl : List vw_C} {A : Nat → Prop} {tys : List (ClassId × FieldType)} {ws : va_W} {H0 : Heap} (hexec : p.tables.exec = Jvm.exec) (hb : c.code = cc) {atype : ArrayType} {ty : FieldType} (hty : newarray.typeOf atype = ty) (harr : (Cond.arrayClass ty).before args s = true) (hK : va_K D cl tys s) (t0 : Nat) {cI : ClassId} (ht : tys[t0]? = some (cI, ty)) (hra : ∀ c, va_RA s c ty → s.vm.findClass ("[" ++ ty.toString) = some c) (hP : va_P D cl ws H) (hD : va_D A ws) (hS : va_S A H0 H locs) (hA : ∀ q, H0.size ≤ q → A q)
    {n : Int32} {N' : Nat} {a0 : vp_A} (ha : ∀ cA : ClassId, vp_cell cA a0 = arrV cA N' (fun _ => defaultValue ty)) (hn : ¬ n < 0) (hN : n.toNatClampNeg = N') (hbytes : N' * componentBytes ty ≤ 536870912) (hcells : cells + 1 ≤ R.cells) (hslots : slots + N' ≤ R.slots) (hdg : decode cc pc = .ok (.newarray atype, 2))
    (kk : ∀ (q : Nat) (H1 : Heap), va_P D cl (ws ++ [(q, .inl (cI, a0))]) H1 → va_D A (ws ++ [(q, .inl (cI, a0))]) → va_S A H0 H1 locs → W p l e R s m args below meth c H1 locs (cells + 1) (slots + N') Q (F0 m (pc + 2) ls (.ref q :: rest))) : W p l e R s m args below meth c H locs cells slots Q (F0 m pc ls (.int n :: rest)) := by
  subst hty
  refine va_newa hexec hb harr rfl hK hP hD hS hA ha hn hN hbytes hcells hslots hdg (fun q cA H1 hK' hP' hD' hS' => ?_)
  have h1 := hra _ (hK.2 t0 _ ht).2
  have h2 := hra _ (hK'.2 tys.length (cA, newarray.typeOf atype) (by rw [List.getElem?_append_right (Nat.le_refl _), Nat.sub_self]; rfl)).2
  cases Option.some.inj (h1.symm.trans h2)
  exact kk q H1 hP' hD' hS'
end NA
theorem bl_Strip : ∀ j, j < 3 → defaultValue (ty_Strip j) = vp_V [.null, .null, .int 0] j := by decide
abbrev y_new_Strip : MethodName := ⟨"BundleHouse$Strip", "<init>", "()V"⟩
def dl_new_Strip : List (Nat × Instr × Nat) := [(0, .aload_n 0, 1), (1, .invokespecial 3, 3), (4, .aload_n 0, 1), (5, .sipush 1100, 3), (8, .newarray .int, 2), (10, .putfield 9, 3), (13, .aload_n 0, 1), (14, .sipush 1100, 3), (17, .newarray .int, 2), (19, .putfield 15, 3), (22, .return_, 1)]
set_option maxRecDepth 100000 in
theorem dk_new_Strip : ∀ q ∈ dl_new_Strip, decode prog_11_method_1_code q.1 = .ok q.2 := by decide +kernel
abbrev rm_new_Strip : Room := { frames := 1, cells := 2, slots := 2200, locals := 12 }
set_option maxHeartbeats 4000000 in
set_option maxRecDepth 100000 in
theorem n_Strip (l : Launch) (D : va_G) (cI cZ : ClassId) (h0 : Nat) (sz : Nat) : Met l y_new_Strip (Cond.code y_new_Strip prog_11_method_1_code 1 none :: GT) rm_new_Strip (va_Pc [.ref h0] (fun U => U.heap.size = sz ∧ va_P D classes [(h0, .inr (1, [.null, .null, .int 0]))] U.heap ∧ KC D cI cZ U ∧ va_D (fun _ => True) [(h0, .inr (1, [.null, .null, .int 0]))])) (va_Qv (fun _ : List Nat => True) (fun u t => va_P D classes [(h0, .inr (1, [.ref (u.getD 0 0), .ref (u.getD 1 0), .int 0])), (u.getD 0 0, .inl (cI, 1100, .inl fun _ => 0)), (u.getD 1 0, .inl (cI, 1100, .inl fun _ => 0))] t.heap ∧ va_D (va_A [(h0, .inr (1, [.null, .null, .int 0]))] sz) [(h0, .inr (1, [.ref (u.getD 0 0), .ref (u.getD 1 0), .int 0])), (u.getD 0 0, .inl (cI, 1100, .inl fun _ => 0)), (u.getD 1 0, .inl (cI, 1100, .inl fun _ => 0))]) (va_A [(h0, .inr (1, [.null, .null, .int 0]))] sz)) 2 2200 (va_A [(h0, .inr (1, [.null, .null, .int 0]))] sz) := by
  refine Met.ofW (cc := prog_11_method_1_code) (maxL := 1) (ret := none) (by decide) rfl ?_
  intro p e s m args below meth c s₁ B hml hv
  obtain ⟨rfl, hsz, hP, ⟨hK, hN⟩, hD0⟩ := hv
  have hx := B.exec
  have hb := B.bytes
  have hr := B.returns
  have hts : ∀ w ∈ GT, w.before ([.ref h0] : List Value).toArray s = true := fun w hw => atoms_spec (ws := Cond.code y_new_Strip prog_11_method_1_code 1 none :: GT) B.pre w (List.mem_cons_of_mem _ hw)
  have hown : s.vm.findClass "BundleHouse$Strip" = some m.cls := findClass_of_methodNamed B.named
  have hlocks := B.notSynchronized
  have hin : meth.name = "<init>" := (name_of_methodNamed B.named B.method).1
  subst hsz
  have hD := hD0.self (sz := s.heap.size)
  generalize hAe : va_A [(h0, .inr (1, [.null, .null, .int 0]))] s.heap.size = A at hD ⊢
  have hA : ∀ q : Nat, s.heap.size ≤ q → A q := fun q h => by rw [← hAe]; exact Or.inr h
  have hS : va_S A s.heap s.heap [] := va_S.rf
  have hl := lv_entry ([.ref h0]) (n := 1) (le_ rfl)
  rw [lg_entry_eq]
  generalize (lg_sl ([.ref h0]) ++ List.replicate (1 - (lg_sl ([.ref h0])).length) Slot.unset).toArray = ls at hl ⊢
  have hl : lv_has ls 1 [(0, .ref h0)] := hl
  have hP : va_P D classes [(h0, .inr (1, [.null, .null, .int 0]))] s.heap := hP
  refine lv_aload_n hx hb (dq dk_new_Strip 0 rfl) rfl (lv_at hl 0 rfl) ?_
  refine W.objInit hx hb hown (hts _ g_1_35) (hts _ g_1_28) (hts _ g_1_29) rfl (by rw [hml]; exact hl.1) rfl (dq dk_new_Strip 1 rfl) (le_ rfl) (le_ rfl) ?_
  refine W.eq (g2 := F0 m 4 ls []) rfl ?_
  refine lv_aload_n hx hb (dq dk_new_Strip 2 rfl) rfl (lv_at hl 0 rfl) ?_
  refine lv_sipush (v := 1100) hx hb (dq dk_new_Strip 3 rfl) sp_1100 ?_
  refine na_row (atype := .int) (ty := .int) (a0 := (1100, .inl fun _ => 0)) hx hb rfl (hts _ g_1_51) hK 0 rfl (fun _ h => h) hP hD hS hA (fun _ => rfl) (by decide) (by decide) (by decide) (le_ rfl) (le_ rfl) (dq dk_new_Strip 4 rfl) (fun q8 H hP hD hS => ?_)
  have hP : va_P D classes [(h0, .inr (1, [.null, .null, .int 0])), (q8, .inl (cI, 1100, .inl fun _ => 0))] H := hP
  have hD : va_D A [(h0, .inr (1, [.null, .null, .int 0])), (q8, .inl (cI, 1100, .inl fun _ => 0))] := hD
  refine W.widen (k := 1) (n := 1100) (le_ rfl) (le_ rfl) ?_
  refine va_putF (D := D) (ci := 1) (v := .ref q8) (ty := (.array .int)) (C := cn_Strip) (T := fT_Strip) (N := 3) hx hb hts ko_Strip.1 ty_Strip ty_Strip_ok nm_Strip hown hK hP hD hS 0 rfl rfl 0 (by decide) (hts _ g_1_36) (fun _ h9 => h9) rfl hin rfl (by decide +kernel) rfl rfl (le_ rfl) (dq dk_new_Strip 5 rfl) (fun H locs hP hD hS => ?_)
  have hP : va_P D classes [(h0, .inr (1, [.ref q8, .null, .int 0])), (q8, .inl (cI, 1100, .inl fun _ => 0))] H := hP
  have hD : va_D A [(h0, .inr (1, [.ref q8, .null, .int 0])), (q8, .inl (cI, 1100, .inl fun _ => 0))] := hD
  refine lv_aload_n hx hb (dq dk_new_Strip 6 rfl) rfl (lv_at hl 0 rfl) ?_
  refine lv_sipush (v := 1100) hx hb (dq dk_new_Strip 7 rfl) sp_1100 ?_
  refine na_row (atype := .int) (ty := .int) (a0 := (1100, .inl fun _ => 0)) hx hb rfl (hts _ g_1_51) hK 0 rfl (fun _ h => h) hP hD hS hA (fun _ => rfl) (by decide) (by decide) (by decide) (le_ rfl) (le_ rfl) (dq dk_new_Strip 8 rfl) (fun q17 H hP hD hS => ?_)
  have hP : va_P D classes [(h0, .inr (1, [.ref q8, .null, .int 0])), (q8, .inl (cI, 1100, .inl fun _ => 0)), (q17, .inl (cI, 1100, .inl fun _ => 0))] H := hP
  have hD : va_D A [(h0, .inr (1, [.ref q8, .null, .int 0])), (q8, .inl (cI, 1100, .inl fun _ => 0)), (q17, .inl (cI, 1100, .inl fun _ => 0))] := hD
  refine W.widen (k := 2) (n := 2200) (le_ rfl) (le_ rfl) ?_
  refine va_putF (D := D) (ci := 1) (v := .ref q17) (ty := (.array .int)) (C := cn_Strip) (T := fT_Strip) (N := 3) hx hb hts ko_Strip.1 ty_Strip ty_Strip_ok nm_Strip hown hK hP hD hS 0 rfl rfl 1 (by decide) (hts _ g_1_38) (fun _ h9 => h9) rfl hin rfl (by decide +kernel) rfl rfl (le_ rfl) (dq dk_new_Strip 9 rfl) (fun H locs hP hD hS => ?_)
  have hP : va_P D classes [(h0, .inr (1, [.ref q8, .ref q17, .int 0])), (q8, .inl (cI, 1100, .inl fun _ => 0)), (q17, .inl (cI, 1100, .inl fun _ => 0))] H := hP
  have hD : va_D A [(h0, .inr (1, [.ref q8, .ref q17, .int 0])), (q8, .inl (cI, 1100, .inl fun _ => 0)), (q17, .inl (cI, 1100, .inl fun _ => 0))] := hD
  exact W.vret hx hb hr (fun t ht hW => ⟨⟨[q8, q17], rfl, trivial, by rw [ht]; exact hP, hD⟩, hS.F ht⟩) hS.2.2 (dq dk_new_Strip 10 rfl)
theorem bl_Instruction : ∀ j, j < 7 → defaultValue (ty_Instruction j) = vp_V [.int 0, .int 0, .int 0, .int 0, .int 0, .int 0, .int 0] j := by decide
abbrev y_new_Instruction : MethodName := ⟨"BundleHouse$Instruction", "<init>", "()V"⟩
def dl_new_Instruction : List (Nat × Instr × Nat) := [(0, .aload_n 0, 1), (1, .invokespecial 1, 3), (4, .return_, 1)]
set_option maxRecDepth 100000 in
theorem dk_new_Instruction : ∀ q ∈ dl_new_Instruction, decode prog_4_method_1_code q.1 = .ok q.2 := by decide +kernel
abbrev rm_new_Instruction : Room := { frames := 1, cells := 0, slots := 0, locals := 12 }
set_option maxHeartbeats 4000000 in
set_option maxRecDepth 100000 in
theorem n_Instruction (l : Launch) (D : va_G) (cI cZ : ClassId) (h0 : Nat) (sz : Nat) : Met l y_new_Instruction (Cond.code y_new_Instruction prog_4_method_1_code 1 none :: GT) rm_new_Instruction (va_Pc [.ref h0] (fun U => U.heap.size = sz ∧ va_P D classes [(h0, .inr (4, [.int 0, .int 0, .int 0, .int 0, .int 0, .int 0, .int 0]))] U.heap ∧ KC D cI cZ U ∧ va_D (fun _ => True) [(h0, .inr (4, [.int 0, .int 0, .int 0, .int 0, .int 0, .int 0, .int 0]))])) (va_Qv (fun _ : List Nat => True) (fun u t => va_P D classes [(h0, .inr (4, [.int 0, .int 0, .int 0, .int 0, .int 0, .int 0, .int 0]))] t.heap ∧ va_D (va_A [(h0, .inr (4, [.int 0, .int 0, .int 0, .int 0, .int 0, .int 0, .int 0]))] sz) [(h0, .inr (4, [.int 0, .int 0, .int 0, .int 0, .int 0, .int 0, .int 0]))]) (va_A [(h0, .inr (4, [.int 0, .int 0, .int 0, .int 0, .int 0, .int 0, .int 0]))] sz)) 0 0 (va_A [(h0, .inr (4, [.int 0, .int 0, .int 0, .int 0, .int 0, .int 0, .int 0]))] sz) := by
  refine Met.ofW (cc := prog_4_method_1_code) (maxL := 1) (ret := none) (by decide) rfl ?_
  intro p e s m args below meth c s₁ B hml hv
  obtain ⟨rfl, hsz, hP, ⟨hK, hN⟩, hD0⟩ := hv
  have hx := B.exec
  have hb := B.bytes
  have hr := B.returns
  have hts : ∀ w ∈ GT, w.before ([.ref h0] : List Value).toArray s = true := fun w hw => atoms_spec (ws := Cond.code y_new_Instruction prog_4_method_1_code 1 none :: GT) B.pre w (List.mem_cons_of_mem _ hw)
  have hown : s.vm.findClass "BundleHouse$Instruction" = some m.cls := findClass_of_methodNamed B.named
  have hlocks := B.notSynchronized
  have hin : meth.name = "<init>" := (name_of_methodNamed B.named B.method).1
  subst hsz
  have hD := hD0.self (sz := s.heap.size)
  generalize hAe : va_A [(h0, .inr (4, [.int 0, .int 0, .int 0, .int 0, .int 0, .int 0, .int 0]))] s.heap.size = A at hD ⊢
  have hA : ∀ q : Nat, s.heap.size ≤ q → A q := fun q h => by rw [← hAe]; exact Or.inr h
  have hS : va_S A s.heap s.heap [] := va_S.rf
  have hl := lv_entry ([.ref h0]) (n := 1) (le_ rfl)
  rw [lg_entry_eq]
  generalize (lg_sl ([.ref h0]) ++ List.replicate (1 - (lg_sl ([.ref h0])).length) Slot.unset).toArray = ls at hl ⊢
  have hl : lv_has ls 1 [(0, .ref h0)] := hl
  have hP : va_P D classes [(h0, .inr (4, [.int 0, .int 0, .int 0, .int 0, .int 0, .int 0, .int 0]))] s.heap := hP
  refine lv_aload_n hx hb (dq dk_new_Instruction 0 rfl) rfl (lv_at hl 0 rfl) ?_
  refine W.objInit hx hb hown (hts _ g_1_69) (hts _ g_1_28) (hts _ g_1_29) rfl (by rw [hml]; exact hl.1) rfl (dq dk_new_Instruction 1 rfl) (le_ rfl) (le_ rfl) ?_
  refine W.eq (g2 := F0 m 4 ls []) rfl ?_
  exact W.vret hx hb hr (fun t ht hW => ⟨⟨[], rfl, trivial, by rw [ht]; exact hP, hD⟩, hS.F ht⟩) hS.2.2 (dq dk_new_Instruction 2 rfl)
theorem bl_Reader : ∀ j, j < 10 → defaultValue (ty_Reader j) = vp_V [.null, .null, .int 0, .int 0, .int 0, .int 0, .int 0, .int 0, .int 0, .int 0] j := by decide
abbrev y_new_Reader : MethodName := ⟨"BundleHouse$Reader", "<init>", "(LBundleHouse$Strip;)V"⟩
def dl_new_Reader : List (Nat × Instr × Nat) := [(0, .aload_n 0, 1), (1, .invokespecial 3, 3), (4, .aload_n 0, 1), (5, .new 9, 3), (8, .dup, 1), (9, .invokespecial 11, 3), (12, .putfield 12, 3), (15, .aload_n 0, 1), (16, .aload_n 1, 1), (17, .putfield 18, 3), (20, .return_, 1)]
set_option maxRecDepth 100000 in
theorem dk_new_Reader : ∀ q ∈ dl_new_Reader, decode prog_9_method_1_code q.1 = .ok q.2 := by decide +kernel
abbrev rm_new_Reader : Room := { frames := 2, cells := 1, slots := 7, locals := 32 }
set_option maxHeartbeats 4000000 in
set_option maxRecDepth 100000 in
theorem n_Reader (l : Launch) (D : va_G) (cI cZ : ClassId) (h0 : Nat) (p1 : Nat) (sz : Nat) : Met l y_new_Reader (Cond.code y_new_Reader prog_9_method_1_code 2 none :: GT) rm_new_Reader (va_Pc [.ref h0, .ref p1] (fun U => U.heap.size = sz ∧ va_P D classes [(h0, .inr (3, [.null, .null, .int 0, .int 0, .int 0, .int 0, .int 0, .int 0, .int 0, .int 0]))] U.heap ∧ KC D cI cZ U ∧ va_D (fun _ => True) [(h0, .inr (3, [.null, .null, .int 0, .int 0, .int 0, .int 0, .int 0, .int 0, .int 0, .int 0]))])) (va_Qv (fun _ : List Nat => True) (fun u t => va_P D classes [(h0, .inr (3, [.ref (u.getD 0 0), .ref p1, .int 0, .int 0, .int 0, .int 0, .int 0, .int 0, .int 0, .int 0])), (u.getD 0 0, .inr (4, [.int 0, .int 0, .int 0, .int 0, .int 0, .int 0, .int 0]))] t.heap ∧ va_D (va_A [(h0, .inr (3, [.null, .null, .int 0, .int 0, .int 0, .int 0, .int 0, .int 0, .int 0, .int 0]))] sz) [(h0, .inr (3, [.ref (u.getD 0 0), .ref p1, .int 0, .int 0, .int 0, .int 0, .int 0, .int 0, .int 0, .int 0])), (u.getD 0 0, .inr (4, [.int 0, .int 0, .int 0, .int 0, .int 0, .int 0, .int 0]))]) (va_A [(h0, .inr (3, [.null, .null, .int 0, .int 0, .int 0, .int 0, .int 0, .int 0, .int 0, .int 0]))] sz)) 1 7 (va_A [(h0, .inr (3, [.null, .null, .int 0, .int 0, .int 0, .int 0, .int 0, .int 0, .int 0, .int 0]))] sz) := by
  refine Met.ofW (cc := prog_9_method_1_code) (maxL := 2) (ret := none) (by decide) rfl ?_
  intro p e s m args below meth c s₁ B hml hv
  obtain ⟨rfl, hsz, hP, ⟨hK, hN⟩, hD0⟩ := hv
  have hx := B.exec
  have hb := B.bytes
  have hr := B.returns
  have hts : ∀ w ∈ GT, w.before ([.ref h0, .ref p1] : List Value).toArray s = true := fun w hw => atoms_spec (ws := Cond.code y_new_Reader prog_9_method_1_code 2 none :: GT) B.pre w (List.mem_cons_of_mem _ hw)
  have hown : s.vm.findClass "BundleHouse$Reader" = some m.cls := findClass_of_methodNamed B.named
  have hlocks := B.notSynchronized
  have hin : meth.name = "<init>" := (name_of_methodNamed B.named B.method).1
  subst hsz
  have hD := hD0.self (sz := s.heap.size)
  generalize hAe : va_A [(h0, .inr (3, [.null, .null, .int 0, .int 0, .int 0, .int 0, .int 0, .int 0, .int 0, .int 0]))] s.heap.size = A at hD ⊢
  have hA : ∀ q : Nat, s.heap.size ≤ q → A q := fun q h => by rw [← hAe]; exact Or.inr h
  have hS : va_S A s.heap s.heap [] := va_S.rf
  have hl := lv_entry ([.ref h0, .ref p1]) (n := 2) (le_ rfl)
  rw [lg_entry_eq]
  generalize (lg_sl ([.ref h0, .ref p1]) ++ List.replicate (2 - (lg_sl ([.ref h0, .ref p1])).length) Slot.unset).toArray = ls at hl ⊢
  have hl : lv_has ls 2 [(0, .ref h0), (1, .ref p1)] := hl
  have hP : va_P D classes [(h0, .inr (3, [.null, .null, .int 0, .int 0, .int 0, .int 0, .int 0, .int 0, .int 0, .int 0]))] s.heap := hP
  refine lv_aload_n hx hb (dq dk_new_Reader 0 rfl) rfl (lv_at hl 0 rfl) ?_
  refine W.objInit hx hb hown (hts _ g_1_63) (hts _ g_1_28) (hts _ g_1_29) rfl (by rw [hml]; exact hl.1) rfl (dq dk_new_Reader 1 rfl) (le_ rfl) (le_ rfl) ?_
  refine W.eq (g2 := F0 m 4 ls []) rfl ?_
  refine lv_aload_n hx hb (dq dk_new_Reader 2 rfl) rfl (lv_at hl 0 rfl) ?_
  refine va_new (ci := 4) (fs := [.int 0, .int 0, .int 0, .int 0, .int 0, .int 0, .int 0]) (C := cn_Instruction) (T := fT_Instruction) (N := 7) hx hb hts ko_Instruction.1 ty_Instruction ty_Instruction_ok hown (hts _ g_1_64) (hts _ g_1_65) (hts _ g_1_5) hK hP hD hS hA rfl (bl_Instruction) (le_ rfl) (le_ rfl) (dq dk_new_Reader 3 rfl) (fun q5 H hP hD hS => ?_)
  have hP : va_P D classes [(h0, .inr (3, [.null, .null, .int 0, .int 0, .int 0, .int 0, .int 0, .int 0, .int 0, .int 0])), (q5, .inr (4, [.int 0, .int 0, .int 0, .int 0, .int 0, .int 0, .int 0]))] H := hP
  have hD : va_D A [(h0, .inr (3, [.null, .null, .int 0, .int 0, .int 0, .int 0, .int 0, .int 0, .int 0, .int 0])), (q5, .inr (4, [.int 0, .int 0, .int 0, .int 0, .int 0, .int 0, .int 0]))] := hD
  refine W.widen (k := 1) (n := 7) (le_ rfl) (le_ rfl) ?_
  refine lv_dup hx hb (dq dk_new_Reader 4 rfl) rfl ?_
  have hPc := hP.sub (ws' := [(q5, .inr (4, [.int 0, .int 0, .int 0, .int 0, .int 0, .int 0, .int 0]))]) [1] rfl
  have hDc := hD.sub (ws' := [(q5, .inr (4, [.int 0, .int 0, .int 0, .int 0, .int 0, .int 0, .int 0]))]) [1] (by decide) rfl
  have hFc := va_free (wc := [(q5, .inr (4, [.int 0, .int 0, .int 0, .int 0, .int 0, .int 0, .int 0]))]) hD hS hA [1] rfl
  refine va_callv (va_runIN (As := []) (rest := [.ref q5, .ref h0]) ⟨hx, hb, hml, hown, hts⟩ (n_Instruction l D cI cZ q5 H.size) ⟨va_cnB 0 hts (good1 g_1_68) rfl rfl rfl (hN _ nw_1) (hts _ g_1_5) ⟨by decide, by decide, by decide +kernel⟩ ⟨le_ rfl, le_ rfl⟩, rfl, hts _ g_1_67⟩ ⟨fun a U fr mk q => ⟨q.1, q.2.1, q.2.2.1, q.2.2.2.1.calling fr mk a, q.2.2.2.2⟩, fun U hU hW => ⟨rfl, by rw [hU], by rw [hU]; exact hPc, KC.moved hW ⟨hK, hN⟩, hDc.weaken (fun _ _ _ _ => trivial)⟩⟩ rfl rfl hl.1 rfl (lv_room (le_ rfl)) (dq dk_new_Reader 5 rfl) ⟨le_ rfl, le_ rfl⟩) hS (fun q _ h => hFc q h) hFc (fun u9 t H1 locs ht hvm hw hB hz1 hk1 hS => ?_)
  obtain ⟨hP1, hD1⟩ := hB
  rw [ht] at hP1
  obtain ⟨hP, hD⟩ := va_join (wr := [(h0, .inr (3, [.null, .null, .int 0, .int 0, .int 0, .int 0, .int 0, .int 0, .int 0, .int 0]))]) (w1 := [(q5, .inr (4, [.int 0, .int 0, .int 0, .int 0, .int 0, .int 0, .int 0]))]) hP hD [1] [0] rfl rfl (by decide) (by decide) hk1 hFc hP1 hD1
  generalize H1 = H at hP hS ⊢
  have hP : va_P D classes [(h0, .inr (3, [.null, .null, .int 0, .int 0, .int 0, .int 0, .int 0, .int 0, .int 0, .int 0])), (q5, .inr (4, [.int 0, .int 0, .int 0, .int 0, .int 0, .int 0, .int 0]))] H := hP
  have hD : va_D A [(h0, .inr (3, [.null, .null, .int 0, .int 0, .int 0, .int 0, .int 0, .int 0, .int 0, .int 0])), (q5, .inr (4, [.int 0, .int 0, .int 0, .int 0, .int 0, .int 0, .int 0]))] := hD
  refine W.widen (k := 1) (n := 7) (le_ rfl) (le_ rfl) ?_
  refine va_putF (D := D) (ci := 3) (v := .ref q5) (ty := (.object "BundleHouse$Instruction")) (C := cn_Reader) (T := fT_Reader) (N := 10) hx hb hts ko_Reader.1 ty_Reader ty_Reader_ok nm_Reader hown hK hP hD hS 0 rfl rfl 0 (by decide) (hts _ g_1_122) (fun _ h9 => h9) rfl hin rfl (by decide +kernel) rfl rfl (le_ rfl) (dq dk_new_Reader 6 rfl) (fun H locs hP hD hS => ?_)
  have hP : va_P D classes [(h0, .inr (3, [.ref q5, .null, .int 0, .int 0, .int 0, .int 0, .int 0, .int 0, .int 0, .int 0])), (q5, .inr (4, [.int 0, .int 0, .int 0, .int 0, .int 0, .int 0, .int 0]))] H := hP
  have hD : va_D A [(h0, .inr (3, [.ref q5, .null, .int 0, .int 0, .int 0, .int 0, .int 0, .int 0, .int 0, .int 0])), (q5, .inr (4, [.int 0, .int 0, .int 0, .int 0, .int 0, .int 0, .int 0]))] := hD
  refine lv_aload_n hx hb (dq dk_new_Reader 7 rfl) rfl (lv_at hl 0 rfl) ?_
  refine lv_aload_n hx hb (dq dk_new_Reader 8 rfl) rfl (lv_at hl 1 rfl) ?_
  refine va_putF (D := D) (ci := 3) (v := .ref p1) (ty := (.object "BundleHouse$Strip")) (C := cn_Reader) (T := fT_Reader) (N := 10) hx hb hts ko_Reader.1 ty_Reader ty_Reader_ok nm_Reader hown hK hP hD hS 0 rfl rfl 1 (by decide) (hts _ g_1_126) (fun _ h9 => h9) rfl hin rfl (by decide +kernel) rfl rfl (le_ rfl) (dq dk_new_Reader 9 rfl) (fun H locs hP hD hS => ?_)
  have hP : va_P D classes [(h0, .inr (3, [.ref q5, .ref p1, .int 0, .int 0, .int 0, .int 0, .int 0, .int 0, .int 0, .int 0])), (q5, .inr (4, [.int 0, .int 0, .int 0, .int 0, .int 0, .int 0, .int 0]))] H := hP
  have hD : va_D A [(h0, .inr (3, [.ref q5, .ref p1, .int 0, .int 0, .int 0, .int 0, .int 0, .int 0, .int 0, .int 0])), (q5, .inr (4, [.int 0, .int 0, .int 0, .int 0, .int 0, .int 0, .int 0]))] := hD
  exact W.vret hx hb hr (fun t ht hW => ⟨⟨[q5], rfl, trivial, by rw [ht]; exact hP, hD⟩, hS.F ht⟩) hS.2.2 (dq dk_new_Reader 10 rfl)
theorem bl_Policy : ∀ j, j < 3 → defaultValue (ty_Policy j) = vp_V [.int 0, .null, .null] j := by decide
abbrev y_new_Policy : MethodName := ⟨"BundleHouse$Policy", "<init>", "(LBundleHouse$Strip;)V"⟩
def dl_new_Policy : List (Nat × Instr × Nat) := [(0, .aload_n 0, 1), (1, .invokespecial 3, 3), (4, .aload_n 0, 1), (5, .iconst (-1), 1), (6, .putfield 9, 3), (9, .aload_n 0, 1), (10, .aload_n 1, 1), (11, .putfield 15, 3), (14, .aload_n 0, 1), (15, .new 19, 3), (18, .dup, 1), (19, .aload_n 1, 1), (20, .invokespecial 21, 3), (23, .putfield 24, 3), (26, .return_, 1)]
set_option maxRecDepth 100000 in
theorem dk_new_Policy : ∀ q ∈ dl_new_Policy, decode prog_7_method_1_code q.1 = .ok q.2 := by decide +kernel
abbrev rm_new_Policy : Room := { frames := 3, cells := 2, slots := 17, locals := 53 }
set_option maxHeartbeats 4000000 in
set_option maxRecDepth 100000 in
theorem n_Policy (l : Launch) (D : va_G) (cI cZ : ClassId) (h0 : Nat) (p1 : Nat) (sz : Nat) : Met l y_new_Policy (Cond.code y_new_Policy prog_7_method_1_code 2 none :: GT) rm_new_Policy (va_Pc [.ref h0, .ref p1] (fun U => U.heap.size = sz ∧ va_P D classes [(h0, .inr (2, [.int 0, .null, .null]))] U.heap ∧ KC D cI cZ U ∧ va_D (fun _ => True) [(h0, .inr (2, [.int 0, .null, .null]))])) (va_Qv (fun _ : List Nat => True) (fun u t => va_P D classes [(h0, .inr (2, [.int (-1), .ref p1, .ref (u.getD 0 0)])), (u.getD 0 0, .inr (3, [.ref (u.getD 1 0), .ref p1, .int 0, .int 0, .int 0, .int 0, .int 0, .int 0, .int 0, .int 0])), (u.getD 1 0, .inr (4, [.int 0, .int 0, .int 0, .int 0, .int 0, .int 0, .int 0]))] t.heap ∧ va_D (va_A [(h0, .inr (2, [.int 0, .null, .null]))] sz) [(h0, .inr (2, [.int (-1), .ref p1, .ref (u.getD 0 0)])), (u.getD 0 0, .inr (3, [.ref (u.getD 1 0), .ref p1, .int 0, .int 0, .int 0, .int 0, .int 0, .int 0, .int 0, .int 0])), (u.getD 1 0, .inr (4, [.int 0, .int 0, .int 0, .int 0, .int 0, .int 0, .int 0]))]) (va_A [(h0, .inr (2, [.int 0, .null, .null]))] sz)) 2 17 (va_A [(h0, .inr (2, [.int 0, .null, .null]))] sz) := by
  refine Met.ofW (cc := prog_7_method_1_code) (maxL := 2) (ret := none) (by decide) rfl ?_
  intro p e s m args below meth c s₁ B hml hv
  obtain ⟨rfl, hsz, hP, ⟨hK, hN⟩, hD0⟩ := hv
  have hx := B.exec
  have hb := B.bytes
  have hr := B.returns
  have hts : ∀ w ∈ GT, w.before ([.ref h0, .ref p1] : List Value).toArray s = true := fun w hw => atoms_spec (ws := Cond.code y_new_Policy prog_7_method_1_code 2 none :: GT) B.pre w (List.mem_cons_of_mem _ hw)
  have hown : s.vm.findClass "BundleHouse$Policy" = some m.cls := findClass_of_methodNamed B.named
  have hlocks := B.notSynchronized
  have hin : meth.name = "<init>" := (name_of_methodNamed B.named B.method).1
  subst hsz
  have hD := hD0.self (sz := s.heap.size)
  generalize hAe : va_A [(h0, .inr (2, [.int 0, .null, .null]))] s.heap.size = A at hD ⊢
  have hA : ∀ q : Nat, s.heap.size ≤ q → A q := fun q h => by rw [← hAe]; exact Or.inr h
  have hS : va_S A s.heap s.heap [] := va_S.rf
  have hl := lv_entry ([.ref h0, .ref p1]) (n := 2) (le_ rfl)
  rw [lg_entry_eq]
  generalize (lg_sl ([.ref h0, .ref p1]) ++ List.replicate (2 - (lg_sl ([.ref h0, .ref p1])).length) Slot.unset).toArray = ls at hl ⊢
  have hl : lv_has ls 2 [(0, .ref h0), (1, .ref p1)] := hl
  have hP : va_P D classes [(h0, .inr (2, [.int 0, .null, .null]))] s.heap := hP
  refine lv_aload_n hx hb (dq dk_new_Policy 0 rfl) rfl (lv_at hl 0 rfl) ?_
  refine W.objInit hx hb hown (hts _ g_1_57) (hts _ g_1_28) (hts _ g_1_29) rfl (by rw [hml]; exact hl.1) rfl (dq dk_new_Policy 1 rfl) (le_ rfl) (le_ rfl) ?_
  refine W.eq (g2 := F0 m 4 ls []) rfl ?_
  refine lv_aload_n hx hb (dq dk_new_Policy 2 rfl) rfl (lv_at hl 0 rfl) ?_
  refine lv_iconst (v := (-1)) hx hb (dq dk_new_Policy 3 rfl) ic_m1 ?_
  refine va_put (D := D) (ci := 2) (v := .int (-1)) (ty := .int) (C := cn_Policy) (T := fT_Policy) (N := 3) hx hb hts ko_Policy.1 ty_Policy ty_Policy_ok nm_Policy hown hK hP hD hS 0 rfl rfl 0 (by decide) (hts _ g_1_156) (fun _ h9 => h9) rfl (by decide +kernel) rfl rfl (le_ rfl) (dq dk_new_Policy 4 rfl) (fun H locs hP hD hS => ?_)
  have hP : va_P D classes [(h0, .inr (2, [.int (-1), .null, .null]))] H := hP
  have hD : va_D A [(h0, .inr (2, [.int (-1), .null, .null]))] := hD
  refine lv_aload_n hx hb (dq dk_new_Policy 5 rfl) rfl (lv_at hl 0 rfl) ?_
  refine lv_aload_n hx hb (dq dk_new_Policy 6 rfl) rfl (lv_at hl 1 rfl) ?_
  refine va_putF (D := D) (ci := 2) (v := .ref p1) (ty := (.object "BundleHouse$Strip")) (C := cn_Policy) (T := fT_Policy) (N := 3) hx hb hts ko_Policy.1 ty_Policy ty_Policy_ok nm_Policy hown hK hP hD hS 0 rfl rfl 1 (by decide) (hts _ g_1_158) (fun _ h9 => h9) rfl hin rfl (by decide +kernel) rfl rfl (le_ rfl) (dq dk_new_Policy 7 rfl) (fun H locs hP hD hS => ?_)
  have hP : va_P D classes [(h0, .inr (2, [.int (-1), .ref p1, .null]))] H := hP
  have hD : va_D A [(h0, .inr (2, [.int (-1), .ref p1, .null]))] := hD
  refine lv_aload_n hx hb (dq dk_new_Policy 8 rfl) rfl (lv_at hl 0 rfl) ?_
  refine va_new (ci := 3) (fs := [.null, .null, .int 0, .int 0, .int 0, .int 0, .int 0, .int 0, .int 0, .int 0]) (C := cn_Reader) (T := fT_Reader) (N := 10) hx hb hts ko_Reader.1 ty_Reader ty_Reader_ok hown (hts _ g_1_58) (hts _ g_1_59) (hts _ g_1_4) hK hP hD hS hA rfl (bl_Reader) (le_ rfl) (le_ rfl) (dq dk_new_Policy 9 rfl) (fun q15 H hP hD hS => ?_)
  have hP : va_P D classes [(h0, .inr (2, [.int (-1), .ref p1, .null])), (q15, .inr (3, [.null, .null, .int 0, .int 0, .int 0, .int 0, .int 0, .int 0, .int 0, .int 0]))] H := hP
  have hD : va_D A [(h0, .inr (2, [.int (-1), .ref p1, .null])), (q15, .inr (3, [.null, .null, .int 0, .int 0, .int 0, .int 0, .int 0, .int 0, .int 0, .int 0]))] := hD
  refine W.widen (k := 1) (n := 10) (le_ rfl) (le_ rfl) ?_
  refine lv_dup hx hb (dq dk_new_Policy 10 rfl) rfl ?_
  refine lv_aload_n hx hb (dq dk_new_Policy 11 rfl) rfl (lv_at hl 1 rfl) ?_
  have hPc := hP.sub (ws' := [(q15, .inr (3, [.null, .null, .int 0, .int 0, .int 0, .int 0, .int 0, .int 0, .int 0, .int 0]))]) [1] rfl
  have hDc := hD.sub (ws' := [(q15, .inr (3, [.null, .null, .int 0, .int 0, .int 0, .int 0, .int 0, .int 0, .int 0, .int 0]))]) [1] (by decide) rfl
  have hFc := va_free (wc := [(q15, .inr (3, [.null, .null, .int 0, .int 0, .int 0, .int 0, .int 0, .int 0, .int 0, .int 0]))]) hD hS hA [1] rfl
  refine va_callv (va_runI (As := [.ref p1]) (rest := [.ref q15, .ref h0]) ⟨hx, hb, hml, hown, hts⟩ (n_Reader l D cI cZ q15 p1 H.size) ⟨callB_of 1 hts (good1 g_1_62) rfl rfl rfl (hts _ g_1_4) (hts _ g_1_60) ⟨by decide, by decide, by decide +kernel⟩ ⟨le_ rfl, le_ rfl⟩, rfl, hts _ g_1_61⟩ ⟨fun a U fr mk q => ⟨q.1, q.2.1, q.2.2.1, q.2.2.2.1.calling fr mk a, q.2.2.2.2⟩, fun U hU hW => ⟨rfl, by rw [hU], by rw [hU]; exact hPc, KC.moved hW ⟨hK, hN⟩, hDc.weaken (fun _ _ _ _ => trivial)⟩⟩ rfl rfl hl.1 rfl (lv_room (le_ rfl)) (dq dk_new_Policy 12 rfl) ⟨le_ rfl, le_ rfl⟩) hS (fun q _ h => hFc q h) hFc (fun u20 t H1 locs ht hvm hw hB hz1 hk1 hS => ?_)
  obtain ⟨hP1, hD1⟩ := hB
  rw [ht] at hP1
  obtain ⟨hP, hD⟩ := va_join (wr := [(h0, .inr (2, [.int (-1), .ref p1, .null]))]) (w1 := [(q15, .inr (3, [.ref (u20.getD 0 0), .ref p1, .int 0, .int 0, .int 0, .int 0, .int 0, .int 0, .int 0, .int 0])), (u20.getD 0 0, .inr (4, [.int 0, .int 0, .int 0, .int 0, .int 0, .int 0, .int 0]))]) hP hD [1] [0] rfl rfl (by decide) (by decide) hk1 hFc hP1 hD1
  generalize H1 = H at hP hS ⊢
  have hP : va_P D classes [(h0, .inr (2, [.int (-1), .ref p1, .null])), (q15, .inr (3, [.ref (u20.getD 0 0), .ref p1, .int 0, .int 0, .int 0, .int 0, .int 0, .int 0, .int 0, .int 0])), (u20.getD 0 0, .inr (4, [.int 0, .int 0, .int 0, .int 0, .int 0, .int 0, .int 0]))] H := hP
  have hD : va_D A [(h0, .inr (2, [.int (-1), .ref p1, .null])), (q15, .inr (3, [.ref (u20.getD 0 0), .ref p1, .int 0, .int 0, .int 0, .int 0, .int 0, .int 0, .int 0, .int 0])), (u20.getD 0 0, .inr (4, [.int 0, .int 0, .int 0, .int 0, .int 0, .int 0, .int 0]))] := hD
  refine W.widen (k := 2) (n := 17) (le_ rfl) (le_ rfl) ?_
  refine va_putF (D := D) (ci := 2) (v := .ref q15) (ty := (.object "BundleHouse$Reader")) (C := cn_Policy) (T := fT_Policy) (N := 3) hx hb hts ko_Policy.1 ty_Policy ty_Policy_ok nm_Policy hown hK hP hD hS 0 rfl rfl 2 (by decide) (hts _ g_1_159) (fun _ h9 => h9) rfl hin rfl (by decide +kernel) rfl rfl (le_ rfl) (dq dk_new_Policy 13 rfl) (fun H locs hP hD hS => ?_)
  have hP : va_P D classes [(h0, .inr (2, [.int (-1), .ref p1, .ref q15])), (q15, .inr (3, [.ref (u20.getD 0 0), .ref p1, .int 0, .int 0, .int 0, .int 0, .int 0, .int 0, .int 0, .int 0])), (u20.getD 0 0, .inr (4, [.int 0, .int 0, .int 0, .int 0, .int 0, .int 0, .int 0]))] H := hP
  have hD : va_D A [(h0, .inr (2, [.int (-1), .ref p1, .ref q15])), (q15, .inr (3, [.ref (u20.getD 0 0), .ref p1, .int 0, .int 0, .int 0, .int 0, .int 0, .int 0, .int 0, .int 0])), (u20.getD 0 0, .inr (4, [.int 0, .int 0, .int 0, .int 0, .int 0, .int 0, .int 0]))] := hD
  exact W.vret hx hb hr (fun t ht hW => ⟨⟨[q15, u20.getD 0 0], rfl, trivial, by rw [ht]; exact hP, hD⟩, hS.F ht⟩) hS.2.2 (dq dk_new_Policy 14 rfl)
theorem bl_Program : ∀ j, j < 14 → defaultValue (ty_Program j) = vp_V [.null, .null, .null, .null, .int 0, .int 0, .null, .null, .null, .null, .null, .null, .null, .null] j := by decide
abbrev y_new_Program : MethodName := ⟨"BundleHouse$Program", "<init>", "()V"⟩
def dl_new_Program : List (Nat × Instr × Nat) := [(0, .aload_n 0, 1), (1, .invokespecial 3, 3), (4, .aload_n 0, 1), (5, .bipush 120, 2), (7, .newarray .int, 2), (9, .putfield 9, 3), (12, .aload_n 0, 1), (13, .bipush 120, 2), (15, .newarray .int, 2), (17, .putfield 15, 3), (20, .aload_n 0, 1), (21, .bipush 120, 2), (23, .newarray .int, 2), (25, .putfield 18, 3), (28, .aload_n 0, 1), (29, .bipush 120, 2), (31, .newarray .int, 2), (33, .putfield 21, 3), (36, .aload_n 0, 1), (37, .bipush 120, 2), (39, .newarray .int, 2), (41, .putfield 24, 3), (44, .aload_n 0, 1), (45, .bipush 120, 2), (47, .newarray .int, 2), (49, .putfield 27, 3), (52, .aload_n 0, 1), (53, .bipush 120, 2), (55, .newarray .int, 2), (57, .putfield 30, 3), (60, .aload_n 0, 1), (61, .bipush 120, 2), (63, .newarray .int, 2), (65, .putfield 33, 3), (68, .aload_n 0, 1), (69, .bipush 120, 2), (71, .newarray .int, 2), (73, .putfield 36, 3), (76, .aload_n 0, 1), (77, .bipush 120, 2), (79, .newarray .int, 2), (81, .putfield 39, 3), (84, .aload_n 0, 1), (85, .bipush 40, 2), (87, .newarray .int, 2), (89, .putfield 42, 3), (92, .aload_n 0, 1), (93, .bipush 64, 2), (95, .newarray .int, 2), (97, .putfield 45, 3), (100, .return_, 1)]
set_option maxRecDepth 100000 in
theorem dk_new_Program : ∀ q ∈ dl_new_Program, decode prog_8_method_1_code q.1 = .ok q.2 := by decide +kernel
abbrev rm_new_Program : Room := { frames := 1, cells := 12, slots := 1304, locals := 12 }
set_option maxHeartbeats 4000000 in
set_option maxRecDepth 100000 in
theorem n_Program (l : Launch) (D : va_G) (cI cZ : ClassId) (h0 : Nat) (sz : Nat) : Met l y_new_Program (Cond.code y_new_Program prog_8_method_1_code 1 none :: GT) rm_new_Program (va_Pc [.ref h0] (fun U => U.heap.size = sz ∧ va_P D classes [(h0, .inr (5, [.null, .null, .null, .null, .int 0, .int 0, .null, .null, .null, .null, .null, .null, .null, .null]))] U.heap ∧ KC D cI cZ U ∧ va_D (fun _ => True) [(h0, .inr (5, [.null, .null, .null, .null, .int 0, .int 0, .null, .null, .null, .null, .null, .null, .null, .null]))])) (va_Qv (fun _ : List Nat => True) (fun u t => va_P D classes [(h0, .inr (5, [.ref (u.getD 0 0), .ref (u.getD 1 0), .ref (u.getD 2 0), .ref (u.getD 3 0), .int 0, .int 0, .ref (u.getD 4 0), .ref (u.getD 5 0), .ref (u.getD 6 0), .ref (u.getD 7 0), .ref (u.getD 8 0), .ref (u.getD 9 0), .ref (u.getD 10 0), .ref (u.getD 11 0)])), (u.getD 0 0, .inl (cI, 120, .inl fun _ => 0)), (u.getD 1 0, .inl (cI, 120, .inl fun _ => 0)), (u.getD 2 0, .inl (cI, 120, .inl fun _ => 0)), (u.getD 3 0, .inl (cI, 120, .inl fun _ => 0)), (u.getD 4 0, .inl (cI, 120, .inl fun _ => 0)), (u.getD 5 0, .inl (cI, 120, .inl fun _ => 0)), (u.getD 6 0, .inl (cI, 120, .inl fun _ => 0)), (u.getD 7 0, .inl (cI, 120, .inl fun _ => 0)), (u.getD 8 0, .inl (cI, 120, .inl fun _ => 0)), (u.getD 9 0, .inl (cI, 120, .inl fun _ => 0)), (u.getD 10 0, .inl (cI, 40, .inl fun _ => 0)), (u.getD 11 0, .inl (cI, 64, .inl fun _ => 0))] t.heap ∧ va_D (va_A [(h0, .inr (5, [.null, .null, .null, .null, .int 0, .int 0, .null, .null, .null, .null, .null, .null, .null, .null]))] sz) [(h0, .inr (5, [.ref (u.getD 0 0), .ref (u.getD 1 0), .ref (u.getD 2 0), .ref (u.getD 3 0), .int 0, .int 0, .ref (u.getD 4 0), .ref (u.getD 5 0), .ref (u.getD 6 0), .ref (u.getD 7 0), .ref (u.getD 8 0), .ref (u.getD 9 0), .ref (u.getD 10 0), .ref (u.getD 11 0)])), (u.getD 0 0, .inl (cI, 120, .inl fun _ => 0)), (u.getD 1 0, .inl (cI, 120, .inl fun _ => 0)), (u.getD 2 0, .inl (cI, 120, .inl fun _ => 0)), (u.getD 3 0, .inl (cI, 120, .inl fun _ => 0)), (u.getD 4 0, .inl (cI, 120, .inl fun _ => 0)), (u.getD 5 0, .inl (cI, 120, .inl fun _ => 0)), (u.getD 6 0, .inl (cI, 120, .inl fun _ => 0)), (u.getD 7 0, .inl (cI, 120, .inl fun _ => 0)), (u.getD 8 0, .inl (cI, 120, .inl fun _ => 0)), (u.getD 9 0, .inl (cI, 120, .inl fun _ => 0)), (u.getD 10 0, .inl (cI, 40, .inl fun _ => 0)), (u.getD 11 0, .inl (cI, 64, .inl fun _ => 0))]) (va_A [(h0, .inr (5, [.null, .null, .null, .null, .int 0, .int 0, .null, .null, .null, .null, .null, .null, .null, .null]))] sz)) 12 1304 (va_A [(h0, .inr (5, [.null, .null, .null, .null, .int 0, .int 0, .null, .null, .null, .null, .null, .null, .null, .null]))] sz) := by
  refine Met.ofW (cc := prog_8_method_1_code) (maxL := 1) (ret := none) (by decide) rfl ?_
  intro p e s m args below meth c s₁ B hml hv
  obtain ⟨rfl, hsz, hP, ⟨hK, hN⟩, hD0⟩ := hv
  have hx := B.exec
  have hb := B.bytes
  have hr := B.returns
  have hts : ∀ w ∈ GT, w.before ([.ref h0] : List Value).toArray s = true := fun w hw => atoms_spec (ws := Cond.code y_new_Program prog_8_method_1_code 1 none :: GT) B.pre w (List.mem_cons_of_mem _ hw)
  have hown : s.vm.findClass "BundleHouse$Program" = some m.cls := findClass_of_methodNamed B.named
  have hlocks := B.notSynchronized
  have hin : meth.name = "<init>" := (name_of_methodNamed B.named B.method).1
  subst hsz
  have hD := hD0.self (sz := s.heap.size)
  generalize hAe : va_A [(h0, .inr (5, [.null, .null, .null, .null, .int 0, .int 0, .null, .null, .null, .null, .null, .null, .null, .null]))] s.heap.size = A at hD ⊢
  have hA : ∀ q : Nat, s.heap.size ≤ q → A q := fun q h => by rw [← hAe]; exact Or.inr h
  have hS : va_S A s.heap s.heap [] := va_S.rf
  have hl := lv_entry ([.ref h0]) (n := 1) (le_ rfl)
  rw [lg_entry_eq]
  generalize (lg_sl ([.ref h0]) ++ List.replicate (1 - (lg_sl ([.ref h0])).length) Slot.unset).toArray = ls at hl ⊢
  have hl : lv_has ls 1 [(0, .ref h0)] := hl
  have hP : va_P D classes [(h0, .inr (5, [.null, .null, .null, .null, .int 0, .int 0, .null, .null, .null, .null, .null, .null, .null, .null]))] s.heap := hP
  refine lv_aload_n hx hb (dq dk_new_Program 0 rfl) rfl (lv_at hl 0 rfl) ?_
  refine W.objInit hx hb hown (hts _ g_1_174) (hts _ g_1_28) (hts _ g_1_29) rfl (by rw [hml]; exact hl.1) rfl (dq dk_new_Program 1 rfl) (le_ rfl) (le_ rfl) ?_
  refine W.eq (g2 := F0 m 4 ls []) rfl ?_
  refine lv_aload_n hx hb (dq dk_new_Program 2 rfl) rfl (lv_at hl 0 rfl) ?_
  refine lv_bipush (v := 120) hx hb (dq dk_new_Program 3 rfl) bp_120 ?_
  refine na_row (atype := .int) (ty := .int) (a0 := (120, .inl fun _ => 0)) hx hb rfl (hts _ g_1_51) hK 0 rfl (fun _ h => h) hP hD hS hA (fun _ => rfl) (by decide) (by decide) (by decide) (le_ rfl) (le_ rfl) (dq dk_new_Program 4 rfl) (fun q7 H hP hD hS => ?_)
  have hP : va_P D classes [(h0, .inr (5, [.null, .null, .null, .null, .int 0, .int 0, .null, .null, .null, .null, .null, .null, .null, .null])), (q7, .inl (cI, 120, .inl fun _ => 0))] H := hP
  have hD : va_D A [(h0, .inr (5, [.null, .null, .null, .null, .int 0, .int 0, .null, .null, .null, .null, .null, .null, .null, .null])), (q7, .inl (cI, 120, .inl fun _ => 0))] := hD
  refine W.widen (k := 1) (n := 120) (le_ rfl) (le_ rfl) ?_
  refine va_putF (D := D) (ci := 5) (v := .ref q7) (ty := (.array .int)) (C := cn_Program) (T := fT_Program) (N := 14) hx hb hts ko_Program.1 ty_Program ty_Program_ok nm_Program hown hK hP hD hS 0 rfl rfl 0 (by decide) (hts _ g_1_175) (fun _ h9 => h9) rfl hin rfl (by decide +kernel) rfl rfl (le_ rfl) (dq dk_new_Program 5 rfl) (fun H locs hP hD hS => ?_)
  have hP : va_P D classes [(h0, .inr (5, [.ref q7, .null, .null, .null, .int 0, .int 0, .null, .null, .null, .null, .null, .null, .null, .null])), (q7, .inl (cI, 120, .inl fun _ => 0))] H := hP
  have hD : va_D A [(h0, .inr (5, [.ref q7, .null, .null, .null, .int 0, .int 0, .null, .null, .null, .null, .null, .null, .null, .null])), (q7, .inl (cI, 120, .inl fun _ => 0))] := hD
  refine lv_aload_n hx hb (dq dk_new_Program 6 rfl) rfl (lv_at hl 0 rfl) ?_
  refine lv_bipush (v := 120) hx hb (dq dk_new_Program 7 rfl) bp_120 ?_
  refine na_row (atype := .int) (ty := .int) (a0 := (120, .inl fun _ => 0)) hx hb rfl (hts _ g_1_51) hK 0 rfl (fun _ h => h) hP hD hS hA (fun _ => rfl) (by decide) (by decide) (by decide) (le_ rfl) (le_ rfl) (dq dk_new_Program 8 rfl) (fun q15 H hP hD hS => ?_)
  have hP : va_P D classes [(h0, .inr (5, [.ref q7, .null, .null, .null, .int 0, .int 0, .null, .null, .null, .null, .null, .null, .null, .null])), (q7, .inl (cI, 120, .inl fun _ => 0)), (q15, .inl (cI, 120, .inl fun _ => 0))] H := hP
  have hD : va_D A [(h0, .inr (5, [.ref q7, .null, .null, .null, .int 0, .int 0, .null, .null, .null, .null, .null, .null, .null, .null])), (q7, .inl (cI, 120, .inl fun _ => 0)), (q15, .inl (cI, 120, .inl fun _ => 0))] := hD
  refine W.widen (k := 2) (n := 240) (le_ rfl) (le_ rfl) ?_
  refine va_putF (D := D) (ci := 5) (v := .ref q15) (ty := (.array .int)) (C := cn_Program) (T := fT_Program) (N := 14) hx hb hts ko_Program.1 ty_Program ty_Program_ok nm_Program hown hK hP hD hS 0 rfl rfl 1 (by decide) (hts _ g_1_178) (fun _ h9 => h9) rfl hin rfl (by decide +kernel) rfl rfl (le_ rfl) (dq dk_new_Program 9 rfl) (fun H locs hP hD hS => ?_)
  have hP : va_P D classes [(h0, .inr (5, [.ref q7, .ref q15, .null, .null, .int 0, .int 0, .null, .null, .null, .null, .null, .null, .null, .null])), (q7, .inl (cI, 120, .inl fun _ => 0)), (q15, .inl (cI, 120, .inl fun _ => 0))] H := hP
  have hD : va_D A [(h0, .inr (5, [.ref q7, .ref q15, .null, .null, .int 0, .int 0, .null, .null, .null, .null, .null, .null, .null, .null])), (q7, .inl (cI, 120, .inl fun _ => 0)), (q15, .inl (cI, 120, .inl fun _ => 0))] := hD
  refine lv_aload_n hx hb (dq dk_new_Program 10 rfl) rfl (lv_at hl 0 rfl) ?_
  refine lv_bipush (v := 120) hx hb (dq dk_new_Program 11 rfl) bp_120 ?_
  refine na_row (atype := .int) (ty := .int) (a0 := (120, .inl fun _ => 0)) hx hb rfl (hts _ g_1_51) hK 0 rfl (fun _ h => h) hP hD hS hA (fun _ => rfl) (by decide) (by decide) (by decide) (le_ rfl) (le_ rfl) (dq dk_new_Program 12 rfl) (fun q23 H hP hD hS => ?_)
  have hP : va_P D classes [(h0, .inr (5, [.ref q7, .ref q15, .null, .null, .int 0, .int 0, .null, .null, .null, .null, .null, .null, .null, .null])), (q7, .inl (cI, 120, .inl fun _ => 0)), (q15, .inl (cI, 120, .inl fun _ => 0)), (q23, .inl (cI, 120, .inl fun _ => 0))] H := hP
  have hD : va_D A [(h0, .inr (5, [.ref q7, .ref q15, .null, .null, .int 0, .int 0, .null, .null, .null, .null, .null, .null, .null, .null])), (q7, .inl (cI, 120, .inl fun _ => 0)), (q15, .inl (cI, 120, .inl fun _ => 0)), (q23, .inl (cI, 120, .inl fun _ => 0))] := hD
  refine W.widen (k := 3) (n := 360) (le_ rfl) (le_ rfl) ?_
  refine va_putF (D := D) (ci := 5) (v := .ref q23) (ty := (.array .int)) (C := cn_Program) (T := fT_Program) (N := 14) hx hb hts ko_Program.1 ty_Program ty_Program_ok nm_Program hown hK hP hD hS 0 rfl rfl 2 (by decide) (hts _ g_1_181) (fun _ h9 => h9) rfl hin rfl (by decide +kernel) rfl rfl (le_ rfl) (dq dk_new_Program 13 rfl) (fun H locs hP hD hS => ?_)
  have hP : va_P D classes [(h0, .inr (5, [.ref q7, .ref q15, .ref q23, .null, .int 0, .int 0, .null, .null, .null, .null, .null, .null, .null, .null])), (q7, .inl (cI, 120, .inl fun _ => 0)), (q15, .inl (cI, 120, .inl fun _ => 0)), (q23, .inl (cI, 120, .inl fun _ => 0))] H := hP
  have hD : va_D A [(h0, .inr (5, [.ref q7, .ref q15, .ref q23, .null, .int 0, .int 0, .null, .null, .null, .null, .null, .null, .null, .null])), (q7, .inl (cI, 120, .inl fun _ => 0)), (q15, .inl (cI, 120, .inl fun _ => 0)), (q23, .inl (cI, 120, .inl fun _ => 0))] := hD
  refine lv_aload_n hx hb (dq dk_new_Program 14 rfl) rfl (lv_at hl 0 rfl) ?_
  refine lv_bipush (v := 120) hx hb (dq dk_new_Program 15 rfl) bp_120 ?_
  refine na_row (atype := .int) (ty := .int) (a0 := (120, .inl fun _ => 0)) hx hb rfl (hts _ g_1_51) hK 0 rfl (fun _ h => h) hP hD hS hA (fun _ => rfl) (by decide) (by decide) (by decide) (le_ rfl) (le_ rfl) (dq dk_new_Program 16 rfl) (fun q31 H hP hD hS => ?_)
  have hP : va_P D classes [(h0, .inr (5, [.ref q7, .ref q15, .ref q23, .null, .int 0, .int 0, .null, .null, .null, .null, .null, .null, .null, .null])), (q7, .inl (cI, 120, .inl fun _ => 0)), (q15, .inl (cI, 120, .inl fun _ => 0)), (q23, .inl (cI, 120, .inl fun _ => 0)), (q31, .inl (cI, 120, .inl fun _ => 0))] H := hP
  have hD : va_D A [(h0, .inr (5, [.ref q7, .ref q15, .ref q23, .null, .int 0, .int 0, .null, .null, .null, .null, .null, .null, .null, .null])), (q7, .inl (cI, 120, .inl fun _ => 0)), (q15, .inl (cI, 120, .inl fun _ => 0)), (q23, .inl (cI, 120, .inl fun _ => 0)), (q31, .inl (cI, 120, .inl fun _ => 0))] := hD
  refine W.widen (k := 4) (n := 480) (le_ rfl) (le_ rfl) ?_
  refine va_putF (D := D) (ci := 5) (v := .ref q31) (ty := (.array .int)) (C := cn_Program) (T := fT_Program) (N := 14) hx hb hts ko_Program.1 ty_Program ty_Program_ok nm_Program hown hK hP hD hS 0 rfl rfl 3 (by decide) (hts _ g_1_184) (fun _ h9 => h9) rfl hin rfl (by decide +kernel) rfl rfl (le_ rfl) (dq dk_new_Program 17 rfl) (fun H locs hP hD hS => ?_)
  have hP : va_P D classes [(h0, .inr (5, [.ref q7, .ref q15, .ref q23, .ref q31, .int 0, .int 0, .null, .null, .null, .null, .null, .null, .null, .null])), (q7, .inl (cI, 120, .inl fun _ => 0)), (q15, .inl (cI, 120, .inl fun _ => 0)), (q23, .inl (cI, 120, .inl fun _ => 0)), (q31, .inl (cI, 120, .inl fun _ => 0))] H := hP
  have hD : va_D A [(h0, .inr (5, [.ref q7, .ref q15, .ref q23, .ref q31, .int 0, .int 0, .null, .null, .null, .null, .null, .null, .null, .null])), (q7, .inl (cI, 120, .inl fun _ => 0)), (q15, .inl (cI, 120, .inl fun _ => 0)), (q23, .inl (cI, 120, .inl fun _ => 0)), (q31, .inl (cI, 120, .inl fun _ => 0))] := hD
  refine lv_aload_n hx hb (dq dk_new_Program 18 rfl) rfl (lv_at hl 0 rfl) ?_
  refine lv_bipush (v := 120) hx hb (dq dk_new_Program 19 rfl) bp_120 ?_
  refine na_row (atype := .int) (ty := .int) (a0 := (120, .inl fun _ => 0)) hx hb rfl (hts _ g_1_51) hK 0 rfl (fun _ h => h) hP hD hS hA (fun _ => rfl) (by decide) (by decide) (by decide) (le_ rfl) (le_ rfl) (dq dk_new_Program 20 rfl) (fun q39 H hP hD hS => ?_)
  have hP : va_P D classes [(h0, .inr (5, [.ref q7, .ref q15, .ref q23, .ref q31, .int 0, .int 0, .null, .null, .null, .null, .null, .null, .null, .null])), (q7, .inl (cI, 120, .inl fun _ => 0)), (q15, .inl (cI, 120, .inl fun _ => 0)), (q23, .inl (cI, 120, .inl fun _ => 0)), (q31, .inl (cI, 120, .inl fun _ => 0)), (q39, .inl (cI, 120, .inl fun _ => 0))] H := hP
  have hD : va_D A [(h0, .inr (5, [.ref q7, .ref q15, .ref q23, .ref q31, .int 0, .int 0, .null, .null, .null, .null, .null, .null, .null, .null])), (q7, .inl (cI, 120, .inl fun _ => 0)), (q15, .inl (cI, 120, .inl fun _ => 0)), (q23, .inl (cI, 120, .inl fun _ => 0)), (q31, .inl (cI, 120, .inl fun _ => 0)), (q39, .inl (cI, 120, .inl fun _ => 0))] := hD
  refine W.widen (k := 5) (n := 600) (le_ rfl) (le_ rfl) ?_
  refine va_putF (D := D) (ci := 5) (v := .ref q39) (ty := (.array .int)) (C := cn_Program) (T := fT_Program) (N := 14) hx hb hts ko_Program.1 ty_Program ty_Program_ok nm_Program hown hK hP hD hS 0 rfl rfl 6 (by decide) (hts _ g_1_191) (fun _ h9 => h9) rfl hin rfl (by decide +kernel) rfl rfl (le_ rfl) (dq dk_new_Program 21 rfl) (fun H locs hP hD hS => ?_)
  have hP : va_P D classes [(h0, .inr (5, [.ref q7, .ref q15, .ref q23, .ref q31, .int 0, .int 0, .ref q39, .null, .null, .null, .null, .null, .null, .null])), (q7, .inl (cI, 120, .inl fun _ => 0)), (q15, .inl (cI, 120, .inl fun _ => 0)), (q23, .inl (cI, 120, .inl fun _ => 0)), (q31, .inl (cI, 120, .inl fun _ => 0)), (q39, .inl (cI, 120, .inl fun _ => 0))] H := hP
  have hD : va_D A [(h0, .inr (5, [.ref q7, .ref q15, .ref q23, .ref q31, .int 0, .int 0, .ref q39, .null, .null, .null, .null, .null, .null, .null])), (q7, .inl (cI, 120, .inl fun _ => 0)), (q15, .inl (cI, 120, .inl fun _ => 0)), (q23, .inl (cI, 120, .inl fun _ => 0)), (q31, .inl (cI, 120, .inl fun _ => 0)), (q39, .inl (cI, 120, .inl fun _ => 0))] := hD
  refine lv_aload_n hx hb (dq dk_new_Program 22 rfl) rfl (lv_at hl 0 rfl) ?_
  refine lv_bipush (v := 120) hx hb (dq dk_new_Program 23 rfl) bp_120 ?_
  refine na_row (atype := .int) (ty := .int) (a0 := (120, .inl fun _ => 0)) hx hb rfl (hts _ g_1_51) hK 0 rfl (fun _ h => h) hP hD hS hA (fun _ => rfl) (by decide) (by decide) (by decide) (le_ rfl) (le_ rfl) (dq dk_new_Program 24 rfl) (fun q47 H hP hD hS => ?_)
  have hP : va_P D classes [(h0, .inr (5, [.ref q7, .ref q15, .ref q23, .ref q31, .int 0, .int 0, .ref q39, .null, .null, .null, .null, .null, .null, .null])), (q7, .inl (cI, 120, .inl fun _ => 0)), (q15, .inl (cI, 120, .inl fun _ => 0)), (q23, .inl (cI, 120, .inl fun _ => 0)), (q31, .inl (cI, 120, .inl fun _ => 0)), (q39, .inl (cI, 120, .inl fun _ => 0)), (q47, .inl (cI, 120, .inl fun _ => 0))] H := hP
  have hD : va_D A [(h0, .inr (5, [.ref q7, .ref q15, .ref q23, .ref q31, .int 0, .int 0, .ref q39, .null, .null, .null, .null, .null, .null, .null])), (q7, .inl (cI, 120, .inl fun _ => 0)), (q15, .inl (cI, 120, .inl fun _ => 0)), (q23, .inl (cI, 120, .inl fun _ => 0)), (q31, .inl (cI, 120, .inl fun _ => 0)), (q39, .inl (cI, 120, .inl fun _ => 0)), (q47, .inl (cI, 120, .inl fun _ => 0))] := hD
  refine W.widen (k := 6) (n := 720) (le_ rfl) (le_ rfl) ?_
  refine va_putF (D := D) (ci := 5) (v := .ref q47) (ty := (.array .int)) (C := cn_Program) (T := fT_Program) (N := 14) hx hb hts ko_Program.1 ty_Program ty_Program_ok nm_Program hown hK hP hD hS 0 rfl rfl 7 (by decide) (hts _ g_1_192) (fun _ h9 => h9) rfl hin rfl (by decide +kernel) rfl rfl (le_ rfl) (dq dk_new_Program 25 rfl) (fun H locs hP hD hS => ?_)
  have hP : va_P D classes [(h0, .inr (5, [.ref q7, .ref q15, .ref q23, .ref q31, .int 0, .int 0, .ref q39, .ref q47, .null, .null, .null, .null, .null, .null])), (q7, .inl (cI, 120, .inl fun _ => 0)), (q15, .inl (cI, 120, .inl fun _ => 0)), (q23, .inl (cI, 120, .inl fun _ => 0)), (q31, .inl (cI, 120, .inl fun _ => 0)), (q39, .inl (cI, 120, .inl fun _ => 0)), (q47, .inl (cI, 120, .inl fun _ => 0))] H := hP
  have hD : va_D A [(h0, .inr (5, [.ref q7, .ref q15, .ref q23, .ref q31, .int 0, .int 0, .ref q39, .ref q47, .null, .null, .null, .null, .null, .null])), (q7, .inl (cI, 120, .inl fun _ => 0)), (q15, .inl (cI, 120, .inl fun _ => 0)), (q23, .inl (cI, 120, .inl fun _ => 0)), (q31, .inl (cI, 120, .inl fun _ => 0)), (q39, .inl (cI, 120, .inl fun _ => 0)), (q47, .inl (cI, 120, .inl fun _ => 0))] := hD
  refine lv_aload_n hx hb (dq dk_new_Program 26 rfl) rfl (lv_at hl 0 rfl) ?_
  refine lv_bipush (v := 120) hx hb (dq dk_new_Program 27 rfl) bp_120 ?_
  refine na_row (atype := .int) (ty := .int) (a0 := (120, .inl fun _ => 0)) hx hb rfl (hts _ g_1_51) hK 0 rfl (fun _ h => h) hP hD hS hA (fun _ => rfl) (by decide) (by decide) (by decide) (le_ rfl) (le_ rfl) (dq dk_new_Program 28 rfl) (fun q55 H hP hD hS => ?_)
  have hP : va_P D classes [(h0, .inr (5, [.ref q7, .ref q15, .ref q23, .ref q31, .int 0, .int 0, .ref q39, .ref q47, .null, .null, .null, .null, .null, .null])), (q7, .inl (cI, 120, .inl fun _ => 0)), (q15, .inl (cI, 120, .inl fun _ => 0)), (q23, .inl (cI, 120, .inl fun _ => 0)), (q31, .inl (cI, 120, .inl fun _ => 0)), (q39, .inl (cI, 120, .inl fun _ => 0)), (q47, .inl (cI, 120, .inl fun _ => 0)), (q55, .inl (cI, 120, .inl fun _ => 0))] H := hP
  have hD : va_D A [(h0, .inr (5, [.ref q7, .ref q15, .ref q23, .ref q31, .int 0, .int 0, .ref q39, .ref q47, .null, .null, .null, .null, .null, .null])), (q7, .inl (cI, 120, .inl fun _ => 0)), (q15, .inl (cI, 120, .inl fun _ => 0)), (q23, .inl (cI, 120, .inl fun _ => 0)), (q31, .inl (cI, 120, .inl fun _ => 0)), (q39, .inl (cI, 120, .inl fun _ => 0)), (q47, .inl (cI, 120, .inl fun _ => 0)), (q55, .inl (cI, 120, .inl fun _ => 0))] := hD
  refine W.widen (k := 7) (n := 840) (le_ rfl) (le_ rfl) ?_
  refine va_putF (D := D) (ci := 5) (v := .ref q55) (ty := (.array .int)) (C := cn_Program) (T := fT_Program) (N := 14) hx hb hts ko_Program.1 ty_Program ty_Program_ok nm_Program hown hK hP hD hS 0 rfl rfl 8 (by decide) (hts _ g_1_193) (fun _ h9 => h9) rfl hin rfl (by decide +kernel) rfl rfl (le_ rfl) (dq dk_new_Program 29 rfl) (fun H locs hP hD hS => ?_)
  have hP : va_P D classes [(h0, .inr (5, [.ref q7, .ref q15, .ref q23, .ref q31, .int 0, .int 0, .ref q39, .ref q47, .ref q55, .null, .null, .null, .null, .null])), (q7, .inl (cI, 120, .inl fun _ => 0)), (q15, .inl (cI, 120, .inl fun _ => 0)), (q23, .inl (cI, 120, .inl fun _ => 0)), (q31, .inl (cI, 120, .inl fun _ => 0)), (q39, .inl (cI, 120, .inl fun _ => 0)), (q47, .inl (cI, 120, .inl fun _ => 0)), (q55, .inl (cI, 120, .inl fun _ => 0))] H := hP
  have hD : va_D A [(h0, .inr (5, [.ref q7, .ref q15, .ref q23, .ref q31, .int 0, .int 0, .ref q39, .ref q47, .ref q55, .null, .null, .null, .null, .null])), (q7, .inl (cI, 120, .inl fun _ => 0)), (q15, .inl (cI, 120, .inl fun _ => 0)), (q23, .inl (cI, 120, .inl fun _ => 0)), (q31, .inl (cI, 120, .inl fun _ => 0)), (q39, .inl (cI, 120, .inl fun _ => 0)), (q47, .inl (cI, 120, .inl fun _ => 0)), (q55, .inl (cI, 120, .inl fun _ => 0))] := hD
  refine lv_aload_n hx hb (dq dk_new_Program 30 rfl) rfl (lv_at hl 0 rfl) ?_
  refine lv_bipush (v := 120) hx hb (dq dk_new_Program 31 rfl) bp_120 ?_
  refine na_row (atype := .int) (ty := .int) (a0 := (120, .inl fun _ => 0)) hx hb rfl (hts _ g_1_51) hK 0 rfl (fun _ h => h) hP hD hS hA (fun _ => rfl) (by decide) (by decide) (by decide) (le_ rfl) (le_ rfl) (dq dk_new_Program 32 rfl) (fun q63 H hP hD hS => ?_)
  have hP : va_P D classes [(h0, .inr (5, [.ref q7, .ref q15, .ref q23, .ref q31, .int 0, .int 0, .ref q39, .ref q47, .ref q55, .null, .null, .null, .null, .null])), (q7, .inl (cI, 120, .inl fun _ => 0)), (q15, .inl (cI, 120, .inl fun _ => 0)), (q23, .inl (cI, 120, .inl fun _ => 0)), (q31, .inl (cI, 120, .inl fun _ => 0)), (q39, .inl (cI, 120, .inl fun _ => 0)), (q47, .inl (cI, 120, .inl fun _ => 0)), (q55, .inl (cI, 120, .inl fun _ => 0)), (q63, .inl (cI, 120, .inl fun _ => 0))] H := hP
  have hD : va_D A [(h0, .inr (5, [.ref q7, .ref q15, .ref q23, .ref q31, .int 0, .int 0, .ref q39, .ref q47, .ref q55, .null, .null, .null, .null, .null])), (q7, .inl (cI, 120, .inl fun _ => 0)), (q15, .inl (cI, 120, .inl fun _ => 0)), (q23, .inl (cI, 120, .inl fun _ => 0)), (q31, .inl (cI, 120, .inl fun _ => 0)), (q39, .inl (cI, 120, .inl fun _ => 0)), (q47, .inl (cI, 120, .inl fun _ => 0)), (q55, .inl (cI, 120, .inl fun _ => 0)), (q63, .inl (cI, 120, .inl fun _ => 0))] := hD
  refine W.widen (k := 8) (n := 960) (le_ rfl) (le_ rfl) ?_
  refine va_putF (D := D) (ci := 5) (v := .ref q63) (ty := (.array .int)) (C := cn_Program) (T := fT_Program) (N := 14) hx hb hts ko_Program.1 ty_Program ty_Program_ok nm_Program hown hK hP hD hS 0 rfl rfl 9 (by decide) (hts _ g_1_194) (fun _ h9 => h9) rfl hin rfl (by decide +kernel) rfl rfl (le_ rfl) (dq dk_new_Program 33 rfl) (fun H locs hP hD hS => ?_)
  have hP : va_P D classes [(h0, .inr (5, [.ref q7, .ref q15, .ref q23, .ref q31, .int 0, .int 0, .ref q39, .ref q47, .ref q55, .ref q63, .null, .null, .null, .null])), (q7, .inl (cI, 120, .inl fun _ => 0)), (q15, .inl (cI, 120, .inl fun _ => 0)), (q23, .inl (cI, 120, .inl fun _ => 0)), (q31, .inl (cI, 120, .inl fun _ => 0)), (q39, .inl (cI, 120, .inl fun _ => 0)), (q47, .inl (cI, 120, .inl fun _ => 0)), (q55, .inl (cI, 120, .inl fun _ => 0)), (q63, .inl (cI, 120, .inl fun _ => 0))] H := hP
  have hD : va_D A [(h0, .inr (5, [.ref q7, .ref q15, .ref q23, .ref q31, .int 0, .int 0, .ref q39, .ref q47, .ref q55, .ref q63, .null, .null, .null, .null])), (q7, .inl (cI, 120, .inl fun _ => 0)), (q15, .inl (cI, 120, .inl fun _ => 0)), (q23, .inl (cI, 120, .inl fun _ => 0)), (q31, .inl (cI, 120, .inl fun _ => 0)), (q39, .inl (cI, 120, .inl fun _ => 0)), (q47, .inl (cI, 120, .inl fun _ => 0)), (q55, .inl (cI, 120, .inl fun _ => 0)), (q63, .inl (cI, 120, .inl fun _ => 0))] := hD
  refine lv_aload_n hx hb (dq dk_new_Program 34 rfl) rfl (lv_at hl 0 rfl) ?_
  refine lv_bipush (v := 120) hx hb (dq dk_new_Program 35 rfl) bp_120 ?_
  refine na_row (atype := .int) (ty := .int) (a0 := (120, .inl fun _ => 0)) hx hb rfl (hts _ g_1_51) hK 0 rfl (fun _ h => h) hP hD hS hA (fun _ => rfl) (by decide) (by decide) (by decide) (le_ rfl) (le_ rfl) (dq dk_new_Program 36 rfl) (fun q71 H hP hD hS => ?_)
  have hP : va_P D classes [(h0, .inr (5, [.ref q7, .ref q15, .ref q23, .ref q31, .int 0, .int 0, .ref q39, .ref q47, .ref q55, .ref q63, .null, .null, .null, .null])), (q7, .inl (cI, 120, .inl fun _ => 0)), (q15, .inl (cI, 120, .inl fun _ => 0)), (q23, .inl (cI, 120, .inl fun _ => 0)), (q31, .inl (cI, 120, .inl fun _ => 0)), (q39, .inl (cI, 120, .inl fun _ => 0)), (q47, .inl (cI, 120, .inl fun _ => 0)), (q55, .inl (cI, 120, .inl fun _ => 0)), (q63, .inl (cI, 120, .inl fun _ => 0)), (q71, .inl (cI, 120, .inl fun _ => 0))] H := hP
  have hD : va_D A [(h0, .inr (5, [.ref q7, .ref q15, .ref q23, .ref q31, .int 0, .int 0, .ref q39, .ref q47, .ref q55, .ref q63, .null, .null, .null, .null])), (q7, .inl (cI, 120, .inl fun _ => 0)), (q15, .inl (cI, 120, .inl fun _ => 0)), (q23, .inl (cI, 120, .inl fun _ => 0)), (q31, .inl (cI, 120, .inl fun _ => 0)), (q39, .inl (cI, 120, .inl fun _ => 0)), (q47, .inl (cI, 120, .inl fun _ => 0)), (q55, .inl (cI, 120, .inl fun _ => 0)), (q63, .inl (cI, 120, .inl fun _ => 0)), (q71, .inl (cI, 120, .inl fun _ => 0))] := hD
  refine W.widen (k := 9) (n := 1080) (le_ rfl) (le_ rfl) ?_
  refine va_putF (D := D) (ci := 5) (v := .ref q71) (ty := (.array .int)) (C := cn_Program) (T := fT_Program) (N := 14) hx hb hts ko_Program.1 ty_Program ty_Program_ok nm_Program hown hK hP hD hS 0 rfl rfl 10 (by decide) (hts _ g_1_195) (fun _ h9 => h9) rfl hin rfl (by decide +kernel) rfl rfl (le_ rfl) (dq dk_new_Program 37 rfl) (fun H locs hP hD hS => ?_)
  have hP : va_P D classes [(h0, .inr (5, [.ref q7, .ref q15, .ref q23, .ref q31, .int 0, .int 0, .ref q39, .ref q47, .ref q55, .ref q63, .ref q71, .null, .null, .null])), (q7, .inl (cI, 120, .inl fun _ => 0)), (q15, .inl (cI, 120, .inl fun _ => 0)), (q23, .inl (cI, 120, .inl fun _ => 0)), (q31, .inl (cI, 120, .inl fun _ => 0)), (q39, .inl (cI, 120, .inl fun _ => 0)), (q47, .inl (cI, 120, .inl fun _ => 0)), (q55, .inl (cI, 120, .inl fun _ => 0)), (q63, .inl (cI, 120, .inl fun _ => 0)), (q71, .inl (cI, 120, .inl fun _ => 0))] H := hP
  have hD : va_D A [(h0, .inr (5, [.ref q7, .ref q15, .ref q23, .ref q31, .int 0, .int 0, .ref q39, .ref q47, .ref q55, .ref q63, .ref q71, .null, .null, .null])), (q7, .inl (cI, 120, .inl fun _ => 0)), (q15, .inl (cI, 120, .inl fun _ => 0)), (q23, .inl (cI, 120, .inl fun _ => 0)), (q31, .inl (cI, 120, .inl fun _ => 0)), (q39, .inl (cI, 120, .inl fun _ => 0)), (q47, .inl (cI, 120, .inl fun _ => 0)), (q55, .inl (cI, 120, .inl fun _ => 0)), (q63, .inl (cI, 120, .inl fun _ => 0)), (q71, .inl (cI, 120, .inl fun _ => 0))] := hD
  refine lv_aload_n hx hb (dq dk_new_Program 38 rfl) rfl (lv_at hl 0 rfl) ?_
  refine lv_bipush (v := 120) hx hb (dq dk_new_Program 39 rfl) bp_120 ?_
  refine na_row (atype := .int) (ty := .int) (a0 := (120, .inl fun _ => 0)) hx hb rfl (hts _ g_1_51) hK 0 rfl (fun _ h => h) hP hD hS hA (fun _ => rfl) (by decide) (by decide) (by decide) (le_ rfl) (le_ rfl) (dq dk_new_Program 40 rfl) (fun q79 H hP hD hS => ?_)
  have hP : va_P D classes [(h0, .inr (5, [.ref q7, .ref q15, .ref q23, .ref q31, .int 0, .int 0, .ref q39, .ref q47, .ref q55, .ref q63, .ref q71, .null, .null, .null])), (q7, .inl (cI, 120, .inl fun _ => 0)), (q15, .inl (cI, 120, .inl fun _ => 0)), (q23, .inl (cI, 120, .inl fun _ => 0)), (q31, .inl (cI, 120, .inl fun _ => 0)), (q39, .inl (cI, 120, .inl fun _ => 0)), (q47, .inl (cI, 120, .inl fun _ => 0)), (q55, .inl (cI, 120, .inl fun _ => 0)), (q63, .inl (cI, 120, .inl fun _ => 0)), (q71, .inl (cI, 120, .inl fun _ => 0)), (q79, .inl (cI, 120, .inl fun _ => 0))] H := hP
  have hD : va_D A [(h0, .inr (5, [.ref q7, .ref q15, .ref q23, .ref q31, .int 0, .int 0, .ref q39, .ref q47, .ref q55, .ref q63, .ref q71, .null, .null, .null])), (q7, .inl (cI, 120, .inl fun _ => 0)), (q15, .inl (cI, 120, .inl fun _ => 0)), (q23, .inl (cI, 120, .inl fun _ => 0)), (q31, .inl (cI, 120, .inl fun _ => 0)), (q39, .inl (cI, 120, .inl fun _ => 0)), (q47, .inl (cI, 120, .inl fun _ => 0)), (q55, .inl (cI, 120, .inl fun _ => 0)), (q63, .inl (cI, 120, .inl fun _ => 0)), (q71, .inl (cI, 120, .inl fun _ => 0)), (q79, .inl (cI, 120, .inl fun _ => 0))] := hD
  refine W.widen (k := 10) (n := 1200) (le_ rfl) (le_ rfl) ?_
  refine va_putF (D := D) (ci := 5) (v := .ref q79) (ty := (.array .int)) (C := cn_Program) (T := fT_Program) (N := 14) hx hb hts ko_Program.1 ty_Program ty_Program_ok nm_Program hown hK hP hD hS 0 rfl rfl 11 (by decide) (hts _ g_1_196) (fun _ h9 => h9) rfl hin rfl (by decide +kernel) rfl rfl (le_ rfl) (dq dk_new_Program 41 rfl) (fun H locs hP hD hS => ?_)
  have hP : va_P D classes [(h0, .inr (5, [.ref q7, .ref q15, .ref q23, .ref q31, .int 0, .int 0, .ref q39, .ref q47, .ref q55, .ref q63, .ref q71, .ref q79, .null, .null])), (q7, .inl (cI, 120, .inl fun _ => 0)), (q15, .inl (cI, 120, .inl fun _ => 0)), (q23, .inl (cI, 120, .inl fun _ => 0)), (q31, .inl (cI, 120, .inl fun _ => 0)), (q39, .inl (cI, 120, .inl fun _ => 0)), (q47, .inl (cI, 120, .inl fun _ => 0)), (q55, .inl (cI, 120, .inl fun _ => 0)), (q63, .inl (cI, 120, .inl fun _ => 0)), (q71, .inl (cI, 120, .inl fun _ => 0)), (q79, .inl (cI, 120, .inl fun _ => 0))] H := hP
  have hD : va_D A [(h0, .inr (5, [.ref q7, .ref q15, .ref q23, .ref q31, .int 0, .int 0, .ref q39, .ref q47, .ref q55, .ref q63, .ref q71, .ref q79, .null, .null])), (q7, .inl (cI, 120, .inl fun _ => 0)), (q15, .inl (cI, 120, .inl fun _ => 0)), (q23, .inl (cI, 120, .inl fun _ => 0)), (q31, .inl (cI, 120, .inl fun _ => 0)), (q39, .inl (cI, 120, .inl fun _ => 0)), (q47, .inl (cI, 120, .inl fun _ => 0)), (q55, .inl (cI, 120, .inl fun _ => 0)), (q63, .inl (cI, 120, .inl fun _ => 0)), (q71, .inl (cI, 120, .inl fun _ => 0)), (q79, .inl (cI, 120, .inl fun _ => 0))] := hD
  refine lv_aload_n hx hb (dq dk_new_Program 42 rfl) rfl (lv_at hl 0 rfl) ?_
  refine lv_bipush (v := 40) hx hb (dq dk_new_Program 43 rfl) bp_40 ?_
  refine na_row (atype := .int) (ty := .int) (a0 := (40, .inl fun _ => 0)) hx hb rfl (hts _ g_1_51) hK 0 rfl (fun _ h => h) hP hD hS hA (fun _ => rfl) (by decide) (by decide) (by decide) (le_ rfl) (le_ rfl) (dq dk_new_Program 44 rfl) (fun q87 H hP hD hS => ?_)
  have hP : va_P D classes [(h0, .inr (5, [.ref q7, .ref q15, .ref q23, .ref q31, .int 0, .int 0, .ref q39, .ref q47, .ref q55, .ref q63, .ref q71, .ref q79, .null, .null])), (q7, .inl (cI, 120, .inl fun _ => 0)), (q15, .inl (cI, 120, .inl fun _ => 0)), (q23, .inl (cI, 120, .inl fun _ => 0)), (q31, .inl (cI, 120, .inl fun _ => 0)), (q39, .inl (cI, 120, .inl fun _ => 0)), (q47, .inl (cI, 120, .inl fun _ => 0)), (q55, .inl (cI, 120, .inl fun _ => 0)), (q63, .inl (cI, 120, .inl fun _ => 0)), (q71, .inl (cI, 120, .inl fun _ => 0)), (q79, .inl (cI, 120, .inl fun _ => 0)), (q87, .inl (cI, 40, .inl fun _ => 0))] H := hP
  have hD : va_D A [(h0, .inr (5, [.ref q7, .ref q15, .ref q23, .ref q31, .int 0, .int 0, .ref q39, .ref q47, .ref q55, .ref q63, .ref q71, .ref q79, .null, .null])), (q7, .inl (cI, 120, .inl fun _ => 0)), (q15, .inl (cI, 120, .inl fun _ => 0)), (q23, .inl (cI, 120, .inl fun _ => 0)), (q31, .inl (cI, 120, .inl fun _ => 0)), (q39, .inl (cI, 120, .inl fun _ => 0)), (q47, .inl (cI, 120, .inl fun _ => 0)), (q55, .inl (cI, 120, .inl fun _ => 0)), (q63, .inl (cI, 120, .inl fun _ => 0)), (q71, .inl (cI, 120, .inl fun _ => 0)), (q79, .inl (cI, 120, .inl fun _ => 0)), (q87, .inl (cI, 40, .inl fun _ => 0))] := hD
  refine W.widen (k := 11) (n := 1240) (le_ rfl) (le_ rfl) ?_
  refine va_putF (D := D) (ci := 5) (v := .ref q87) (ty := (.array .int)) (C := cn_Program) (T := fT_Program) (N := 14) hx hb hts ko_Program.1 ty_Program ty_Program_ok nm_Program hown hK hP hD hS 0 rfl rfl 12 (by decide) (hts _ g_1_197) (fun _ h9 => h9) rfl hin rfl (by decide +kernel) rfl rfl (le_ rfl) (dq dk_new_Program 45 rfl) (fun H locs hP hD hS => ?_)
  have hP : va_P D classes [(h0, .inr (5, [.ref q7, .ref q15, .ref q23, .ref q31, .int 0, .int 0, .ref q39, .ref q47, .ref q55, .ref q63, .ref q71, .ref q79, .ref q87, .null])), (q7, .inl (cI, 120, .inl fun _ => 0)), (q15, .inl (cI, 120, .inl fun _ => 0)), (q23, .inl (cI, 120, .inl fun _ => 0)), (q31, .inl (cI, 120, .inl fun _ => 0)), (q39, .inl (cI, 120, .inl fun _ => 0)), (q47, .inl (cI, 120, .inl fun _ => 0)), (q55, .inl (cI, 120, .inl fun _ => 0)), (q63, .inl (cI, 120, .inl fun _ => 0)), (q71, .inl (cI, 120, .inl fun _ => 0)), (q79, .inl (cI, 120, .inl fun _ => 0)), (q87, .inl (cI, 40, .inl fun _ => 0))] H := hP
  have hD : va_D A [(h0, .inr (5, [.ref q7, .ref q15, .ref q23, .ref q31, .int 0, .int 0, .ref q39, .ref q47, .ref q55, .ref q63, .ref q71, .ref q79, .ref q87, .null])), (q7, .inl (cI, 120, .inl fun _ => 0)), (q15, .inl (cI, 120, .inl fun _ => 0)), (q23, .inl (cI, 120, .inl fun _ => 0)), (q31, .inl (cI, 120, .inl fun _ => 0)), (q39, .inl (cI, 120, .inl fun _ => 0)), (q47, .inl (cI, 120, .inl fun _ => 0)), (q55, .inl (cI, 120, .inl fun _ => 0)), (q63, .inl (cI, 120, .inl fun _ => 0)), (q71, .inl (cI, 120, .inl fun _ => 0)), (q79, .inl (cI, 120, .inl fun _ => 0)), (q87, .inl (cI, 40, .inl fun _ => 0))] := hD
  refine lv_aload_n hx hb (dq dk_new_Program 46 rfl) rfl (lv_at hl 0 rfl) ?_
  refine lv_bipush (v := 64) hx hb (dq dk_new_Program 47 rfl) bp_64 ?_
  refine na_row (atype := .int) (ty := .int) (a0 := (64, .inl fun _ => 0)) hx hb rfl (hts _ g_1_51) hK 0 rfl (fun _ h => h) hP hD hS hA (fun _ => rfl) (by decide) (by decide) (by decide) (le_ rfl) (le_ rfl) (dq dk_new_Program 48 rfl) (fun q95 H hP hD hS => ?_)
  have hP : va_P D classes [(h0, .inr (5, [.ref q7, .ref q15, .ref q23, .ref q31, .int 0, .int 0, .ref q39, .ref q47, .ref q55, .ref q63, .ref q71, .ref q79, .ref q87, .null])), (q7, .inl (cI, 120, .inl fun _ => 0)), (q15, .inl (cI, 120, .inl fun _ => 0)), (q23, .inl (cI, 120, .inl fun _ => 0)), (q31, .inl (cI, 120, .inl fun _ => 0)), (q39, .inl (cI, 120, .inl fun _ => 0)), (q47, .inl (cI, 120, .inl fun _ => 0)), (q55, .inl (cI, 120, .inl fun _ => 0)), (q63, .inl (cI, 120, .inl fun _ => 0)), (q71, .inl (cI, 120, .inl fun _ => 0)), (q79, .inl (cI, 120, .inl fun _ => 0)), (q87, .inl (cI, 40, .inl fun _ => 0)), (q95, .inl (cI, 64, .inl fun _ => 0))] H := hP
  have hD : va_D A [(h0, .inr (5, [.ref q7, .ref q15, .ref q23, .ref q31, .int 0, .int 0, .ref q39, .ref q47, .ref q55, .ref q63, .ref q71, .ref q79, .ref q87, .null])), (q7, .inl (cI, 120, .inl fun _ => 0)), (q15, .inl (cI, 120, .inl fun _ => 0)), (q23, .inl (cI, 120, .inl fun _ => 0)), (q31, .inl (cI, 120, .inl fun _ => 0)), (q39, .inl (cI, 120, .inl fun _ => 0)), (q47, .inl (cI, 120, .inl fun _ => 0)), (q55, .inl (cI, 120, .inl fun _ => 0)), (q63, .inl (cI, 120, .inl fun _ => 0)), (q71, .inl (cI, 120, .inl fun _ => 0)), (q79, .inl (cI, 120, .inl fun _ => 0)), (q87, .inl (cI, 40, .inl fun _ => 0)), (q95, .inl (cI, 64, .inl fun _ => 0))] := hD
  refine W.widen (k := 12) (n := 1304) (le_ rfl) (le_ rfl) ?_
  refine va_putF (D := D) (ci := 5) (v := .ref q95) (ty := (.array .int)) (C := cn_Program) (T := fT_Program) (N := 14) hx hb hts ko_Program.1 ty_Program ty_Program_ok nm_Program hown hK hP hD hS 0 rfl rfl 13 (by decide) (hts _ g_1_198) (fun _ h9 => h9) rfl hin rfl (by decide +kernel) rfl rfl (le_ rfl) (dq dk_new_Program 49 rfl) (fun H locs hP hD hS => ?_)
  have hP : va_P D classes [(h0, .inr (5, [.ref q7, .ref q15, .ref q23, .ref q31, .int 0, .int 0, .ref q39, .ref q47, .ref q55, .ref q63, .ref q71, .ref q79, .ref q87, .ref q95])), (q7, .inl (cI, 120, .inl fun _ => 0)), (q15, .inl (cI, 120, .inl fun _ => 0)), (q23, .inl (cI, 120, .inl fun _ => 0)), (q31, .inl (cI, 120, .inl fun _ => 0)), (q39, .inl (cI, 120, .inl fun _ => 0)), (q47, .inl (cI, 120, .inl fun _ => 0)), (q55, .inl (cI, 120, .inl fun _ => 0)), (q63, .inl (cI, 120, .inl fun _ => 0)), (q71, .inl (cI, 120, .inl fun _ => 0)), (q79, .inl (cI, 120, .inl fun _ => 0)), (q87, .inl (cI, 40, .inl fun _ => 0)), (q95, .inl (cI, 64, .inl fun _ => 0))] H := hP
  have hD : va_D A [(h0, .inr (5, [.ref q7, .ref q15, .ref q23, .ref q31, .int 0, .int 0, .ref q39, .ref q47, .ref q55, .ref q63, .ref q71, .ref q79, .ref q87, .ref q95])), (q7, .inl (cI, 120, .inl fun _ => 0)), (q15, .inl (cI, 120, .inl fun _ => 0)), (q23, .inl (cI, 120, .inl fun _ => 0)), (q31, .inl (cI, 120, .inl fun _ => 0)), (q39, .inl (cI, 120, .inl fun _ => 0)), (q47, .inl (cI, 120, .inl fun _ => 0)), (q55, .inl (cI, 120, .inl fun _ => 0)), (q63, .inl (cI, 120, .inl fun _ => 0)), (q71, .inl (cI, 120, .inl fun _ => 0)), (q79, .inl (cI, 120, .inl fun _ => 0)), (q87, .inl (cI, 40, .inl fun _ => 0)), (q95, .inl (cI, 64, .inl fun _ => 0))] := hD
  exact W.vret hx hb hr (fun t ht hW => ⟨⟨[q7, q15, q23, q31, q39, q47, q55, q63, q71, q79, q87, q95], rfl, trivial, by rw [ht]; exact hP, hD⟩, hS.F ht⟩) hS.2.2 (dq dk_new_Program 50 rfl)
theorem bl_Piece : ∀ j, j < 2 → defaultValue (ty_Piece j) = vp_V [.null, .int 0] j := by decide
abbrev y_new_Piece : MethodName := ⟨"BundleHouse$Piece", "<init>", "()V"⟩
def dl_new_Piece : List (Nat × Instr × Nat) := [(0, .aload_n 0, 1), (1, .invokespecial 3, 3), (4, .aload_n 0, 1), (5, .bipush 16, 2), (7, .newarray .int, 2), (9, .putfield 11, 3), (12, .return_, 1)]
set_option maxRecDepth 100000 in
theorem dk_new_Piece : ∀ q ∈ dl_new_Piece, decode prog_6_method_1_code q.1 = .ok q.2 := by decide +kernel
abbrev rm_new_Piece : Room := { frames := 1, cells := 1, slots := 16, locals := 12 }
set_option maxHeartbeats 4000000 in
set_option maxRecDepth 100000 in
theorem n_Piece (l : Launch) (D : va_G) (cI cZ : ClassId) (h0 : Nat) (sz : Nat) : Met l y_new_Piece (Cond.code y_new_Piece prog_6_method_1_code 1 none :: GT) rm_new_Piece (va_Pc [.ref h0] (fun U => U.heap.size = sz ∧ va_P D classes [(h0, .inr (7, [.null, .int 0]))] U.heap ∧ KC D cI cZ U ∧ va_D (fun _ => True) [(h0, .inr (7, [.null, .int 0]))])) (va_Qv (fun _ : List Nat => True) (fun u t => va_P D classes [(h0, .inr (7, [.ref (u.getD 0 0), .int 0])), (u.getD 0 0, .inl (cI, 16, .inl fun _ => 0))] t.heap ∧ va_D (va_A [(h0, .inr (7, [.null, .int 0]))] sz) [(h0, .inr (7, [.ref (u.getD 0 0), .int 0])), (u.getD 0 0, .inl (cI, 16, .inl fun _ => 0))]) (va_A [(h0, .inr (7, [.null, .int 0]))] sz)) 1 16 (va_A [(h0, .inr (7, [.null, .int 0]))] sz) := by
  refine Met.ofW (cc := prog_6_method_1_code) (maxL := 1) (ret := none) (by decide) rfl ?_
  intro p e s m args below meth c s₁ B hml hv
  obtain ⟨rfl, hsz, hP, ⟨hK, hN⟩, hD0⟩ := hv
  have hx := B.exec
  have hb := B.bytes
  have hr := B.returns
  have hts : ∀ w ∈ GT, w.before ([.ref h0] : List Value).toArray s = true := fun w hw => atoms_spec (ws := Cond.code y_new_Piece prog_6_method_1_code 1 none :: GT) B.pre w (List.mem_cons_of_mem _ hw)
  have hown : s.vm.findClass "BundleHouse$Piece" = some m.cls := findClass_of_methodNamed B.named
  have hlocks := B.notSynchronized
  have hin : meth.name = "<init>" := (name_of_methodNamed B.named B.method).1
  subst hsz
  have hD := hD0.self (sz := s.heap.size)
  generalize hAe : va_A [(h0, .inr (7, [.null, .int 0]))] s.heap.size = A at hD ⊢
  have hA : ∀ q : Nat, s.heap.size ≤ q → A q := fun q h => by rw [← hAe]; exact Or.inr h
  have hS : va_S A s.heap s.heap [] := va_S.rf
  have hl := lv_entry ([.ref h0]) (n := 1) (le_ rfl)
  rw [lg_entry_eq]
  generalize (lg_sl ([.ref h0]) ++ List.replicate (1 - (lg_sl ([.ref h0])).length) Slot.unset).toArray = ls at hl ⊢
  have hl : lv_has ls 1 [(0, .ref h0)] := hl
  have hP : va_P D classes [(h0, .inr (7, [.null, .int 0]))] s.heap := hP
  refine lv_aload_n hx hb (dq dk_new_Piece 0 rfl) rfl (lv_at hl 0 rfl) ?_
  refine W.objInit hx hb hown (hts _ g_1_239) (hts _ g_1_28) (hts _ g_1_29) rfl (by rw [hml]; exact hl.1) rfl (dq dk_new_Piece 1 rfl) (le_ rfl) (le_ rfl) ?_
  refine W.eq (g2 := F0 m 4 ls []) rfl ?_
  refine lv_aload_n hx hb (dq dk_new_Piece 2 rfl) rfl (lv_at hl 0 rfl) ?_
  refine lv_bipush (v := 16) hx hb (dq dk_new_Piece 3 rfl) bp_16 ?_
  refine na_row (atype := .int) (ty := .int) (a0 := (16, .inl fun _ => 0)) hx hb rfl (hts _ g_1_51) hK 0 rfl (fun _ h => h) hP hD hS hA (fun _ => rfl) (by decide) (by decide) (by decide) (le_ rfl) (le_ rfl) (dq dk_new_Piece 4 rfl) (fun q7 H hP hD hS => ?_)
  have hP : va_P D classes [(h0, .inr (7, [.null, .int 0])), (q7, .inl (cI, 16, .inl fun _ => 0))] H := hP
  have hD : va_D A [(h0, .inr (7, [.null, .int 0])), (q7, .inl (cI, 16, .inl fun _ => 0))] := hD
  refine W.widen (k := 1) (n := 16) (le_ rfl) (le_ rfl) ?_
  refine va_putF (D := D) (ci := 7) (v := .ref q7) (ty := (.array .int)) (C := cn_Piece) (T := fT_Piece) (N := 2) hx hb hts ko_Piece.1 ty_Piece ty_Piece_ok nm_Piece hown hK hP hD hS 0 rfl rfl 0 (by decide) (hts _ g_2_0) (fun _ h9 => h9) rfl hin rfl (by decide +kernel) rfl rfl (le_ rfl) (dq dk_new_Piece 5 rfl) (fun H locs hP hD hS => ?_)
  have hP : va_P D classes [(h0, .inr (7, [.ref q7, .int 0])), (q7, .inl (cI, 16, .inl fun _ => 0))] H := hP
  have hD : va_D A [(h0, .inr (7, [.ref q7, .int 0])), (q7, .inl (cI, 16, .inl fun _ => 0))] := hD
  exact W.vret hx hb hr (fun t ht hW => ⟨⟨[q7], rfl, trivial, by rw [ht]; exact hP, hD⟩, hS.F ht⟩) hS.2.2 (dq dk_new_Piece 6 rfl)
theorem bl_Builder : ∀ j, j < 7 → defaultValue (ty_Builder j) = vp_V [.int 0, .null, .null, .null, .null, .null, .int 0] j := by decide
abbrev y_new_Builder : MethodName := ⟨"BundleHouse$Builder", "<init>", "(LBundleHouse$Program;LBundleHouse$Strip;)V"⟩
def dl_new_Builder : List (Nat × Instr × Nat) := [(0, .aload_n 0, 1), (1, .invokespecial 3, 3), (4, .aload_n 0, 1), (5, .iconst (-1), 1), (6, .putfield 9, 3), (9, .aload_n 0, 1), (10, .new 15, 3), (13, .dup, 1), (14, .invokespecial 17, 3), (17, .putfield 18, 3), (20, .aload_n 0, 1), (21, .new 22, 3), (24, .dup, 1), (25, .invokespecial 24, 3), (28, .putfield 25, 3), (31, .aload_n 0, 1), (32, .bipush 120, 2), (34, .newarray .int, 2), (36, .putfield 29, 3), (39, .aload_n 0, 1), (40, .aload_n 1, 1), (41, .putfield 33, 3), (44, .aload_n 0, 1), (45, .aload_n 2, 1), (46, .putfield 37, 3), (49, .return_, 1)]
set_option maxRecDepth 100000 in
theorem dk_new_Builder : ∀ q ∈ dl_new_Builder, decode prog_2_method_1_code q.1 = .ok q.2 := by decide +kernel
abbrev rm_new_Builder : Room := { frames := 2, cells := 4, slots := 145, locals := 32 }
set_option maxHeartbeats 4000000 in
set_option maxRecDepth 100000 in
theorem n_Builder (l : Launch) (D : va_G) (cI cZ : ClassId) (h0 : Nat) (p1 : Nat) (p2 : Nat) (sz : Nat) : Met l y_new_Builder (Cond.code y_new_Builder prog_2_method_1_code 3 none :: GT) rm_new_Builder (va_Pc [.ref h0, .ref p1, .ref p2] (fun U => U.heap.size = sz ∧ va_P D classes [(h0, .inr (6, [.int 0, .null, .null, .null, .null, .null, .int 0]))] U.heap ∧ KC D cI cZ U ∧ va_D (fun _ => True) [(h0, .inr (6, [.int 0, .null, .null, .null, .null, .null, .int 0]))])) (va_Qv (fun _ : List Nat => True) (fun u t => va_P D classes [(h0, .inr (6, [.int (-1), .ref p1, .ref p2, .ref (u.getD 0 0), .ref (u.getD 2 0), .ref (u.getD 3 0), .int 0])), (u.getD 0 0, .inr (7, [.ref (u.getD 1 0), .int 0])), (u.getD 1 0, .inl (cI, 16, .inl fun _ => 0)), (u.getD 2 0, .inr (4, [.int 0, .int 0, .int 0, .int 0, .int 0, .int 0, .int 0])), (u.getD 3 0, .inl (cI, 120, .inl fun _ => 0))] t.heap ∧ va_D (va_A [(h0, .inr (6, [.int 0, .null, .null, .null, .null, .null, .int 0]))] sz) [(h0, .inr (6, [.int (-1), .ref p1, .ref p2, .ref (u.getD 0 0), .ref (u.getD 2 0), .ref (u.getD 3 0), .int 0])), (u.getD 0 0, .inr (7, [.ref (u.getD 1 0), .int 0])), (u.getD 1 0, .inl (cI, 16, .inl fun _ => 0)), (u.getD 2 0, .inr (4, [.int 0, .int 0, .int 0, .int 0, .int 0, .int 0, .int 0])), (u.getD 3 0, .inl (cI, 120, .inl fun _ => 0))]) (va_A [(h0, .inr (6, [.int 0, .null, .null, .null, .null, .null, .int 0]))] sz)) 4 145 (va_A [(h0, .inr (6, [.int 0, .null, .null, .null, .null, .null, .int 0]))] sz) := by
  refine Met.ofW (cc := prog_2_method_1_code) (maxL := 3) (ret := none) (by decide) rfl ?_
  intro p e s m args below meth c s₁ B hml hv
  obtain ⟨rfl, hsz, hP, ⟨hK, hN⟩, hD0⟩ := hv
  have hx := B.exec
  have hb := B.bytes
  have hr := B.returns
  have hts : ∀ w ∈ GT, w.before ([.ref h0, .ref p1, .ref p2] : List Value).toArray s = true := fun w hw => atoms_spec (ws := Cond.code y_new_Builder prog_2_method_1_code 3 none :: GT) B.pre w (List.mem_cons_of_mem _ hw)
  have hown : s.vm.findClass "BundleHouse$Builder" = some m.cls := findClass_of_methodNamed B.named
  have hlocks := B.notSynchronized
  have hin : meth.name = "<init>" := (name_of_methodNamed B.named B.method).1
  subst hsz
  have hD := hD0.self (sz := s.heap.size)
  generalize hAe : va_A [(h0, .inr (6, [.int 0, .null, .null, .null, .null, .null, .int 0]))] s.heap.size = A at hD ⊢
  have hA : ∀ q : Nat, s.heap.size ≤ q → A q := fun q h => by rw [← hAe]; exact Or.inr h
  have hS : va_S A s.heap s.heap [] := va_S.rf
  have hl := lv_entry ([.ref h0, .ref p1, .ref p2]) (n := 3) (le_ rfl)
  rw [lg_entry_eq]
  generalize (lg_sl ([.ref h0, .ref p1, .ref p2]) ++ List.replicate (3 - (lg_sl ([.ref h0, .ref p1, .ref p2])).length) Slot.unset).toArray = ls at hl ⊢
  have hl : lv_has ls 3 [(0, .ref h0), (1, .ref p1), (2, .ref p2)] := hl
  have hP : va_P D classes [(h0, .inr (6, [.int 0, .null, .null, .null, .null, .null, .int 0]))] s.heap := hP
  refine lv_aload_n hx hb (dq dk_new_Builder 0 rfl) rfl (lv_at hl 0 rfl) ?_
  refine W.objInit hx hb hown (hts _ g_1_233) (hts _ g_1_28) (hts _ g_1_29) rfl (by rw [hml]; exact hl.1) rfl (dq dk_new_Builder 1 rfl) (le_ rfl) (le_ rfl) ?_
  refine W.eq (g2 := F0 m 4 ls []) rfl ?_
  refine lv_aload_n hx hb (dq dk_new_Builder 2 rfl) rfl (lv_at hl 0 rfl) ?_
  refine lv_iconst (v := (-1)) hx hb (dq dk_new_Builder 3 rfl) ic_m1 ?_
  refine va_put (D := D) (ci := 6) (v := .int (-1)) (ty := .int) (C := cn_Builder) (T := fT_Builder) (N := 7) hx hb hts ko_Builder.1 ty_Builder ty_Builder_ok nm_Builder hown hK hP hD hS 0 rfl rfl 0 (by decide) (hts _ g_2_12) (fun _ h9 => h9) rfl (by decide +kernel) rfl rfl (le_ rfl) (dq dk_new_Builder 4 rfl) (fun H locs hP hD hS => ?_)
  have hP : va_P D classes [(h0, .inr (6, [.int (-1), .null, .null, .null, .null, .null, .int 0]))] H := hP
  have hD : va_D A [(h0, .inr (6, [.int (-1), .null, .null, .null, .null, .null, .int 0]))] := hD
  refine lv_aload_n hx hb (dq dk_new_Builder 5 rfl) rfl (lv_at hl 0 rfl) ?_
  refine va_new (ci := 7) (fs := [.null, .int 0]) (C := cn_Piece) (T := fT_Piece) (N := 2) hx hb hts ko_Piece.1 ty_Piece ty_Piece_ok hown (hts _ g_1_234) (hts _ g_1_235) (hts _ g_1_8) hK hP hD hS hA rfl (bl_Piece) (le_ rfl) (le_ rfl) (dq dk_new_Builder 6 rfl) (fun q10 H hP hD hS => ?_)
  have hP : va_P D classes [(h0, .inr (6, [.int (-1), .null, .null, .null, .null, .null, .int 0])), (q10, .inr (7, [.null, .int 0]))] H := hP
  have hD : va_D A [(h0, .inr (6, [.int (-1), .null, .null, .null, .null, .null, .int 0])), (q10, .inr (7, [.null, .int 0]))] := hD
  refine W.widen (k := 1) (n := 2) (le_ rfl) (le_ rfl) ?_
  refine lv_dup hx hb (dq dk_new_Builder 7 rfl) rfl ?_
  have hPc := hP.sub (ws' := [(q10, .inr (7, [.null, .int 0]))]) [1] rfl
  have hDc := hD.sub (ws' := [(q10, .inr (7, [.null, .int 0]))]) [1] (by decide) rfl
  have hFc := va_free (wc := [(q10, .inr (7, [.null, .int 0]))]) hD hS hA [1] rfl
  refine va_callv (va_runIN (As := []) (rest := [.ref q10, .ref h0]) ⟨hx, hb, hml, hown, hts⟩ (n_Piece l D cI cZ q10 H.size) ⟨va_cnB 0 hts (good1 g_1_238) rfl rfl rfl (hN _ nw_3) (hts _ g_1_8) ⟨by decide, by decide, by decide +kernel⟩ ⟨le_ rfl, le_ rfl⟩, rfl, hts _ g_1_237⟩ ⟨fun a U fr mk q => ⟨q.1, q.2.1, q.2.2.1, q.2.2.2.1.calling fr mk a, q.2.2.2.2⟩, fun U hU hW => ⟨rfl, by rw [hU], by rw [hU]; exact hPc, KC.moved hW ⟨hK, hN⟩, hDc.weaken (fun _ _ _ _ => trivial)⟩⟩ rfl rfl hl.1 rfl (lv_room (le_ rfl)) (dq dk_new_Builder 8 rfl) ⟨le_ rfl, le_ rfl⟩) hS (fun q _ h => hFc q h) hFc (fun u14 t H1 locs ht hvm hw hB hz1 hk1 hS => ?_)
  obtain ⟨hP1, hD1⟩ := hB
  rw [ht] at hP1
  obtain ⟨hP, hD⟩ := va_join (wr := [(h0, .inr (6, [.int (-1), .null, .null, .null, .null, .null, .int 0]))]) (w1 := [(q10, .inr (7, [.ref (u14.getD 0 0), .int 0])), (u14.getD 0 0, .inl (cI, 16, .inl fun _ => 0))]) hP hD [1] [0] rfl rfl (by decide) (by decide) hk1 hFc hP1 hD1
  generalize H1 = H at hP hS ⊢
  have hP : va_P D classes [(h0, .inr (6, [.int (-1), .null, .null, .null, .null, .null, .int 0])), (q10, .inr (7, [.ref (u14.getD 0 0), .int 0])), (u14.getD 0 0, .inl (cI, 16, .inl fun _ => 0))] H := hP
  have hD : va_D A [(h0, .inr (6, [.int (-1), .null, .null, .null, .null, .null, .int 0])), (q10, .inr (7, [.ref (u14.getD 0 0), .int 0])), (u14.getD 0 0, .inl (cI, 16, .inl fun _ => 0))] := hD
  refine W.widen (k := 2) (n := 18) (le_ rfl) (le_ rfl) ?_
  refine va_putF (D := D) (ci := 6) (v := .ref q10) (ty := (.object "BundleHouse$Piece")) (C := cn_Builder) (T := fT_Builder) (N := 7) hx hb hts ko_Builder.1 ty_Builder ty_Builder_ok nm_Builder hown hK hP hD hS 0 rfl rfl 3 (by decide) (hts _ g_2_16) (fun _ h9 => h9) rfl hin rfl (by decide +kernel) rfl rfl (le_ rfl) (dq dk_new_Builder 9 rfl) (fun H locs hP hD hS => ?_)
  have hP : va_P D classes [(h0, .inr (6, [.int (-1), .null, .null, .ref q10, .null, .null, .int 0])), (q10, .inr (7, [.ref (u14.getD 0 0), .int 0])), (u14.getD 0 0, .inl (cI, 16, .inl fun _ => 0))] H := hP
  have hD : va_D A [(h0, .inr (6, [.int (-1), .null, .null, .ref q10, .null, .null, .int 0])), (q10, .inr (7, [.ref (u14.getD 0 0), .int 0])), (u14.getD 0 0, .inl (cI, 16, .inl fun _ => 0))] := hD
  refine lv_aload_n hx hb (dq dk_new_Builder 10 rfl) rfl (lv_at hl 0 rfl) ?_
  refine va_new (ci := 4) (fs := [.int 0, .int 0, .int 0, .int 0, .int 0, .int 0, .int 0]) (C := cn_Instruction) (T := fT_Instruction) (N := 7) hx hb hts ko_Instruction.1 ty_Instruction ty_Instruction_ok hown (hts _ g_2_10) (hts _ g_1_65) (hts _ g_1_5) hK hP hD hS hA rfl (bl_Instruction) (le_ rfl) (le_ rfl) (dq dk_new_Builder 11 rfl) (fun q21 H hP hD hS => ?_)
  have hP : va_P D classes [(h0, .inr (6, [.int (-1), .null, .null, .ref q10, .null, .null, .int 0])), (q10, .inr (7, [.ref (u14.getD 0 0), .int 0])), (u14.getD 0 0, .inl (cI, 16, .inl fun _ => 0)), (q21, .inr (4, [.int 0, .int 0, .int 0, .int 0, .int 0, .int 0, .int 0]))] H := hP
  have hD : va_D A [(h0, .inr (6, [.int (-1), .null, .null, .ref q10, .null, .null, .int 0])), (q10, .inr (7, [.ref (u14.getD 0 0), .int 0])), (u14.getD 0 0, .inl (cI, 16, .inl fun _ => 0)), (q21, .inr (4, [.int 0, .int 0, .int 0, .int 0, .int 0, .int 0, .int 0]))] := hD
  refine W.widen (k := 3) (n := 25) (le_ rfl) (le_ rfl) ?_
  refine lv_dup hx hb (dq dk_new_Builder 12 rfl) rfl ?_
  have hPc := hP.sub (ws' := [(q21, .inr (4, [.int 0, .int 0, .int 0, .int 0, .int 0, .int 0, .int 0]))]) [3] rfl
  have hDc := hD.sub (ws' := [(q21, .inr (4, [.int 0, .int 0, .int 0, .int 0, .int 0, .int 0, .int 0]))]) [3] (by decide) rfl
  have hFc := va_free (wc := [(q21, .inr (4, [.int 0, .int 0, .int 0, .int 0, .int 0, .int 0, .int 0]))]) hD hS hA [3] rfl
  refine va_callv (va_runIN (As := []) (rest := [.ref q21, .ref h0]) ⟨hx, hb, hml, hown, hts⟩ (n_Instruction l D cI cZ q21 H.size) ⟨va_cnB 0 hts (good1 g_1_68) rfl rfl rfl (hN _ nw_4) (hts _ g_1_5) ⟨by decide, by decide, by decide +kernel⟩ ⟨le_ rfl, le_ rfl⟩, rfl, hts _ g_1_67⟩ ⟨fun a U fr mk q => ⟨q.1, q.2.1, q.2.2.1, q.2.2.2.1.calling fr mk a, q.2.2.2.2⟩, fun U hU hW => ⟨rfl, by rw [hU], by rw [hU]; exact hPc, KC.moved hW ⟨hK, hN⟩, hDc.weaken (fun _ _ _ _ => trivial)⟩⟩ rfl rfl hl.1 rfl (lv_room (le_ rfl)) (dq dk_new_Builder 13 rfl) ⟨le_ rfl, le_ rfl⟩) hS (fun q _ h => hFc q h) hFc (fun u25 t H1 locs ht hvm hw hB hz1 hk1 hS => ?_)
  obtain ⟨hP1, hD1⟩ := hB
  rw [ht] at hP1
  obtain ⟨hP, hD⟩ := va_join (wr := [(h0, .inr (6, [.int (-1), .null, .null, .ref q10, .null, .null, .int 0])), (q10, .inr (7, [.ref (u14.getD 0 0), .int 0])), (u14.getD 0 0, .inl (cI, 16, .inl fun _ => 0))]) (w1 := [(q21, .inr (4, [.int 0, .int 0, .int 0, .int 0, .int 0, .int 0, .int 0]))]) hP hD [3] [0, 1, 2] rfl rfl (by decide) (by decide) hk1 hFc hP1 hD1
  generalize H1 = H at hP hS ⊢
  have hP : va_P D classes [(h0, .inr (6, [.int (-1), .null, .null, .ref q10, .null, .null, .int 0])), (q10, .inr (7, [.ref (u14.getD 0 0), .int 0])), (u14.getD 0 0, .inl (cI, 16, .inl fun _ => 0)), (q21, .inr (4, [.int 0, .int 0, .int 0, .int 0, .int 0, .int 0, .int 0]))] H := hP
  have hD : va_D A [(h0, .inr (6, [.int (-1), .null, .null, .ref q10, .null, .null, .int 0])), (q10, .inr (7, [.ref (u14.getD 0 0), .int 0])), (u14.getD 0 0, .inl (cI, 16, .inl fun _ => 0)), (q21, .inr (4, [.int 0, .int 0, .int 0, .int 0, .int 0, .int 0, .int 0]))] := hD
  refine W.widen (k := 3) (n := 25) (le_ rfl) (le_ rfl) ?_
  refine va_putF (D := D) (ci := 6) (v := .ref q21) (ty := (.object "BundleHouse$Instruction")) (C := cn_Builder) (T := fT_Builder) (N := 7) hx hb hts ko_Builder.1 ty_Builder ty_Builder_ok nm_Builder hown hK hP hD hS 0 rfl rfl 4 (by decide) (hts _ g_2_17) (fun _ h9 => h9) rfl hin rfl (by decide +kernel) rfl rfl (le_ rfl) (dq dk_new_Builder 14 rfl) (fun H locs hP hD hS => ?_)
  have hP : va_P D classes [(h0, .inr (6, [.int (-1), .null, .null, .ref q10, .ref q21, .null, .int 0])), (q10, .inr (7, [.ref (u14.getD 0 0), .int 0])), (u14.getD 0 0, .inl (cI, 16, .inl fun _ => 0)), (q21, .inr (4, [.int 0, .int 0, .int 0, .int 0, .int 0, .int 0, .int 0]))] H := hP
  have hD : va_D A [(h0, .inr (6, [.int (-1), .null, .null, .ref q10, .ref q21, .null, .int 0])), (q10, .inr (7, [.ref (u14.getD 0 0), .int 0])), (u14.getD 0 0, .inl (cI, 16, .inl fun _ => 0)), (q21, .inr (4, [.int 0, .int 0, .int 0, .int 0, .int 0, .int 0, .int 0]))] := hD
  refine lv_aload_n hx hb (dq dk_new_Builder 15 rfl) rfl (lv_at hl 0 rfl) ?_
  refine lv_bipush (v := 120) hx hb (dq dk_new_Builder 16 rfl) bp_120 ?_
  refine na_row (atype := .int) (ty := .int) (a0 := (120, .inl fun _ => 0)) hx hb rfl (hts _ g_1_51) hK 0 rfl (fun _ h => h) hP hD hS hA (fun _ => rfl) (by decide) (by decide) (by decide) (le_ rfl) (le_ rfl) (dq dk_new_Builder 17 rfl) (fun q34 H hP hD hS => ?_)
  have hP : va_P D classes [(h0, .inr (6, [.int (-1), .null, .null, .ref q10, .ref q21, .null, .int 0])), (q10, .inr (7, [.ref (u14.getD 0 0), .int 0])), (u14.getD 0 0, .inl (cI, 16, .inl fun _ => 0)), (q21, .inr (4, [.int 0, .int 0, .int 0, .int 0, .int 0, .int 0, .int 0])), (q34, .inl (cI, 120, .inl fun _ => 0))] H := hP
  have hD : va_D A [(h0, .inr (6, [.int (-1), .null, .null, .ref q10, .ref q21, .null, .int 0])), (q10, .inr (7, [.ref (u14.getD 0 0), .int 0])), (u14.getD 0 0, .inl (cI, 16, .inl fun _ => 0)), (q21, .inr (4, [.int 0, .int 0, .int 0, .int 0, .int 0, .int 0, .int 0])), (q34, .inl (cI, 120, .inl fun _ => 0))] := hD
  refine W.widen (k := 4) (n := 145) (le_ rfl) (le_ rfl) ?_
  refine va_putF (D := D) (ci := 6) (v := .ref q34) (ty := (.array .int)) (C := cn_Builder) (T := fT_Builder) (N := 7) hx hb hts ko_Builder.1 ty_Builder ty_Builder_ok nm_Builder hown hK hP hD hS 0 rfl rfl 5 (by decide) (hts _ g_2_18) (fun _ h9 => h9) rfl hin rfl (by decide +kernel) rfl rfl (le_ rfl) (dq dk_new_Builder 18 rfl) (fun H locs hP hD hS => ?_)
  have hP : va_P D classes [(h0, .inr (6, [.int (-1), .null, .null, .ref q10, .ref q21, .ref q34, .int 0])), (q10, .inr (7, [.ref (u14.getD 0 0), .int 0])), (u14.getD 0 0, .inl (cI, 16, .inl fun _ => 0)), (q21, .inr (4, [.int 0, .int 0, .int 0, .int 0, .int 0, .int 0, .int 0])), (q34, .inl (cI, 120, .inl fun _ => 0))] H := hP
  have hD : va_D A [(h0, .inr (6, [.int (-1), .null, .null, .ref q10, .ref q21, .ref q34, .int 0])), (q10, .inr (7, [.ref (u14.getD 0 0), .int 0])), (u14.getD 0 0, .inl (cI, 16, .inl fun _ => 0)), (q21, .inr (4, [.int 0, .int 0, .int 0, .int 0, .int 0, .int 0, .int 0])), (q34, .inl (cI, 120, .inl fun _ => 0))] := hD
  refine lv_aload_n hx hb (dq dk_new_Builder 19 rfl) rfl (lv_at hl 0 rfl) ?_
  refine lv_aload_n hx hb (dq dk_new_Builder 20 rfl) rfl (lv_at hl 1 rfl) ?_
  refine va_putF (D := D) (ci := 6) (v := .ref p1) (ty := (.object "BundleHouse$Program")) (C := cn_Builder) (T := fT_Builder) (N := 7) hx hb hts ko_Builder.1 ty_Builder ty_Builder_ok nm_Builder hown hK hP hD hS 0 rfl rfl 1 (by decide) (hts _ g_2_14) (fun _ h9 => h9) rfl hin rfl (by decide +kernel) rfl rfl (le_ rfl) (dq dk_new_Builder 21 rfl) (fun H locs hP hD hS => ?_)
  have hP : va_P D classes [(h0, .inr (6, [.int (-1), .ref p1, .null, .ref q10, .ref q21, .ref q34, .int 0])), (q10, .inr (7, [.ref (u14.getD 0 0), .int 0])), (u14.getD 0 0, .inl (cI, 16, .inl fun _ => 0)), (q21, .inr (4, [.int 0, .int 0, .int 0, .int 0, .int 0, .int 0, .int 0])), (q34, .inl (cI, 120, .inl fun _ => 0))] H := hP
  have hD : va_D A [(h0, .inr (6, [.int (-1), .ref p1, .null, .ref q10, .ref q21, .ref q34, .int 0])), (q10, .inr (7, [.ref (u14.getD 0 0), .int 0])), (u14.getD 0 0, .inl (cI, 16, .inl fun _ => 0)), (q21, .inr (4, [.int 0, .int 0, .int 0, .int 0, .int 0, .int 0, .int 0])), (q34, .inl (cI, 120, .inl fun _ => 0))] := hD
  refine lv_aload_n hx hb (dq dk_new_Builder 22 rfl) rfl (lv_at hl 0 rfl) ?_
  refine lv_aload_n hx hb (dq dk_new_Builder 23 rfl) rfl (lv_at hl 2 rfl) ?_
  refine va_putF (D := D) (ci := 6) (v := .ref p2) (ty := (.object "BundleHouse$Strip")) (C := cn_Builder) (T := fT_Builder) (N := 7) hx hb hts ko_Builder.1 ty_Builder ty_Builder_ok nm_Builder hown hK hP hD hS 0 rfl rfl 2 (by decide) (hts _ g_2_15) (fun _ h9 => h9) rfl hin rfl (by decide +kernel) rfl rfl (le_ rfl) (dq dk_new_Builder 24 rfl) (fun H locs hP hD hS => ?_)
  have hP : va_P D classes [(h0, .inr (6, [.int (-1), .ref p1, .ref p2, .ref q10, .ref q21, .ref q34, .int 0])), (q10, .inr (7, [.ref (u14.getD 0 0), .int 0])), (u14.getD 0 0, .inl (cI, 16, .inl fun _ => 0)), (q21, .inr (4, [.int 0, .int 0, .int 0, .int 0, .int 0, .int 0, .int 0])), (q34, .inl (cI, 120, .inl fun _ => 0))] H := hP
  have hD : va_D A [(h0, .inr (6, [.int (-1), .ref p1, .ref p2, .ref q10, .ref q21, .ref q34, .int 0])), (q10, .inr (7, [.ref (u14.getD 0 0), .int 0])), (u14.getD 0 0, .inl (cI, 16, .inl fun _ => 0)), (q21, .inr (4, [.int 0, .int 0, .int 0, .int 0, .int 0, .int 0, .int 0])), (q34, .inl (cI, 120, .inl fun _ => 0))] := hD
  exact W.vret hx hb hr (fun t ht hW => ⟨⟨[q10, u14.getD 0 0, q21, q34], rfl, trivial, by rw [ht]; exact hP, hD⟩, hS.F ht⟩) hS.2.2 (dq dk_new_Builder 25 rfl)
theorem bl_Flags : ∀ j, j < 4 → defaultValue (ty_Flags j) = vp_V [.int 0, .int 0, .int 0, .int 0] j := by decide
abbrev y_new_Flags : MethodName := ⟨"BundleHouse$Flags", "<init>", "()V"⟩
def dl_new_Flags : List (Nat × Instr × Nat) := [(0, .aload_n 0, 1), (1, .invokespecial 3, 3), (4, .return_, 1)]
set_option maxRecDepth 100000 in
theorem dk_new_Flags : ∀ q ∈ dl_new_Flags, decode prog_3_method_1_code q.1 = .ok q.2 := by decide +kernel
abbrev rm_new_Flags : Room := { frames := 1, cells := 0, slots := 0, locals := 12 }
set_option maxHeartbeats 4000000 in
set_option maxRecDepth 100000 in
theorem n_Flags (l : Launch) (D : va_G) (cI cZ : ClassId) (h0 : Nat) (sz : Nat) : Met l y_new_Flags (Cond.code y_new_Flags prog_3_method_1_code 1 none :: GT) rm_new_Flags (va_Pc [.ref h0] (fun U => U.heap.size = sz ∧ va_P D classes [(h0, .inr (9, [.int 0, .int 0, .int 0, .int 0]))] U.heap ∧ KC D cI cZ U ∧ va_D (fun _ => True) [(h0, .inr (9, [.int 0, .int 0, .int 0, .int 0]))])) (va_Qv (fun _ : List Nat => True) (fun u t => va_P D classes [(h0, .inr (9, [.int 0, .int 0, .int 0, .int 0]))] t.heap ∧ va_D (va_A [(h0, .inr (9, [.int 0, .int 0, .int 0, .int 0]))] sz) [(h0, .inr (9, [.int 0, .int 0, .int 0, .int 0]))]) (va_A [(h0, .inr (9, [.int 0, .int 0, .int 0, .int 0]))] sz)) 0 0 (va_A [(h0, .inr (9, [.int 0, .int 0, .int 0, .int 0]))] sz) := by
  refine Met.ofW (cc := prog_3_method_1_code) (maxL := 1) (ret := none) (by decide) rfl ?_
  intro p e s m args below meth c s₁ B hml hv
  obtain ⟨rfl, hsz, hP, ⟨hK, hN⟩, hD0⟩ := hv
  have hx := B.exec
  have hb := B.bytes
  have hr := B.returns
  have hts : ∀ w ∈ GT, w.before ([.ref h0] : List Value).toArray s = true := fun w hw => atoms_spec (ws := Cond.code y_new_Flags prog_3_method_1_code 1 none :: GT) B.pre w (List.mem_cons_of_mem _ hw)
  have hown : s.vm.findClass "BundleHouse$Flags" = some m.cls := findClass_of_methodNamed B.named
  have hlocks := B.notSynchronized
  have hin : meth.name = "<init>" := (name_of_methodNamed B.named B.method).1
  subst hsz
  have hD := hD0.self (sz := s.heap.size)
  generalize hAe : va_A [(h0, .inr (9, [.int 0, .int 0, .int 0, .int 0]))] s.heap.size = A at hD ⊢
  have hA : ∀ q : Nat, s.heap.size ≤ q → A q := fun q h => by rw [← hAe]; exact Or.inr h
  have hS : va_S A s.heap s.heap [] := va_S.rf
  have hl := lv_entry ([.ref h0]) (n := 1) (le_ rfl)
  rw [lg_entry_eq]
  generalize (lg_sl ([.ref h0]) ++ List.replicate (1 - (lg_sl ([.ref h0])).length) Slot.unset).toArray = ls at hl ⊢
  have hl : lv_has ls 1 [(0, .ref h0)] := hl
  have hP : va_P D classes [(h0, .inr (9, [.int 0, .int 0, .int 0, .int 0]))] s.heap := hP
  refine lv_aload_n hx hb (dq dk_new_Flags 0 rfl) rfl (lv_at hl 0 rfl) ?_
  refine W.objInit hx hb hown (hts _ g_2_46) (hts _ g_1_28) (hts _ g_1_29) rfl (by rw [hml]; exact hl.1) rfl (dq dk_new_Flags 1 rfl) (le_ rfl) (le_ rfl) ?_
  refine W.eq (g2 := F0 m 4 ls []) rfl ?_
  exact W.vret hx hb hr (fun t ht hW => ⟨⟨[], rfl, trivial, by rw [ht]; exact hP, hD⟩, hS.F ht⟩) hS.2.2 (dq dk_new_Flags 2 rfl)
theorem bl_Machine : ∀ j, j < 14 → defaultValue (ty_Machine j) = vp_V [.null, .int 0, .int 0, .int 0, .int 0, .int 0, .int 0, .null, .null, .null, .int 0, .int 0, .null, .int 0] j := by decide
abbrev y_new_Machine : MethodName := ⟨"BundleHouse$Machine", "<init>", "()V"⟩
def dl_new_Machine : List (Nat × Instr × Nat) := [(0, .aload_n 0, 1), (1, .invokespecial 3, 3), (4, .aload_n 0, 1), (5, .new 9, 3), (8, .dup, 1), (9, .invokespecial 11, 3), (12, .putfield 12, 3), (15, .aload_n 0, 1), (16, .bipush 8, 2), (18, .newarray .int, 2), (20, .putfield 18, 3), (23, .aload_n 0, 1), (24, .sipush 1024, 3), (27, .newarray .int, 2), (29, .putfield 22, 3), (32, .aload_n 0, 1), (33, .bipush 50, 2), (35, .newarray .int, 2), (37, .putfield 25, 3), (40, .aload_n 0, 1), (41, .bipush 100, 2), (43, .newarray .int, 2), (45, .putfield 28, 3), (48, .return_, 1)]
set_option maxRecDepth 100000 in
theorem dk_new_Machine : ∀ q ∈ dl_new_Machine, decode prog_5_method_1_code q.1 = .ok q.2 := by decide +kernel
abbrev rm_new_Machine : Room := { frames := 2, cells := 5, slots := 1186, locals := 32 }
set_option maxHeartbeats 4000000 in
set_option maxRecDepth 100000 in
theorem n_Machine (l : Launch) (D : va_G) (cI cZ : ClassId) (h0 : Nat) (sz : Nat) : Met l y_new_Machine (Cond.code y_new_Machine prog_5_method_1_code 1 none :: GT) rm_new_Machine (va_Pc [.ref h0] (fun U => U.heap.size = sz ∧ va_P D classes [(h0, .inr (8, [.null, .int 0, .int 0, .int 0, .int 0, .int 0, .int 0, .null, .null, .null, .int 0, .int 0, .null, .int 0]))] U.heap ∧ KC D cI cZ U ∧ va_D (fun _ => True) [(h0, .inr (8, [.null, .int 0, .int 0, .int 0, .int 0, .int 0, .int 0, .null, .null, .null, .int 0, .int 0, .null, .int 0]))])) (va_Qv (fun _ : List Nat => True) (fun u t => va_P D classes [(h0, .inr (8, [.ref (u.getD 0 0), .int 0, .int 0, .int 0, .int 0, .int 0, .int 0, .ref (u.getD 1 0), .ref (u.getD 2 0), .ref (u.getD 3 0), .int 0, .int 0, .ref (u.getD 4 0), .int 0])), (u.getD 0 0, .inr (9, [.int 0, .int 0, .int 0, .int 0])), (u.getD 1 0, .inl (cI, 8, .inl fun _ => 0)), (u.getD 2 0, .inl (cI, 1024, .inl fun _ => 0)), (u.getD 3 0, .inl (cI, 50, .inl fun _ => 0)), (u.getD 4 0, .inl (cI, 100, .inl fun _ => 0))] t.heap ∧ va_D (va_A [(h0, .inr (8, [.null, .int 0, .int 0, .int 0, .int 0, .int 0, .int 0, .null, .null, .null, .int 0, .int 0, .null, .int 0]))] sz) [(h0, .inr (8, [.ref (u.getD 0 0), .int 0, .int 0, .int 0, .int 0, .int 0, .int 0, .ref (u.getD 1 0), .ref (u.getD 2 0), .ref (u.getD 3 0), .int 0, .int 0, .ref (u.getD 4 0), .int 0])), (u.getD 0 0, .inr (9, [.int 0, .int 0, .int 0, .int 0])), (u.getD 1 0, .inl (cI, 8, .inl fun _ => 0)), (u.getD 2 0, .inl (cI, 1024, .inl fun _ => 0)), (u.getD 3 0, .inl (cI, 50, .inl fun _ => 0)), (u.getD 4 0, .inl (cI, 100, .inl fun _ => 0))]) (va_A [(h0, .inr (8, [.null, .int 0, .int 0, .int 0, .int 0, .int 0, .int 0, .null, .null, .null, .int 0, .int 0, .null, .int 0]))] sz)) 5 1186 (va_A [(h0, .inr (8, [.null, .int 0, .int 0, .int 0, .int 0, .int 0, .int 0, .null, .null, .null, .int 0, .int 0, .null, .int 0]))] sz) := by
  refine Met.ofW (cc := prog_5_method_1_code) (maxL := 1) (ret := none) (by decide) rfl ?_
  intro p e s m args below meth c s₁ B hml hv
  obtain ⟨rfl, hsz, hP, ⟨hK, hN⟩, hD0⟩ := hv
  have hx := B.exec
  have hb := B.bytes
  have hr := B.returns
  have hts : ∀ w ∈ GT, w.before ([.ref h0] : List Value).toArray s = true := fun w hw => atoms_spec (ws := Cond.code y_new_Machine prog_5_method_1_code 1 none :: GT) B.pre w (List.mem_cons_of_mem _ hw)
  have hown : s.vm.findClass "BundleHouse$Machine" = some m.cls := findClass_of_methodNamed B.named
  have hlocks := B.notSynchronized
  have hin : meth.name = "<init>" := (name_of_methodNamed B.named B.method).1
  subst hsz
  have hD := hD0.self (sz := s.heap.size)
  generalize hAe : va_A [(h0, .inr (8, [.null, .int 0, .int 0, .int 0, .int 0, .int 0, .int 0, .null, .null, .null, .int 0, .int 0, .null, .int 0]))] s.heap.size = A at hD ⊢
  have hA : ∀ q : Nat, s.heap.size ≤ q → A q := fun q h => by rw [← hAe]; exact Or.inr h
  have hS : va_S A s.heap s.heap [] := va_S.rf
  have hl := lv_entry ([.ref h0]) (n := 1) (le_ rfl)
  rw [lg_entry_eq]
  generalize (lg_sl ([.ref h0]) ++ List.replicate (1 - (lg_sl ([.ref h0])).length) Slot.unset).toArray = ls at hl ⊢
  have hl : lv_has ls 1 [(0, .ref h0)] := hl
  have hP : va_P D classes [(h0, .inr (8, [.null, .int 0, .int 0, .int 0, .int 0, .int 0, .int 0, .null, .null, .null, .int 0, .int 0, .null, .int 0]))] s.heap := hP
  refine lv_aload_n hx hb (dq dk_new_Machine 0 rfl) rfl (lv_at hl 0 rfl) ?_
  refine W.objInit hx hb hown (hts _ g_2_40) (hts _ g_1_28) (hts _ g_1_29) rfl (by rw [hml]; exact hl.1) rfl (dq dk_new_Machine 1 rfl) (le_ rfl) (le_ rfl) ?_
  refine W.eq (g2 := F0 m 4 ls []) rfl ?_
  refine lv_aload_n hx hb (dq dk_new_Machine 2 rfl) rfl (lv_at hl 0 rfl) ?_
  refine va_new (ci := 9) (fs := [.int 0, .int 0, .int 0, .int 0]) (C := cn_Flags) (T := fT_Flags) (N := 4) hx hb hts ko_Flags.1 ty_Flags ty_Flags_ok hown (hts _ g_2_41) (hts _ g_2_42) (hts _ g_1_10) hK hP hD hS hA rfl (bl_Flags) (le_ rfl) (le_ rfl) (dq dk_new_Machine 3 rfl) (fun q5 H hP hD hS => ?_)
  have hP : va_P D classes [(h0, .inr (8, [.null, .int 0, .int 0, .int 0, .int 0, .int 0, .int 0, .null, .null, .null, .int 0, .int 0, .null, .int 0])), (q5, .inr (9, [.int 0, .int 0, .int 0, .int 0]))] H := hP
  have hD : va_D A [(h0, .inr (8, [.null, .int 0, .int 0, .int 0, .int 0, .int 0, .int 0, .null, .null, .null, .int 0, .int 0, .null, .int 0])), (q5, .inr (9, [.int 0, .int 0, .int 0, .int 0]))] := hD
  refine W.widen (k := 1) (n := 4) (le_ rfl) (le_ rfl) ?_
  refine lv_dup hx hb (dq dk_new_Machine 4 rfl) rfl ?_
  have hPc := hP.sub (ws' := [(q5, .inr (9, [.int 0, .int 0, .int 0, .int 0]))]) [1] rfl
  have hDc := hD.sub (ws' := [(q5, .inr (9, [.int 0, .int 0, .int 0, .int 0]))]) [1] (by decide) rfl
  have hFc := va_free (wc := [(q5, .inr (9, [.int 0, .int 0, .int 0, .int 0]))]) hD hS hA [1] rfl
  refine va_callv (va_runIN (As := []) (rest := [.ref q5, .ref h0]) ⟨hx, hb, hml, hown, hts⟩ (n_Flags l D cI cZ q5 H.size) ⟨va_cnB 0 hts (good1 g_2_45) rfl rfl rfl (hN _ nw_6) (hts _ g_1_10) ⟨by decide, by decide, by decide +kernel⟩ ⟨le_ rfl, le_ rfl⟩, rfl, hts _ g_2_44⟩ ⟨fun a U fr mk q => ⟨q.1, q.2.1, q.2.2.1, q.2.2.2.1.calling fr mk a, q.2.2.2.2⟩, fun U hU hW => ⟨rfl, by rw [hU], by rw [hU]; exact hPc, KC.moved hW ⟨hK, hN⟩, hDc.weaken (fun _ _ _ _ => trivial)⟩⟩ rfl rfl hl.1 rfl (lv_room (le_ rfl)) (dq dk_new_Machine 5 rfl) ⟨le_ rfl, le_ rfl⟩) hS (fun q _ h => hFc q h) hFc (fun u9 t H1 locs ht hvm hw hB hz1 hk1 hS => ?_)
  obtain ⟨hP1, hD1⟩ := hB
  rw [ht] at hP1
  obtain ⟨hP, hD⟩ := va_join (wr := [(h0, .inr (8, [.null, .int 0, .int 0, .int 0, .int 0, .int 0, .int 0, .null, .null, .null, .int 0, .int 0, .null, .int 0]))]) (w1 := [(q5, .inr (9, [.int 0, .int 0, .int 0, .int 0]))]) hP hD [1] [0] rfl rfl (by decide) (by decide) hk1 hFc hP1 hD1
  generalize H1 = H at hP hS ⊢
  have hP : va_P D classes [(h0, .inr (8, [.null, .int 0, .int 0, .int 0, .int 0, .int 0, .int 0, .null, .null, .null, .int 0, .int 0, .null, .int 0])), (q5, .inr (9, [.int 0, .int 0, .int 0, .int 0]))] H := hP
  have hD : va_D A [(h0, .inr (8, [.null, .int 0, .int 0, .int 0, .int 0, .int 0, .int 0, .null, .null, .null, .int 0, .int 0, .null, .int 0])), (q5, .inr (9, [.int 0, .int 0, .int 0, .int 0]))] := hD
  refine W.widen (k := 1) (n := 4) (le_ rfl) (le_ rfl) ?_
  refine va_putF (D := D) (ci := 8) (v := .ref q5) (ty := (.object "BundleHouse$Flags")) (C := cn_Machine) (T := fT_Machine) (N := 14) hx hb hts ko_Machine.1 ty_Machine ty_Machine_ok nm_Machine hown hK hP hD hS 0 rfl rfl 0 (by decide) (hts _ g_2_64) (fun _ h9 => h9) rfl hin rfl (by decide +kernel) rfl rfl (le_ rfl) (dq dk_new_Machine 6 rfl) (fun H locs hP hD hS => ?_)
  have hP : va_P D classes [(h0, .inr (8, [.ref q5, .int 0, .int 0, .int 0, .int 0, .int 0, .int 0, .null, .null, .null, .int 0, .int 0, .null, .int 0])), (q5, .inr (9, [.int 0, .int 0, .int 0, .int 0]))] H := hP
  have hD : va_D A [(h0, .inr (8, [.ref q5, .int 0, .int 0, .int 0, .int 0, .int 0, .int 0, .null, .null, .null, .int 0, .int 0, .null, .int 0])), (q5, .inr (9, [.int 0, .int 0, .int 0, .int 0]))] := hD
  refine lv_aload_n hx hb (dq dk_new_Machine 7 rfl) rfl (lv_at hl 0 rfl) ?_
  refine lv_bipush (v := 8) hx hb (dq dk_new_Machine 8 rfl) bp_8 ?_
  refine na_row (atype := .int) (ty := .int) (a0 := (8, .inl fun _ => 0)) hx hb rfl (hts _ g_1_51) hK 0 rfl (fun _ h => h) hP hD hS hA (fun _ => rfl) (by decide) (by decide) (by decide) (le_ rfl) (le_ rfl) (dq dk_new_Machine 9 rfl) (fun q18 H hP hD hS => ?_)
  have hP : va_P D classes [(h0, .inr (8, [.ref q5, .int 0, .int 0, .int 0, .int 0, .int 0, .int 0, .null, .null, .null, .int 0, .int 0, .null, .int 0])), (q5, .inr (9, [.int 0, .int 0, .int 0, .int 0])), (q18, .inl (cI, 8, .inl fun _ => 0))] H := hP
  have hD : va_D A [(h0, .inr (8, [.ref q5, .int 0, .int 0, .int 0, .int 0, .int 0, .int 0, .null, .null, .null, .int 0, .int 0, .null, .int 0])), (q5, .inr (9, [.int 0, .int 0, .int 0, .int 0])), (q18, .inl (cI, 8, .inl fun _ => 0))] := hD
  refine W.widen (k := 2) (n := 12) (le_ rfl) (le_ rfl) ?_
  refine va_putF (D := D) (ci := 8) (v := .ref q18) (ty := (.array .int)) (C := cn_Machine) (T := fT_Machine) (N := 14) hx hb hts ko_Machine.1 ty_Machine ty_Machine_ok nm_Machine hown hK hP hD hS 0 rfl rfl 7 (by decide) (hts _ g_2_82) (fun _ h9 => h9) rfl hin rfl (by decide +kernel) rfl rfl (le_ rfl) (dq dk_new_Machine 10 rfl) (fun H locs hP hD hS => ?_)
  have hP : va_P D classes [(h0, .inr (8, [.ref q5, .int 0, .int 0, .int 0, .int 0, .int 0, .int 0, .ref q18, .null, .null, .int 0, .int 0, .null, .int 0])), (q5, .inr (9, [.int 0, .int 0, .int 0, .int 0])), (q18, .inl (cI, 8, .inl fun _ => 0))] H := hP
  have hD : va_D A [(h0, .inr (8, [.ref q5, .int 0, .int 0, .int 0, .int 0, .int 0, .int 0, .ref q18, .null, .null, .int 0, .int 0, .null, .int 0])), (q5, .inr (9, [.int 0, .int 0, .int 0, .int 0])), (q18, .inl (cI, 8, .inl fun _ => 0))] := hD
  refine lv_aload_n hx hb (dq dk_new_Machine 11 rfl) rfl (lv_at hl 0 rfl) ?_
  refine lv_sipush (v := 1024) hx hb (dq dk_new_Machine 12 rfl) sp_1024 ?_
  refine na_row (atype := .int) (ty := .int) (a0 := (1024, .inl fun _ => 0)) hx hb rfl (hts _ g_1_51) hK 0 rfl (fun _ h => h) hP hD hS hA (fun _ => rfl) (by decide) (by decide) (by decide) (le_ rfl) (le_ rfl) (dq dk_new_Machine 13 rfl) (fun q27 H hP hD hS => ?_)
  have hP : va_P D classes [(h0, .inr (8, [.ref q5, .int 0, .int 0, .int 0, .int 0, .int 0, .int 0, .ref q18, .null, .null, .int 0, .int 0, .null, .int 0])), (q5, .inr (9, [.int 0, .int 0, .int 0, .int 0])), (q18, .inl (cI, 8, .inl fun _ => 0)), (q27, .inl (cI, 1024, .inl fun _ => 0))] H := hP
  have hD : va_D A [(h0, .inr (8, [.ref q5, .int 0, .int 0, .int 0, .int 0, .int 0, .int 0, .ref q18, .null, .null, .int 0, .int 0, .null, .int 0])), (q5, .inr (9, [.int 0, .int 0, .int 0, .int 0])), (q18, .inl (cI, 8, .inl fun _ => 0)), (q27, .inl (cI, 1024, .inl fun _ => 0))] := hD
  refine W.widen (k := 3) (n := 1036) (le_ rfl) (le_ rfl) ?_
  refine va_putF (D := D) (ci := 8) (v := .ref q27) (ty := (.array .int)) (C := cn_Machine) (T := fT_Machine) (N := 14) hx hb hts ko_Machine.1 ty_Machine ty_Machine_ok nm_Machine hown hK hP hD hS 0 rfl rfl 8 (by decide) (hts _ g_2_83) (fun _ h9 => h9) rfl hin rfl (by decide +kernel) rfl rfl (le_ rfl) (dq dk_new_Machine 14 rfl) (fun H locs hP hD hS => ?_)
  have hP : va_P D classes [(h0, .inr (8, [.ref q5, .int 0, .int 0, .int 0, .int 0, .int 0, .int 0, .ref q18, .ref q27, .null, .int 0, .int 0, .null, .int 0])), (q5, .inr (9, [.int 0, .int 0, .int 0, .int 0])), (q18, .inl (cI, 8, .inl fun _ => 0)), (q27, .inl (cI, 1024, .inl fun _ => 0))] H := hP
  have hD : va_D A [(h0, .inr (8, [.ref q5, .int 0, .int 0, .int 0, .int 0, .int 0, .int 0, .ref q18, .ref q27, .null, .int 0, .int 0, .null, .int 0])), (q5, .inr (9, [.int 0, .int 0, .int 0, .int 0])), (q18, .inl (cI, 8, .inl fun _ => 0)), (q27, .inl (cI, 1024, .inl fun _ => 0))] := hD
  refine lv_aload_n hx hb (dq dk_new_Machine 15 rfl) rfl (lv_at hl 0 rfl) ?_
  refine lv_bipush (v := 50) hx hb (dq dk_new_Machine 16 rfl) bp_50 ?_
  refine na_row (atype := .int) (ty := .int) (a0 := (50, .inl fun _ => 0)) hx hb rfl (hts _ g_1_51) hK 0 rfl (fun _ h => h) hP hD hS hA (fun _ => rfl) (by decide) (by decide) (by decide) (le_ rfl) (le_ rfl) (dq dk_new_Machine 17 rfl) (fun q35 H hP hD hS => ?_)
  have hP : va_P D classes [(h0, .inr (8, [.ref q5, .int 0, .int 0, .int 0, .int 0, .int 0, .int 0, .ref q18, .ref q27, .null, .int 0, .int 0, .null, .int 0])), (q5, .inr (9, [.int 0, .int 0, .int 0, .int 0])), (q18, .inl (cI, 8, .inl fun _ => 0)), (q27, .inl (cI, 1024, .inl fun _ => 0)), (q35, .inl (cI, 50, .inl fun _ => 0))] H := hP
  have hD : va_D A [(h0, .inr (8, [.ref q5, .int 0, .int 0, .int 0, .int 0, .int 0, .int 0, .ref q18, .ref q27, .null, .int 0, .int 0, .null, .int 0])), (q5, .inr (9, [.int 0, .int 0, .int 0, .int 0])), (q18, .inl (cI, 8, .inl fun _ => 0)), (q27, .inl (cI, 1024, .inl fun _ => 0)), (q35, .inl (cI, 50, .inl fun _ => 0))] := hD
  refine W.widen (k := 4) (n := 1086) (le_ rfl) (le_ rfl) ?_
  refine va_putF (D := D) (ci := 8) (v := .ref q35) (ty := (.array .int)) (C := cn_Machine) (T := fT_Machine) (N := 14) hx hb hts ko_Machine.1 ty_Machine ty_Machine_ok nm_Machine hown hK hP hD hS 0 rfl rfl 9 (by decide) (hts _ g_2_84) (fun _ h9 => h9) rfl hin rfl (by decide +kernel) rfl rfl (le_ rfl) (dq dk_new_Machine 18 rfl) (fun H locs hP hD hS => ?_)
  have hP : va_P D classes [(h0, .inr (8, [.ref q5, .int 0, .int 0, .int 0, .int 0, .int 0, .int 0, .ref q18, .ref q27, .ref q35, .int 0, .int 0, .null, .int 0])), (q5, .inr (9, [.int 0, .int 0, .int 0, .int 0])), (q18, .inl (cI, 8, .inl fun _ => 0)), (q27, .inl (cI, 1024, .inl fun _ => 0)), (q35, .inl (cI, 50, .inl fun _ => 0))] H := hP
  have hD : va_D A [(h0, .inr (8, [.ref q5, .int 0, .int 0, .int 0, .int 0, .int 0, .int 0, .ref q18, .ref q27, .ref q35, .int 0, .int 0, .null, .int 0])), (q5, .inr (9, [.int 0, .int 0, .int 0, .int 0])), (q18, .inl (cI, 8, .inl fun _ => 0)), (q27, .inl (cI, 1024, .inl fun _ => 0)), (q35, .inl (cI, 50, .inl fun _ => 0))] := hD
  refine lv_aload_n hx hb (dq dk_new_Machine 19 rfl) rfl (lv_at hl 0 rfl) ?_
  refine lv_bipush (v := 100) hx hb (dq dk_new_Machine 20 rfl) bp_100 ?_
  refine na_row (atype := .int) (ty := .int) (a0 := (100, .inl fun _ => 0)) hx hb rfl (hts _ g_1_51) hK 0 rfl (fun _ h => h) hP hD hS hA (fun _ => rfl) (by decide) (by decide) (by decide) (le_ rfl) (le_ rfl) (dq dk_new_Machine 21 rfl) (fun q43 H hP hD hS => ?_)
  have hP : va_P D classes [(h0, .inr (8, [.ref q5, .int 0, .int 0, .int 0, .int 0, .int 0, .int 0, .ref q18, .ref q27, .ref q35, .int 0, .int 0, .null, .int 0])), (q5, .inr (9, [.int 0, .int 0, .int 0, .int 0])), (q18, .inl (cI, 8, .inl fun _ => 0)), (q27, .inl (cI, 1024, .inl fun _ => 0)), (q35, .inl (cI, 50, .inl fun _ => 0)), (q43, .inl (cI, 100, .inl fun _ => 0))] H := hP
  have hD : va_D A [(h0, .inr (8, [.ref q5, .int 0, .int 0, .int 0, .int 0, .int 0, .int 0, .ref q18, .ref q27, .ref q35, .int 0, .int 0, .null, .int 0])), (q5, .inr (9, [.int 0, .int 0, .int 0, .int 0])), (q18, .inl (cI, 8, .inl fun _ => 0)), (q27, .inl (cI, 1024, .inl fun _ => 0)), (q35, .inl (cI, 50, .inl fun _ => 0)), (q43, .inl (cI, 100, .inl fun _ => 0))] := hD
  refine W.widen (k := 5) (n := 1186) (le_ rfl) (le_ rfl) ?_
  refine va_putF (D := D) (ci := 8) (v := .ref q43) (ty := (.array .int)) (C := cn_Machine) (T := fT_Machine) (N := 14) hx hb hts ko_Machine.1 ty_Machine ty_Machine_ok nm_Machine hown hK hP hD hS 0 rfl rfl 12 (by decide) (hts _ g_2_87) (fun _ h9 => h9) rfl hin rfl (by decide +kernel) rfl rfl (le_ rfl) (dq dk_new_Machine 22 rfl) (fun H locs hP hD hS => ?_)
  have hP : va_P D classes [(h0, .inr (8, [.ref q5, .int 0, .int 0, .int 0, .int 0, .int 0, .int 0, .ref q18, .ref q27, .ref q35, .int 0, .int 0, .ref q43, .int 0])), (q5, .inr (9, [.int 0, .int 0, .int 0, .int 0])), (q18, .inl (cI, 8, .inl fun _ => 0)), (q27, .inl (cI, 1024, .inl fun _ => 0)), (q35, .inl (cI, 50, .inl fun _ => 0)), (q43, .inl (cI, 100, .inl fun _ => 0))] H := hP
  have hD : va_D A [(h0, .inr (8, [.ref q5, .int 0, .int 0, .int 0, .int 0, .int 0, .int 0, .ref q18, .ref q27, .ref q35, .int 0, .int 0, .ref q43, .int 0])), (q5, .inr (9, [.int 0, .int 0, .int 0, .int 0])), (q18, .inl (cI, 8, .inl fun _ => 0)), (q27, .inl (cI, 1024, .inl fun _ => 0)), (q35, .inl (cI, 50, .inl fun _ => 0)), (q43, .inl (cI, 100, .inl fun _ => 0))] := hD
  exact W.vret hx hb hr (fun t ht hW => ⟨⟨[q5, q18, q27, q35, q43], rfl, trivial, by rw [ht]; exact hP, hD⟩, hS.F ht⟩) hS.2.2 (dq dk_new_Machine 23 rfl)
theorem bl_Runner : ∀ j, j < 3 → defaultValue (ty_Runner j) = vp_V [.null, .null, .null] j := by decide
abbrev y_new_Runner : MethodName := ⟨"BundleHouse$Runner", "<init>", "(LBundleHouse$Strip;LBundleHouse$Reader;LBundleHouse$Machine;)V"⟩
def dl_new_Runner : List (Nat × Instr × Nat) := [(0, .aload_n 0, 1), (1, .invokespecial 3, 3), (4, .aload_n 0, 1), (5, .aload_n 1, 1), (6, .putfield 9, 3), (9, .aload_n 0, 1), (10, .aload_n 2, 1), (11, .putfield 15, 3), (14, .aload_n 0, 1), (15, .aload_n 3, 1), (16, .putfield 19, 3), (19, .return_, 1)]
set_option maxRecDepth 100000 in
theorem dk_new_Runner : ∀ q ∈ dl_new_Runner, decode prog_10_method_1_code q.1 = .ok q.2 := by decide +kernel
abbrev rm_new_Runner : Room := { frames := 1, cells := 0, slots := 0, locals := 12 }
set_option maxHeartbeats 4000000 in
set_option maxRecDepth 100000 in
theorem n_Runner (l : Launch) (D : va_G) (cI cZ : ClassId) (h0 : Nat) (p1 : Nat) (p2 : Nat) (p3 : Nat) (sz : Nat) : Met l y_new_Runner (Cond.code y_new_Runner prog_10_method_1_code 4 none :: GT) rm_new_Runner (va_Pc [.ref h0, .ref p1, .ref p2, .ref p3] (fun U => U.heap.size = sz ∧ va_P D classes [(h0, .inr (10, [.null, .null, .null]))] U.heap ∧ KC D cI cZ U ∧ va_D (fun _ => True) [(h0, .inr (10, [.null, .null, .null]))])) (va_Qv (fun _ : List Nat => True) (fun u t => va_P D classes [(h0, .inr (10, [.ref p1, .ref p2, .ref p3]))] t.heap ∧ va_D (va_A [(h0, .inr (10, [.null, .null, .null]))] sz) [(h0, .inr (10, [.ref p1, .ref p2, .ref p3]))]) (va_A [(h0, .inr (10, [.null, .null, .null]))] sz)) 0 0 (va_A [(h0, .inr (10, [.null, .null, .null]))] sz) := by
  refine Met.ofW (cc := prog_10_method_1_code) (maxL := 4) (ret := none) (by decide) rfl ?_
  intro p e s m args below meth c s₁ B hml hv
  obtain ⟨rfl, hsz, hP, ⟨hK, hN⟩, hD0⟩ := hv
  have hx := B.exec
  have hb := B.bytes
  have hr := B.returns
  have hts : ∀ w ∈ GT, w.before ([.ref h0, .ref p1, .ref p2, .ref p3] : List Value).toArray s = true := fun w hw => atoms_spec (ws := Cond.code y_new_Runner prog_10_method_1_code 4 none :: GT) B.pre w (List.mem_cons_of_mem _ hw)
  have hown : s.vm.findClass "BundleHouse$Runner" = some m.cls := findClass_of_methodNamed B.named
  have hlocks := B.notSynchronized
  have hin : meth.name = "<init>" := (name_of_methodNamed B.named B.method).1
  subst hsz
  have hD := hD0.self (sz := s.heap.size)
  generalize hAe : va_A [(h0, .inr (10, [.null, .null, .null]))] s.heap.size = A at hD ⊢
  have hA : ∀ q : Nat, s.heap.size ≤ q → A q := fun q h => by rw [← hAe]; exact Or.inr h
  have hS : va_S A s.heap s.heap [] := va_S.rf
  have hl := lv_entry ([.ref h0, .ref p1, .ref p2, .ref p3]) (n := 4) (le_ rfl)
  rw [lg_entry_eq]
  generalize (lg_sl ([.ref h0, .ref p1, .ref p2, .ref p3]) ++ List.replicate (4 - (lg_sl ([.ref h0, .ref p1, .ref p2, .ref p3])).length) Slot.unset).toArray = ls at hl ⊢
  have hl : lv_has ls 4 [(0, .ref h0), (1, .ref p1), (2, .ref p2), (3, .ref p3)] := hl
  have hP : va_P D classes [(h0, .inr (10, [.null, .null, .null]))] s.heap := hP
  refine lv_aload_n hx hb (dq dk_new_Runner 0 rfl) rfl (lv_at hl 0 rfl) ?_
  refine W.objInit hx hb hown (hts _ g_2_123) (hts _ g_1_28) (hts _ g_1_29) rfl (by rw [hml]; exact hl.1) rfl (dq dk_new_Runner 1 rfl) (le_ rfl) (le_ rfl) ?_
  refine W.eq (g2 := F0 m 4 ls []) rfl ?_
  refine lv_aload_n hx hb (dq dk_new_Runner 2 rfl) rfl (lv_at hl 0 rfl) ?_
  refine lv_aload_n hx hb (dq dk_new_Runner 3 rfl) rfl (lv_at hl 1 rfl) ?_
  refine va_putF (D := D) (ci := 10) (v := .ref p1) (ty := (.object "BundleHouse$Strip")) (C := cn_Runner) (T := fT_Runner) (N := 3) hx hb hts ko_Runner.1 ty_Runner ty_Runner_ok nm_Runner hown hK hP hD hS 0 rfl rfl 0 (by decide) (hts _ g_2_124) (fun _ h9 => h9) rfl hin rfl (by decide +kernel) rfl rfl (le_ rfl) (dq dk_new_Runner 4 rfl) (fun H locs hP hD hS => ?_)
  have hP : va_P D classes [(h0, .inr (10, [.ref p1, .null, .null]))] H := hP
  have hD : va_D A [(h0, .inr (10, [.ref p1, .null, .null]))] := hD
  refine lv_aload_n hx hb (dq dk_new_Runner 5 rfl) rfl (lv_at hl 0 rfl) ?_
  refine lv_aload_n hx hb (dq dk_new_Runner 6 rfl) rfl (lv_at hl 2 rfl) ?_
  refine va_putF (D := D) (ci := 10) (v := .ref p2) (ty := (.object "BundleHouse$Reader")) (C := cn_Runner) (T := fT_Runner) (N := 3) hx hb hts ko_Runner.1 ty_Runner ty_Runner_ok nm_Runner hown hK hP hD hS 0 rfl rfl 1 (by decide) (hts _ g_2_125) (fun _ h9 => h9) rfl hin rfl (by decide +kernel) rfl rfl (le_ rfl) (dq dk_new_Runner 7 rfl) (fun H locs hP hD hS => ?_)
  have hP : va_P D classes [(h0, .inr (10, [.ref p1, .ref p2, .null]))] H := hP
  have hD : va_D A [(h0, .inr (10, [.ref p1, .ref p2, .null]))] := hD
  refine lv_aload_n hx hb (dq dk_new_Runner 8 rfl) rfl (lv_at hl 0 rfl) ?_
  refine lv_aload_n hx hb (dq dk_new_Runner 9 rfl) rfl (lv_at hl 3 rfl) ?_
  refine va_putF (D := D) (ci := 10) (v := .ref p3) (ty := (.object "BundleHouse$Machine")) (C := cn_Runner) (T := fT_Runner) (N := 3) hx hb hts ko_Runner.1 ty_Runner ty_Runner_ok nm_Runner hown hK hP hD hS 0 rfl rfl 2 (by decide) (hts _ g_2_126) (fun _ h9 => h9) rfl hin rfl (by decide +kernel) rfl rfl (le_ rfl) (dq dk_new_Runner 10 rfl) (fun H locs hP hD hS => ?_)
  have hP : va_P D classes [(h0, .inr (10, [.ref p1, .ref p2, .ref p3]))] H := hP
  have hD : va_D A [(h0, .inr (10, [.ref p1, .ref p2, .ref p3]))] := hD
  exact W.vret hx hb hr (fun t ht hW => ⟨⟨[], rfl, trivial, by rw [ht]; exact hP, hD⟩, hS.F ht⟩) hS.2.2 (dq dk_new_Runner 11 rfl)
theorem bl_Walker : ∀ j, j < 4 → defaultValue (ty_Walker j) = vp_V [.null, .null, .null, .int 0] j := by decide
abbrev y_new_Walker : MethodName := ⟨"BundleHouse$Walker", "<init>", "(LBundleHouse$Program;LBundleHouse$Machine;)V"⟩
def dl_new_Walker : List (Nat × Instr × Nat) := [(0, .aload_n 0, 1), (1, .invokespecial 3, 3), (4, .aload_n 0, 1), (5, .new 9, 3), (8, .dup, 1), (9, .invokespecial 11, 3), (12, .putfield 12, 3), (15, .aload_n 0, 1), (16, .aload_n 1, 1), (17, .putfield 18, 3), (20, .aload_n 0, 1), (21, .aload_n 2, 1), (22, .putfield 22, 3), (25, .return_, 1)]
set_option maxRecDepth 100000 in
theorem dk_new_Walker : ∀ q ∈ dl_new_Walker, decode prog_12_method_1_code q.1 = .ok q.2 := by decide +kernel
abbrev rm_new_Walker : Room := { frames := 2, cells := 1, slots := 7, locals := 32 }
set_option maxHeartbeats 4000000 in
set_option maxRecDepth 100000 in
theorem n_Walker (l : Launch) (D : va_G) (cI cZ : ClassId) (h0 : Nat) (p1 : Nat) (p2 : Nat) (sz : Nat) : Met l y_new_Walker (Cond.code y_new_Walker prog_12_method_1_code 3 none :: GT) rm_new_Walker (va_Pc [.ref h0, .ref p1, .ref p2] (fun U => U.heap.size = sz ∧ va_P D classes [(h0, .inr (11, [.null, .null, .null, .int 0]))] U.heap ∧ KC D cI cZ U ∧ va_D (fun _ => True) [(h0, .inr (11, [.null, .null, .null, .int 0]))])) (va_Qv (fun _ : List Nat => True) (fun u t => va_P D classes [(h0, .inr (11, [.ref p1, .ref p2, .ref (u.getD 0 0), .int 0])), (u.getD 0 0, .inr (4, [.int 0, .int 0, .int 0, .int 0, .int 0, .int 0, .int 0]))] t.heap ∧ va_D (va_A [(h0, .inr (11, [.null, .null, .null, .int 0]))] sz) [(h0, .inr (11, [.ref p1, .ref p2, .ref (u.getD 0 0), .int 0])), (u.getD 0 0, .inr (4, [.int 0, .int 0, .int 0, .int 0, .int 0, .int 0, .int 0]))]) (va_A [(h0, .inr (11, [.null, .null, .null, .int 0]))] sz)) 1 7 (va_A [(h0, .inr (11, [.null, .null, .null, .int 0]))] sz) := by
  refine Met.ofW (cc := prog_12_method_1_code) (maxL := 3) (ret := none) (by decide) rfl ?_
  intro p e s m args below meth c s₁ B hml hv
  obtain ⟨rfl, hsz, hP, ⟨hK, hN⟩, hD0⟩ := hv
  have hx := B.exec
  have hb := B.bytes
  have hr := B.returns
  have hts : ∀ w ∈ GT, w.before ([.ref h0, .ref p1, .ref p2] : List Value).toArray s = true := fun w hw => atoms_spec (ws := Cond.code y_new_Walker prog_12_method_1_code 3 none :: GT) B.pre w (List.mem_cons_of_mem _ hw)
  have hown : s.vm.findClass "BundleHouse$Walker" = some m.cls := findClass_of_methodNamed B.named
  have hlocks := B.notSynchronized
  have hin : meth.name = "<init>" := (name_of_methodNamed B.named B.method).1
  subst hsz
  have hD := hD0.self (sz := s.heap.size)
  generalize hAe : va_A [(h0, .inr (11, [.null, .null, .null, .int 0]))] s.heap.size = A at hD ⊢
  have hA : ∀ q : Nat, s.heap.size ≤ q → A q := fun q h => by rw [← hAe]; exact Or.inr h
  have hS : va_S A s.heap s.heap [] := va_S.rf
  have hl := lv_entry ([.ref h0, .ref p1, .ref p2]) (n := 3) (le_ rfl)
  rw [lg_entry_eq]
  generalize (lg_sl ([.ref h0, .ref p1, .ref p2]) ++ List.replicate (3 - (lg_sl ([.ref h0, .ref p1, .ref p2])).length) Slot.unset).toArray = ls at hl ⊢
  have hl : lv_has ls 3 [(0, .ref h0), (1, .ref p1), (2, .ref p2)] := hl
  have hP : va_P D classes [(h0, .inr (11, [.null, .null, .null, .int 0]))] s.heap := hP
  refine lv_aload_n hx hb (dq dk_new_Walker 0 rfl) rfl (lv_at hl 0 rfl) ?_
  refine W.objInit hx hb hown (hts _ g_2_139) (hts _ g_1_28) (hts _ g_1_29) rfl (by rw [hml]; exact hl.1) rfl (dq dk_new_Walker 1 rfl) (le_ rfl) (le_ rfl) ?_
  refine W.eq (g2 := F0 m 4 ls []) rfl ?_
  refine lv_aload_n hx hb (dq dk_new_Walker 2 rfl) rfl (lv_at hl 0 rfl) ?_
  refine va_new (ci := 4) (fs := [.int 0, .int 0, .int 0, .int 0, .int 0, .int 0, .int 0]) (C := cn_Instruction) (T := fT_Instruction) (N := 7) hx hb hts ko_Instruction.1 ty_Instruction ty_Instruction_ok hown (hts _ g_2_140) (hts _ g_1_65) (hts _ g_1_5) hK hP hD hS hA rfl (bl_Instruction) (le_ rfl) (le_ rfl) (dq dk_new_Walker 3 rfl) (fun q5 H hP hD hS => ?_)
  have hP : va_P D classes [(h0, .inr (11, [.null, .null, .null, .int 0])), (q5, .inr (4, [.int 0, .int 0, .int 0, .int 0, .int 0, .int 0, .int 0]))] H := hP
  have hD : va_D A [(h0, .inr (11, [.null, .null, .null, .int 0])), (q5, .inr (4, [.int 0, .int 0, .int 0, .int 0, .int 0, .int 0, .int 0]))] := hD
  refine W.widen (k := 1) (n := 7) (le_ rfl) (le_ rfl) ?_
  refine lv_dup hx hb (dq dk_new_Walker 4 rfl) rfl ?_
  have hPc := hP.sub (ws' := [(q5, .inr (4, [.int 0, .int 0, .int 0, .int 0, .int 0, .int 0, .int 0]))]) [1] rfl
  have hDc := hD.sub (ws' := [(q5, .inr (4, [.int 0, .int 0, .int 0, .int 0, .int 0, .int 0, .int 0]))]) [1] (by decide) rfl
  have hFc := va_free (wc := [(q5, .inr (4, [.int 0, .int 0, .int 0, .int 0, .int 0, .int 0, .int 0]))]) hD hS hA [1] rfl
  refine va_callv (va_runIN (As := []) (rest := [.ref q5, .ref h0]) ⟨hx, hb, hml, hown, hts⟩ (n_Instruction l D cI cZ q5 H.size) ⟨va_cnB 0 hts (good1 g_1_68) rfl rfl rfl (hN _ nw_7) (hts _ g_1_5) ⟨by decide, by decide, by decide +kernel⟩ ⟨le_ rfl, le_ rfl⟩, rfl, hts _ g_1_67⟩ ⟨fun a U fr mk q => ⟨q.1, q.2.1, q.2.2.1, q.2.2.2.1.calling fr mk a, q.2.2.2.2⟩, fun U hU hW => ⟨rfl, by rw [hU], by rw [hU]; exact hPc, KC.moved hW ⟨hK, hN⟩, hDc.weaken (fun _ _ _ _ => trivial)⟩⟩ rfl rfl hl.1 rfl (lv_room (le_ rfl)) (dq dk_new_Walker 5 rfl) ⟨le_ rfl, le_ rfl⟩) hS (fun q _ h => hFc q h) hFc (fun u9 t H1 locs ht hvm hw hB hz1 hk1 hS => ?_)
  obtain ⟨hP1, hD1⟩ := hB
  rw [ht] at hP1
  obtain ⟨hP, hD⟩ := va_join (wr := [(h0, .inr (11, [.null, .null, .null, .int 0]))]) (w1 := [(q5, .inr (4, [.int 0, .int 0, .int 0, .int 0, .int 0, .int 0, .int 0]))]) hP hD [1] [0] rfl rfl (by decide) (by decide) hk1 hFc hP1 hD1
  generalize H1 = H at hP hS ⊢
  have hP : va_P D classes [(h0, .inr (11, [.null, .null, .null, .int 0])), (q5, .inr (4, [.int 0, .int 0, .int 0, .int 0, .int 0, .int 0, .int 0]))] H := hP
  have hD : va_D A [(h0, .inr (11, [.null, .null, .null, .int 0])), (q5, .inr (4, [.int 0, .int 0, .int 0, .int 0, .int 0, .int 0, .int 0]))] := hD
  refine W.widen (k := 1) (n := 7) (le_ rfl) (le_ rfl) ?_
  refine va_putF (D := D) (ci := 11) (v := .ref q5) (ty := (.object "BundleHouse$Instruction")) (C := cn_Walker) (T := fT_Walker) (N := 4) hx hb hts ko_Walker.1 ty_Walker ty_Walker_ok nm_Walker hown hK hP hD hS 0 rfl rfl 2 (by decide) (hts _ g_2_144) (fun _ h9 => h9) rfl hin rfl (by decide +kernel) rfl rfl (le_ rfl) (dq dk_new_Walker 6 rfl) (fun H locs hP hD hS => ?_)
  have hP : va_P D classes [(h0, .inr (11, [.null, .null, .ref q5, .int 0])), (q5, .inr (4, [.int 0, .int 0, .int 0, .int 0, .int 0, .int 0, .int 0]))] H := hP
  have hD : va_D A [(h0, .inr (11, [.null, .null, .ref q5, .int 0])), (q5, .inr (4, [.int 0, .int 0, .int 0, .int 0, .int 0, .int 0, .int 0]))] := hD
  refine lv_aload_n hx hb (dq dk_new_Walker 7 rfl) rfl (lv_at hl 0 rfl) ?_
  refine lv_aload_n hx hb (dq dk_new_Walker 8 rfl) rfl (lv_at hl 1 rfl) ?_
  refine va_putF (D := D) (ci := 11) (v := .ref p1) (ty := (.object "BundleHouse$Program")) (C := cn_Walker) (T := fT_Walker) (N := 4) hx hb hts ko_Walker.1 ty_Walker ty_Walker_ok nm_Walker hown hK hP hD hS 0 rfl rfl 0 (by decide) (hts _ g_2_142) (fun _ h9 => h9) rfl hin rfl (by decide +kernel) rfl rfl (le_ rfl) (dq dk_new_Walker 9 rfl) (fun H locs hP hD hS => ?_)
  have hP : va_P D classes [(h0, .inr (11, [.ref p1, .null, .ref q5, .int 0])), (q5, .inr (4, [.int 0, .int 0, .int 0, .int 0, .int 0, .int 0, .int 0]))] H := hP
  have hD : va_D A [(h0, .inr (11, [.ref p1, .null, .ref q5, .int 0])), (q5, .inr (4, [.int 0, .int 0, .int 0, .int 0, .int 0, .int 0, .int 0]))] := hD
  refine lv_aload_n hx hb (dq dk_new_Walker 10 rfl) rfl (lv_at hl 0 rfl) ?_
  refine lv_aload_n hx hb (dq dk_new_Walker 11 rfl) rfl (lv_at hl 2 rfl) ?_
  refine va_putF (D := D) (ci := 11) (v := .ref p2) (ty := (.object "BundleHouse$Machine")) (C := cn_Walker) (T := fT_Walker) (N := 4) hx hb hts ko_Walker.1 ty_Walker ty_Walker_ok nm_Walker hown hK hP hD hS 0 rfl rfl 1 (by decide) (hts _ g_2_143) (fun _ h9 => h9) rfl hin rfl (by decide +kernel) rfl rfl (le_ rfl) (dq dk_new_Walker 12 rfl) (fun H locs hP hD hS => ?_)
  have hP : va_P D classes [(h0, .inr (11, [.ref p1, .ref p2, .ref q5, .int 0])), (q5, .inr (4, [.int 0, .int 0, .int 0, .int 0, .int 0, .int 0, .int 0]))] H := hP
  have hD : va_D A [(h0, .inr (11, [.ref p1, .ref p2, .ref q5, .int 0])), (q5, .inr (4, [.int 0, .int 0, .int 0, .int 0, .int 0, .int 0, .int 0]))] := hD
  exact W.vret hx hb hr (fun t ht hW => ⟨⟨[q5], rfl, trivial, by rw [ht]; exact hP, hD⟩, hS.F ht⟩) hS.2.2 (dq dk_new_Walker 13 rfl)
