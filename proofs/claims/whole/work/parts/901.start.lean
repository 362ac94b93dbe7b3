theorem g_1_22 : (Jvm.Cond.classLink "BundleHouseLaw" (8 : Nat) "BundleHouse") ∈ GT := gt_of (ts_1 (List.mem_of_getElem? (i := 22) rfl)) rfl
theorem g_1_23 : (Jvm.Cond.instantiable "BundleHouse" (16 : Nat)) ∈ GT := gt_of (ts_1 (List.mem_of_getElem? (i := 23) rfl)) rfl
theorem g_1_24 : (Jvm.Cond.methodLink "BundleHouseLaw" (33 : Nat) ({ cls := "BundleHouse", name := "<init>", desc := "()V" } : Jvm.MethodName)) ∈ GT := gt_of (ts_1 (List.mem_of_getElem? (i := 24) rfl)) rfl
theorem g_1_25 : (Jvm.Cond.instanceMethod ({ cls := "BundleHouse", name := "<init>", desc := "()V" } : Jvm.MethodName)) ∈ GT := gt_of (ts_1 (List.mem_of_getElem? (i := 25) rfl)) rfl
theorem g_1_26 : (Jvm.Cond.code ({ cls := "BundleHouse", name := "<init>", desc := "()V" } : Jvm.MethodName) prog_1_method_1_code (1 : Nat) (Option.none : Option Jvm.ClassFile.FieldType)) ∈ GT := gt_of (ts_1 (List.mem_of_getElem? (i := 26) rfl)) rfl
theorem g_6_44 : (Jvm.Cond.classLink "BundleHouseLaw" (34 : Nat) "BundleHouseModel") ∈ GT := gt_of (ts_6 (List.mem_of_getElem? (i := 44) rfl)) rfl
theorem g_6_45 : (Jvm.Cond.instantiable "BundleHouseModel" (63 : Nat)) ∈ GT := gt_of (ts_6 (List.mem_of_getElem? (i := 45) rfl)) rfl
theorem g_6_46 : (Jvm.Cond.methodLink "BundleHouseLaw" (36 : Nat) ({ cls := "BundleHouseModel", name := "<init>", desc := "()V" } : Jvm.MethodName)) ∈ GT := gt_of (ts_6 (List.mem_of_getElem? (i := 46) rfl)) rfl
theorem g_6_47 : (Jvm.Cond.instanceMethod ({ cls := "BundleHouseModel", name := "<init>", desc := "()V" } : Jvm.MethodName)) ∈ GT := gt_of (ts_6 (List.mem_of_getElem? (i := 47) rfl)) rfl
theorem g_6_48 : (Jvm.Cond.code ({ cls := "BundleHouseModel", name := "<init>", desc := "()V" } : Jvm.MethodName) prog_14_method_1_code (1 : Nat) (Option.none : Option Jvm.ClassFile.FieldType)) ∈ GT := gt_of (ts_6 (List.mem_of_getElem? (i := 48) rfl)) rfl
theorem g_8_132 : (Jvm.Cond.arrayClass Jvm.ClassFile.FieldType.long) ∈ GT := gt_of (ts_8 (List.mem_of_getElem? (i := 132) rfl)) rfl

theorem nw_in : ∀ w ∈ NW, w ∈ lw_tbl := List.forall_mem_cons.mpr ⟨ts_1 (List.mem_of_getElem? (i := 32) rfl), List.forall_mem_cons.mpr ⟨ts_1 (List.mem_of_getElem? (i := 66) rfl), List.forall_mem_cons.mpr ⟨ts_1 (List.mem_of_getElem? (i := 171) rfl), List.forall_mem_cons.mpr ⟨ts_1 (List.mem_of_getElem? (i := 236) rfl), List.forall_mem_cons.mpr ⟨ts_2 (List.mem_of_getElem? (i := 11) rfl), List.forall_mem_cons.mpr ⟨ts_2 (List.mem_of_getElem? (i := 37) rfl), List.forall_mem_cons.mpr ⟨ts_2 (List.mem_of_getElem? (i := 43) rfl), List.forall_mem_cons.mpr ⟨ts_2 (List.mem_of_getElem? (i := 141) rfl), List.forall_mem_cons.mpr ⟨ts_3 (List.mem_of_getElem? (i := 16) rfl), List.forall_mem_cons.mpr ⟨ts_3 (List.mem_of_getElem? (i := 79) rfl), List.forall_mem_cons.mpr ⟨ts_3 (List.mem_of_getElem? (i := 162) rfl), List.forall_mem_cons.mpr ⟨ts_3 (List.mem_of_getElem? (i := 201) rfl), List.forall_mem_cons.mpr ⟨ts_3 (List.mem_of_getElem? (i := 218) rfl), List.forall_mem_cons.mpr ⟨ts_3 (List.mem_of_getElem? (i := 239) rfl), List.forall_mem_cons.mpr ⟨ts_4 (List.mem_of_getElem? (i := 40) rfl), List.forall_mem_cons.mpr ⟨ts_4 (List.mem_of_getElem? (i := 130) rfl), List.forall_mem_cons.mpr ⟨ts_4 (List.mem_of_getElem? (i := 138) rfl), List.forall_mem_cons.mpr ⟨ts_5 (List.mem_of_getElem? (i := 52) rfl), List.forall_mem_cons.mpr ⟨ts_5 (List.mem_of_getElem? (i := 111) rfl), List.forall_mem_cons.mpr ⟨ts_5 (List.mem_of_getElem? (i := 206) rfl), fun _ h => absurd h List.not_mem_nil⟩⟩⟩⟩⟩⟩⟩⟩⟩⟩⟩⟩⟩⟩⟩⟩⟩⟩⟩⟩
theorem dcl_in : ∀ x ∈ DCL, Cond.declares x ∈ lw_tbl := List.forall_mem_cons.mpr ⟨ts_4 (List.mem_of_getElem? (i := 166) rfl), List.forall_mem_cons.mpr ⟨ts_4 (List.mem_of_getElem? (i := 167) rfl), List.forall_mem_cons.mpr ⟨ts_4 (List.mem_of_getElem? (i := 168) rfl), List.forall_mem_cons.mpr ⟨ts_4 (List.mem_of_getElem? (i := 169) rfl), List.forall_mem_cons.mpr ⟨ts_4 (List.mem_of_getElem? (i := 170) rfl), List.forall_mem_cons.mpr ⟨ts_4 (List.mem_of_getElem? (i := 171) rfl), fun _ h => absurd h List.not_mem_nil⟩⟩⟩⟩⟩⟩
theorem str_in : ∀ q ∈ STR, Cond.stringRef "BundleHouse" q.1 q.2 ∈ lw_tbl := List.forall_mem_cons.mpr ⟨ts_4 (List.mem_of_getElem? (i := 204) rfl), List.forall_mem_cons.mpr ⟨ts_4 (List.mem_of_getElem? (i := 232) rfl), List.forall_mem_cons.mpr ⟨ts_5 (List.mem_of_getElem? (i := 16) rfl), List.forall_mem_cons.mpr ⟨ts_5 (List.mem_of_getElem? (i := 32) rfl), List.forall_mem_cons.mpr ⟨ts_5 (List.mem_of_getElem? (i := 181) rfl), List.forall_mem_cons.mpr ⟨ts_6 (List.mem_of_getElem? (i := 22) rfl), List.forall_mem_cons.mpr ⟨ts_6 (List.mem_of_getElem? (i := 38) rfl), fun _ h => absurd h List.not_mem_nil⟩⟩⟩⟩⟩⟩⟩
/-! ===== what holds at the law's start ===== -/
theorem fo_start {g : Gd} {s : State} {args : Array Value} {fa : Nat} (hl : (Cond.laysStatic "BundleHouse" "FORMS" "[I").before args s = true) (hini : (Cond.initialized "BundleHouse").before args s = true) (hv : (Term.static "BundleHouse" "FORMS" "[I").eval args s none [] s = some (.ref fa)) (hT : va_T .int fa 23 (fun j => .int (FORMS j)) (fun q => s.heap.size ≤ q) s s.heap) (hge : ∀ o, o < NC → s.heap.size ≤ g.2.2.2.2 o) (hNC : g.2.2.2.2 NC = fa) : FO g s s.heap := by
  have h := va_Zof (A := fun q => s.heap.size ≤ q) hl hini hv (fun a ha => Nat.not_le.mpr ha)
  obtain ⟨cf, kf, fi, f, q, cell, h1, h2, h3, h4, h5, h6, h7, h8⟩ := h
  obtain ⟨ca, t1, t2, t3, t4, t5, t6, t7⟩ := hT
  refine ⟨⟨cf, kf, fi, f, q, cell, h1, h2, h3, h4, h5, h6, by rw [hNC]; exact h7, fun o ho e => h8 (by rw [e]; exact hge o ho)⟩, ⟨ca, by rw [hNC]; exact t1, t2, t3, t4, t5, t6⟩, fun o ho e => t7 (by rw [← hNC, e]; exact hge o ho)⟩
theorem sf_start {g : Gd} {s : State} {args : Array Value} {n d : String} (hl : (Cond.laysStatic "java/lang/Throwable" n d).before args s = true) (hr : (Cond.isRef (.static "java/lang/Throwable" n d)).before args s = true) (hge : ∀ o, o < NC → s.heap.size ≤ g.2.2.2.2 o) : SF g s s.heap n d := by
  obtain ⟨c, k, i, f, a, cell, hc, hi, hst, ha, hcell, hs, hcls, hlt, hty⟩ := Cond.laysStatic_spec hl
  obtain ⟨u, hu⟩ := Cond.staticRefV hi hst ha hcell hs hr
  exact ⟨c, k, i, f, a, cell, u.v, hc, hi, hst, ha, hcell, hs, hcls, hlt, hty, hu, u.2, fun o ho e => by
    have h1 := (Array.getElem?_eq_some_iff.mp hcell).1
    rw [e] at h1
    exact absurd (hge o ho) (Nat.not_le.mpr h1)⟩
theorem ca_start {s : State} {args : Array Value} (h1 : (Cond.castable "java/util/NoSuchElementException" "java/util/NoSuchElementException").before args s = true) (h2 : (Cond.castable "java/lang/IllegalStateException" "java/lang/IllegalStateException").before args s = true) (h3 : (Cond.castable "java/lang/IllegalArgumentException" "java/lang/IllegalArgumentException").before args s = true) (h4 : (Cond.not (.castable "java/lang/IllegalArgumentException" "java/lang/IllegalStateException")).before args s = true) : CA s := by
  obtain ⟨a1, a2, a3, a4, a5⟩ := Cond.castable_spec h1
  obtain ⟨b1, b2, b3, b4, b5⟩ := Cond.castable_spec h2
  obtain ⟨c1, c2, c3, c4, c5⟩ := Cond.castable_spec h3
  cases a3.symm.trans a4
  cases b3.symm.trans b4
  cases c3.symm.trans c4
  refine ⟨a1, b1, c1, a3, b3, c3, a5, b5, c5, ?_⟩
  cases hq : s.vm.assignable c1 b1 with
  | false => rfl
  | true => simp [Cond.before, Cond.holds, Cond.value, c3, b3, hq] at h4
/-- the array class of a type -/
theorem ar_start {s : State} {args : Array Value} {ty : FieldType} (h : (Cond.arrayClass ty).before args s = true) (hra : ∀ c, s.vm.findClass ("[" ++ ty.toString) = some c → va_RA s c ty) : ∃ cA : ClassId, ArrOfT s cA ty ∧ va_RA s cA ty := by
  obtain ⟨c, k, comp, h1, h2, h3⟩ := Cond.arrayClass_spec h
  exact ⟨c, fun n z => ⟨fun k h => (by cases h), k, h2, comp, h3⟩, hra c h1⟩
set_option maxRecDepth 100000 in
theorem forms_start {s : State} {b : Nat} (hgv : (Jvm.Cond.and given_1 narrow_1).before #[Value.ref b] s = true) : ∃ fa : Nat, (Term.static "BundleHouse" "FORMS" "[I").eval #[Value.ref b] s none [] s = some (.ref fa) ∧ va_T .int fa 23 (fun j => .int (FORMS j)) (fun q => s.heap.size ≤ q) s s.heap := by
  refine va_Tof (by decide) (flat_of_before _ hgv (Cond.arrayOf (Term.static "BundleHouse" "FORMS" "[I") .int) (by decide +kernel)) (va_eqt (flat_of_before _ hgv (Cond.eq (Term.length (Term.static "BundleHouse" "FORMS" "[I")) (Term.int 23)) (by decide +kernel))) (fun j hj => ?_) (fun a ha => Nat.not_le.mpr ha)
  match j, hj with
  | 0, _ => exact va_eqt (flat_of_before _ hgv (Cond.eq (Term.elem (Term.static "BundleHouse" "FORMS" "[I") (Term.int 0)) (Term.int (FORMS 0))) (by decide +kernel))
  | 1, _ => exact va_eqt (flat_of_before _ hgv (Cond.eq (Term.elem (Term.static "BundleHouse" "FORMS" "[I") (Term.int 1)) (Term.int (FORMS 1))) (by decide +kernel))
  | 2, _ => exact va_eqt (flat_of_before _ hgv (Cond.eq (Term.elem (Term.static "BundleHouse" "FORMS" "[I") (Term.int 2)) (Term.int (FORMS 2))) (by decide +kernel))
  | 3, _ => exact va_eqt (flat_of_before _ hgv (Cond.eq (Term.elem (Term.static "BundleHouse" "FORMS" "[I") (Term.int 3)) (Term.int (FORMS 3))) (by decide +kernel))
  | 4, _ => exact va_eqt (flat_of_before _ hgv (Cond.eq (Term.elem (Term.static "BundleHouse" "FORMS" "[I") (Term.int 4)) (Term.int (FORMS 4))) (by decide +kernel))
  | 5, _ => exact va_eqt (flat_of_before _ hgv (Cond.eq (Term.elem (Term.static "BundleHouse" "FORMS" "[I") (Term.int 5)) (Term.int (FORMS 5))) (by decide +kernel))
  | 6, _ => exact va_eqt (flat_of_before _ hgv (Cond.eq (Term.elem (Term.static "BundleHouse" "FORMS" "[I") (Term.int 6)) (Term.int (FORMS 6))) (by decide +kernel))
  | 7, _ => exact va_eqt (flat_of_before _ hgv (Cond.eq (Term.elem (Term.static "BundleHouse" "FORMS" "[I") (Term.int 7)) (Term.int (FORMS 7))) (by decide +kernel))
  | 8, _ => exact va_eqt (flat_of_before _ hgv (Cond.eq (Term.elem (Term.static "BundleHouse" "FORMS" "[I") (Term.int 8)) (Term.int (FORMS 8))) (by decide +kernel))
  | 9, _ => exact va_eqt (flat_of_before _ hgv (Cond.eq (Term.elem (Term.static "BundleHouse" "FORMS" "[I") (Term.int 9)) (Term.int (FORMS 9))) (by decide +kernel))
  | 10, _ => exact va_eqt (flat_of_before _ hgv (Cond.eq (Term.elem (Term.static "BundleHouse" "FORMS" "[I") (Term.int 10)) (Term.int (FORMS 10))) (by decide +kernel))
  | 11, _ => exact va_eqt (flat_of_before _ hgv (Cond.eq (Term.elem (Term.static "BundleHouse" "FORMS" "[I") (Term.int 11)) (Term.int (FORMS 11))) (by decide +kernel))
  | 12, _ => exact va_eqt (flat_of_before _ hgv (Cond.eq (Term.elem (Term.static "BundleHouse" "FORMS" "[I") (Term.int 12)) (Term.int (FORMS 12))) (by decide +kernel))
  | 13, _ => exact va_eqt (flat_of_before _ hgv (Cond.eq (Term.elem (Term.static "BundleHouse" "FORMS" "[I") (Term.int 13)) (Term.int (FORMS 13))) (by decide +kernel))
  | 14, _ => exact va_eqt (flat_of_before _ hgv (Cond.eq (Term.elem (Term.static "BundleHouse" "FORMS" "[I") (Term.int 14)) (Term.int (FORMS 14))) (by decide +kernel))
  | 15, _ => exact va_eqt (flat_of_before _ hgv (Cond.eq (Term.elem (Term.static "BundleHouse" "FORMS" "[I") (Term.int 15)) (Term.int (FORMS 15))) (by decide +kernel))
  | 16, _ => exact va_eqt (flat_of_before _ hgv (Cond.eq (Term.elem (Term.static "BundleHouse" "FORMS" "[I") (Term.int 16)) (Term.int (FORMS 16))) (by decide +kernel))
  | 17, _ => exact va_eqt (flat_of_before _ hgv (Cond.eq (Term.elem (Term.static "BundleHouse" "FORMS" "[I") (Term.int 17)) (Term.int (FORMS 17))) (by decide +kernel))
  | 18, _ => exact va_eqt (flat_of_before _ hgv (Cond.eq (Term.elem (Term.static "BundleHouse" "FORMS" "[I") (Term.int 18)) (Term.int (FORMS 18))) (by decide +kernel))
  | 19, _ => exact va_eqt (flat_of_before _ hgv (Cond.eq (Term.elem (Term.static "BundleHouse" "FORMS" "[I") (Term.int 19)) (Term.int (FORMS 19))) (by decide +kernel))
  | 20, _ => exact va_eqt (flat_of_before _ hgv (Cond.eq (Term.elem (Term.static "BundleHouse" "FORMS" "[I") (Term.int 20)) (Term.int (FORMS 20))) (by decide +kernel))
  | 21, _ => exact va_eqt (flat_of_before _ hgv (Cond.eq (Term.elem (Term.static "BundleHouse" "FORMS" "[I") (Term.int 21)) (Term.int (FORMS 21))) (by decide +kernel))
  | 22, _ => exact va_eqt (flat_of_before _ hgv (Cond.eq (Term.elem (Term.static "BundleHouse" "FORMS" "[I") (Term.int 22)) (Term.int (FORMS 22))) (by decide +kernel))
  | k + 23, h => exact absurd h (by omega)
set_option maxRecDepth 100000 in
theorem ex_start {g : Gd} {s : State} {b cH : Nat} (hgv : (Jvm.Cond.and given_1 narrow_1).before #[Value.ref b] s = true) (htL : ∀ w ∈ lw_tbl, w.before #[Value.ref b] s = true) (hown : s.vm.findClass "BundleHouse" = some cH) (hge : ∀ o, o < NC → s.heap.size ≤ g.2.2.2.2 o) : Ex g s s.heap := by
  refine ⟨fun q hq => ?_, fun x hx => va_Nw.of rfl (htL _ (dcl_in x hx)), ca_start (htL _ (ts_4 (List.mem_of_getElem? (i := 165) rfl))) (htL _ (ts_5 (List.mem_of_getElem? (i := 9) rfl))) (htL _ (ts_5 (List.mem_of_getElem? (i := 25) rfl))) (flat_of_before _ hgv (Cond.not (Cond.castable "java/lang/IllegalArgumentException" "java/lang/IllegalStateException")) (by decide +kernel)), sf_start (htL _ (ts_4 (List.mem_of_getElem? (i := 190) rfl))) (flat_of_before _ hgv (Cond.isRef (Term.static "java/lang/Throwable" "UNASSIGNED_STACK" "[Ljava/lang/StackTraceElement;")) (by decide +kernel)) hge, sf_start (htL _ (ts_4 (List.mem_of_getElem? (i := 192) rfl))) (flat_of_before _ hgv (Cond.isRef (Term.static "java/lang/Throwable" "SUPPRESSED_SENTINEL" "Ljava/util/List;")) (by decide +kernel)) hge⟩
  have h := htL _ (str_in q hq)
  obtain ⟨_, _, _, a, _, _, _, _, _, hev⟩ := Cond.stringRef_spec hown h
  exact ⟨a, vk_R.of h hev⟩
