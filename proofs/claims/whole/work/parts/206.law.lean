theorem g_1_0 : (Jvm.Cond.initialized "BundleHouseLaw") ∈ GT := gt_of (ts_1 (List.mem_of_getElem? (i := 0) rfl)) rfl
theorem g_4_156 : (Jvm.Cond.static ({ cls := "BundleHouseLaw", name := "decoded", desc := "(LBundleHouse;II[J)I" } : Jvm.MethodName)) ∈ GT := gt_of (ts_4 (List.mem_of_getElem? (i := 156) rfl)) rfl
theorem g_4_157 : (Jvm.Cond.codeWith ({ cls := "BundleHouseLaw", name := "decoded", desc := "(LBundleHouse;II[J)I" } : Jvm.MethodName) method_3_code (5 : Nat) (Option.some Jvm.ClassFile.FieldType.int) [((0 : Nat), (10 : Nat), (13 : Nat), (13 : Nat))]) ∈ GT := gt_of (ts_4 (List.mem_of_getElem? (i := 157) rfl)) rfl
theorem g_4_158 : (Jvm.Cond.classLink "BundleHouseLaw" (13 : Nat) "java/util/NoSuchElementException") ∈ GT := gt_of (ts_4 (List.mem_of_getElem? (i := 158) rfl)) rfl
theorem g_4_159 : (Jvm.Cond.methodLink "BundleHouseLaw" (7 : Nat) ({ cls := "BundleHouse", name := "decoded", desc := "(II)I" } : Jvm.MethodName)) ∈ GT := gt_of (ts_4 (List.mem_of_getElem? (i := 159) rfl)) rfl
theorem g_4_239 : (Jvm.Cond.static ({ cls := "BundleHouseLaw", name := "run", desc := "(LBundleHouse;I[J)I" } : Jvm.MethodName)) ∈ GT := gt_of (ts_4 (List.mem_of_getElem? (i := 239) rfl)) rfl
theorem g_5_0 : (Jvm.Cond.codeWith ({ cls := "BundleHouseLaw", name := "run", desc := "(LBundleHouse;I[J)I" } : Jvm.MethodName) method_4_code (4 : Nat) (Option.some Jvm.ClassFile.FieldType.int) [((0 : Nat), (9 : Nat), (12 : Nat), (19 : Nat)), ((0 : Nat), (9 : Nat), (15 : Nat), (21 : Nat))]) ∈ GT := gt_of (ts_5 (List.mem_of_getElem? (i := 0) rfl)) rfl
theorem g_5_1 : (Jvm.Cond.classLink "BundleHouseLaw" (19 : Nat) "java/lang/IllegalStateException") ∈ GT := gt_of (ts_5 (List.mem_of_getElem? (i := 1) rfl)) rfl
theorem g_5_175 : (Jvm.Cond.static ({ cls := "BundleHouseLaw", name := "walk", desc := "(LBundleHouse;I[J)I" } : Jvm.MethodName)) ∈ GT := gt_of (ts_5 (List.mem_of_getElem? (i := 175) rfl)) rfl
theorem g_5_176 : (Jvm.Cond.codeWith ({ cls := "BundleHouseLaw", name := "walk", desc := "(LBundleHouse;I[J)I" } : Jvm.MethodName) method_5_code (4 : Nat) (Option.some Jvm.ClassFile.FieldType.int) [((0 : Nat), (9 : Nat), (12 : Nat), (19 : Nat)), ((0 : Nat), (9 : Nat), (15 : Nat), (21 : Nat))]) ∈ GT := gt_of (ts_5 (List.mem_of_getElem? (i := 176) rfl)) rfl
theorem g_5_177 : (Jvm.Cond.methodLink "BundleHouseLaw" (23 : Nat) ({ cls := "BundleHouse", name := "walk", desc := "(I)I" } : Jvm.MethodName)) ∈ GT := gt_of (ts_5 (List.mem_of_getElem? (i := 177) rfl)) rfl
theorem g_5_2 : (Jvm.Cond.classLink "BundleHouseLaw" (21 : Nat) "java/lang/IllegalArgumentException") ∈ GT := gt_of (ts_5 (List.mem_of_getElem? (i := 2) rfl)) rfl
theorem g_5_3 : (Jvm.Cond.methodLink "BundleHouseLaw" (15 : Nat) ({ cls := "BundleHouse", name := "run", desc := "(I)I" } : Jvm.MethodName)) ∈ GT := gt_of (ts_5 (List.mem_of_getElem? (i := 3) rfl)) rfl
theorem g_6_16 : (Jvm.Cond.static ({ cls := "BundleHouseLaw", name := "state", desc := "(LBundleHouse;ZI[J)I" } : Jvm.MethodName)) ∈ GT := gt_of (ts_6 (List.mem_of_getElem? (i := 16) rfl)) rfl
theorem g_6_17 : (Jvm.Cond.codeWith ({ cls := "BundleHouseLaw", name := "state", desc := "(LBundleHouse;ZI[J)I" } : Jvm.MethodName) method_6_code (5 : Nat) (Option.some Jvm.ClassFile.FieldType.int) [((0 : Nat), (10 : Nat), (13 : Nat), (13 : Nat))]) ∈ GT := gt_of (ts_6 (List.mem_of_getElem? (i := 17) rfl)) rfl
theorem g_6_18 : (Jvm.Cond.methodLink "BundleHouseLaw" (26 : Nat) ({ cls := "BundleHouse", name := "state", desc := "(ZI)I" } : Jvm.MethodName)) ∈ GT := gt_of (ts_6 (List.mem_of_getElem? (i := 18) rfl)) rfl
theorem g_6_28 : (Jvm.Cond.static ({ cls := "BundleHouseLaw", name := "output", desc := "(LBundleHouse;ZI[J)I" } : Jvm.MethodName)) ∈ GT := gt_of (ts_6 (List.mem_of_getElem? (i := 28) rfl)) rfl
theorem g_6_29 : (Jvm.Cond.codeWith ({ cls := "BundleHouseLaw", name := "output", desc := "(LBundleHouse;ZI[J)I" } : Jvm.MethodName) method_7_code (5 : Nat) (Option.some Jvm.ClassFile.FieldType.int) [((0 : Nat), (10 : Nat), (13 : Nat), (13 : Nat))]) ∈ GT := gt_of (ts_6 (List.mem_of_getElem? (i := 29) rfl)) rfl
theorem g_6_30 : (Jvm.Cond.methodLink "BundleHouseLaw" (30 : Nat) ({ cls := "BundleHouse", name := "output", desc := "(ZI)I" } : Jvm.MethodName)) ∈ GT := gt_of (ts_6 (List.mem_of_getElem? (i := 30) rfl)) rfl

def Law_decoded (v0 : Nat) (v1 : Int32) (v2 : Int32) (v3 : Nat) (σ : St) : Option (Int32 × St) := lh 1 0 (House_decoded v0 v1 v2 σ) v3
def Law_run (v0 : Nat) (v1 : Int32) (v2 : Nat) (σ : St) : Option (Int32 × St) := lh 2 3 (House_run v0 v1 σ) v2
def Law_walk (v0 : Nat) (v1 : Int32) (v2 : Nat) (σ : St) : Option (Int32 × St) := lh 2 3 (House_walk v0 v1 σ) v2
def Law_state (v0 : Nat) (v1 : Int32) (v2 : Int32) (v3 : Nat) (σ : St) : Option (Int32 × St) := lh 1 0 (House_state v0 v1 v2 σ) v3
def Law_output (v0 : Nat) (v1 : Int32) (v2 : Int32) (v3 : Nat) (σ : St) : Option (Int32 × St) := lh 1 0 (House_output v0 v1 v2 σ) v3
abbrev y_Law_decoded : MethodName := ⟨"BundleHouseLaw", "decoded", "(LBundleHouse;II[J)I"⟩
def dl_Law_decoded : List (Nat × Instr × Nat) := [(0, .aload_n 3, 1), (1, .iconst 0, 1), (2, .aload_n 0, 1), (3, .iload_n 1, 1), (4, .iload_n 2, 1), (5, .invokevirtual 7, 3), (8, .i2l, 1), (9, .lastore, 1), (10, .goto 7, 3), (13, .astore 4, 2), (15, .iconst 1, 1), (16, .ireturn, 1), (17, .iconst 0, 1), (18, .ireturn, 1)]
set_option maxRecDepth 100000 in
theorem dk_Law_decoded : ∀ q ∈ dl_Law_decoded, decode method_3_code q.1 = .ok q.2 := by decide +kernel
abbrev rm_Law_decoded : Room := { frames := 8, cells := 1, slots := 6, locals := 122 }
theorem cw_Law_decoded : CWH y_Law_decoded method_3_code 5 [((0 : Nat), (10 : Nat), (13 : Nat), (13 : Nat))] 4 := ⟨⟨g_4_157, g_1_0, by decide, by decide, by decide +kernel⟩, g_4_156⟩
set_option maxHeartbeats 4000000 in
set_option maxRecDepth 100000 in
theorem c_Law_decoded (v0 : Nat) (v1 : Int32) (v2 : Int32) (v3 : Nat) (ho_v0 : kd v0 = 0) (ho_o : kd v3 = 901 ∧ al v3 = 1) : MH y_Law_decoded rm_Law_decoded method_3_code 5 [((0 : Nat), (10 : Nat), (13 : Nat), (13 : Nat))] (fun a => [.ref (a v0), .int v1, .int v2, .ref (a v3)]) (Law_decoded v0 v1 v2 v3) := by
  refine mh_of (by decide) (fun _ => le_ rfl) ?_
  intro k res σ C hR hH hRm hnL h
  show WW k 0 [(0, .ref (ad k v0)), (1, .int v1), (2, .int v2), (3, .ref (ad k v3))] [] σ
  unfold Law_decoded at h
  obtain ⟨hl0, hc0, hs0⟩ := hh_k hH
  refine ww_aload_n C 3 rfl rfl (dq dk_Law_decoded 0 rfl) ?_
  refine ww_iconst C (dq dk_Law_decoded 1 rfl) ic_0 ?_
  refine ww_aload_n C 0 rfl rfl (dq dk_Law_decoded 2 rfl) ?_
  refine ww_iload_n C 1 rfl rfl (dq dk_Law_decoded 3 rfl) ?_
  refine ww_iload_n C 2 rfl rfl (dq dk_Law_decoded 4 rfl) ?_
  cases hf : House_decoded v0 v1 v2 σ with
  | none => rw [hf] at h; cases h
  | some q =>
    rw [hf] at h
    unfold lh at h
    dsimp only at h
    have CU : Cx (kup k 1 6) method_3_code "BundleHouseLaw" := cx_up C (by rw [hRm, hc0, hs0]; exact ⟨le_ rfl, le_ rfl⟩)
    refine ww_tcall (st := [.int 0, .ref (ad k v3)]) C (c_House_decoded v0 ho_v0 v1 v2) hl0 cw_House_decoded ho_v0 (lt_ rfl) rfl g_4_159 hRm ⟨⟨rfl, rfl⟩, le_ rfl, le_ rfl⟩ (by rw [hc0, hs0]; exact ⟨le_ rfl, le_ rfl⟩) rfl rfl rfl (le_ rfl) (dq dk_Law_decoded 5 rfl) hf (fun v σ1 e => ?_) (fun j v σ1 x e hj => ?_)
    · subst e
      rw [if_pos rfl] at h
      refine ww_i2l CU (dq dk_Law_decoded 6 rfl) ?_
      refine ww_last CU ho_o.1 ho_o.2 (dq dk_Law_decoded 7 rfl) h (fun σ2 h => ?_)
      refine ww_goto CU 17 (dq dk_Law_decoded 8 rfl) (by decide) ?_
      refine ww_iconst CU (dq dk_Law_decoded 12 rfl) ic_0 ?_
      exact ww_iret CU hR (dq dk_Law_decoded 13 rfl) h
    · subst e
      dsimp only at h
      rw [if_neg hj] at h
      by_cases h1 : j = 1
      · rw [if_pos h1] at h
        subst h1
        refine ⟨13, hd_1 C hH ⟨le_ rfl, lt_ rfl⟩ (by decide) 1 g_4_158, Or.inl rfl, ?_⟩
        refine ww_astore CU [(4, .ref x), (0, .ref (ad k v0)), (1, .int v1), (2, .int v2), (3, .ref (ad k v3))] hnL (lt_ rfl) rfl (dq dk_Law_decoded 9 rfl) ?_
        refine ww_iconst CU (dq dk_Law_decoded 10 rfl) ic_1 ?_
        exact ww_iret CU hR (dq dk_Law_decoded 11 rfl) h
      rw [if_neg h1] at h
      rw [if_neg hj] at h
      cases h
abbrev y_Law_run : MethodName := ⟨"BundleHouseLaw", "run", "(LBundleHouse;I[J)I"⟩
def dl_Law_run : List (Nat × Instr × Nat) := [(0, .aload_n 2, 1), (1, .iconst 0, 1), (2, .aload_n 0, 1), (3, .iload_n 1, 1), (4, .invokevirtual 15, 3), (7, .i2l, 1), (8, .lastore, 1), (9, .goto 9, 3), (12, .astore_n 3, 1), (13, .iconst 1, 1), (14, .ireturn, 1), (15, .astore_n 3, 1), (16, .iconst 2, 1), (17, .ireturn, 1), (18, .iconst 0, 1), (19, .ireturn, 1)]
set_option maxRecDepth 100000 in
theorem dk_Law_run : ∀ q ∈ dl_Law_run, decode method_4_code q.1 = .ok q.2 := by decide +kernel
abbrev rm_Law_run : Room := { frames := 8, cells := 1, slots := 6, locals := 161 }
theorem cw_Law_run : CWH y_Law_run method_4_code 4 [((0 : Nat), (9 : Nat), (12 : Nat), (19 : Nat)), ((0 : Nat), (9 : Nat), (15 : Nat), (21 : Nat))] 3 := ⟨⟨g_5_0, g_1_0, by decide, by decide, by decide +kernel⟩, g_4_239⟩
set_option maxHeartbeats 4000000 in
set_option maxRecDepth 100000 in
theorem c_Law_run (v0 : Nat) (v1 : Int32) (v2 : Nat) (ho_v0 : kd v0 = 0) (ho_o : kd v2 = 901 ∧ al v2 = 1) : MH y_Law_run rm_Law_run method_4_code 4 [((0 : Nat), (9 : Nat), (12 : Nat), (19 : Nat)), ((0 : Nat), (9 : Nat), (15 : Nat), (21 : Nat))] (fun a => [.ref (a v0), .int v1, .ref (a v2)]) (Law_run v0 v1 v2) := by
  refine mh_of (by decide) (fun _ => le_ rfl) ?_
  intro k res σ C hR hH hRm hnL h
  show WW k 0 [(0, .ref (ad k v0)), (1, .int v1), (2, .ref (ad k v2))] [] σ
  unfold Law_run at h
  obtain ⟨hl0, hc0, hs0⟩ := hh_k hH
  refine ww_aload_n C 2 rfl rfl (dq dk_Law_run 0 rfl) ?_
  refine ww_iconst C (dq dk_Law_run 1 rfl) ic_0 ?_
  refine ww_aload_n C 0 rfl rfl (dq dk_Law_run 2 rfl) ?_
  refine ww_iload_n C 1 rfl rfl (dq dk_Law_run 3 rfl) ?_
  cases hf : House_run v0 v1 σ with
  | none => rw [hf] at h; cases h
  | some q =>
    rw [hf] at h
    unfold lh at h
    dsimp only at h
    have CU : Cx (kup k 1 6) method_4_code "BundleHouseLaw" := cx_up C (by rw [hRm, hc0, hs0]; exact ⟨le_ rfl, le_ rfl⟩)
    refine ww_tcall (st := [.int 0, .ref (ad k v2)]) C (c_House_run v0 ho_v0 v1) hl0 cw_House_run ho_v0 (lt_ rfl) rfl g_5_3 hRm ⟨⟨rfl, rfl⟩, le_ rfl, le_ rfl⟩ (by rw [hc0, hs0]; exact ⟨le_ rfl, le_ rfl⟩) rfl rfl rfl (le_ rfl) (dq dk_Law_run 4 rfl) hf (fun v σ1 e => ?_) (fun j v σ1 x e hj => ?_)
    · subst e
      rw [if_pos rfl] at h
      refine ww_i2l CU (dq dk_Law_run 5 rfl) ?_
      refine ww_last CU ho_o.1 ho_o.2 (dq dk_Law_run 6 rfl) h (fun σ2 h => ?_)
      refine ww_goto CU 18 (dq dk_Law_run 7 rfl) (by decide) ?_
      refine ww_iconst CU (dq dk_Law_run 14 rfl) ic_0 ?_
      exact ww_iret CU hR (dq dk_Law_run 15 rfl) h
    · subst e
      dsimp only at h
      rw [if_neg hj] at h
      by_cases h2 : j = 2
      · rw [if_pos h2] at h
        subst h2
        refine ⟨12, hd_1 C hH ⟨le_ rfl, lt_ rfl⟩ (by decide) 2 g_5_1, Or.inr (Or.inl rfl), ?_⟩
        refine ww_astore_n CU [(3, .ref x), (0, .ref (ad k v0)), (1, .int v1), (2, .ref (ad k v2))] rfl hnL (lt_ rfl) rfl (dq dk_Law_run 8 rfl) ?_
        refine ww_iconst CU (dq dk_Law_run 9 rfl) ic_1 ?_
        exact ww_iret CU hR (dq dk_Law_run 10 rfl) h
      rw [if_neg h2] at h
      by_cases h3 : j = 3
      · rw [if_pos h3] at h
        subst h3
        refine ⟨15, hd_2 C hH ⟨le_ rfl, lt_ rfl⟩ (by decide) ⟨le_ rfl, lt_ rfl⟩ (by decide) g_5_1 g_5_2, Or.inr (Or.inr rfl), ?_⟩
        refine ww_astore_n CU [(3, .ref x), (0, .ref (ad k v0)), (1, .int v1), (2, .ref (ad k v2))] rfl hnL (lt_ rfl) rfl (dq dk_Law_run 11 rfl) ?_
        refine ww_iconst CU (dq dk_Law_run 12 rfl) ic_2 ?_
        exact ww_iret CU hR (dq dk_Law_run 13 rfl) h
      rw [if_neg h3] at h
      cases h
abbrev y_Law_walk : MethodName := ⟨"BundleHouseLaw", "walk", "(LBundleHouse;I[J)I"⟩
def dl_Law_walk : List (Nat × Instr × Nat) := [(0, .aload_n 2, 1), (1, .iconst 0, 1), (2, .aload_n 0, 1), (3, .iload_n 1, 1), (4, .invokevirtual 23, 3), (7, .i2l, 1), (8, .lastore, 1), (9, .goto 9, 3), (12, .astore_n 3, 1), (13, .iconst 1, 1), (14, .ireturn, 1), (15, .astore_n 3, 1), (16, .iconst 2, 1), (17, .ireturn, 1), (18, .iconst 0, 1), (19, .ireturn, 1)]
set_option maxRecDepth 100000 in
theorem dk_Law_walk : ∀ q ∈ dl_Law_walk, decode method_5_code q.1 = .ok q.2 := by decide +kernel
abbrev rm_Law_walk : Room := { frames := 8, cells := 1, slots := 6, locals := 157 }
theorem cw_Law_walk : CWH y_Law_walk method_5_code 4 [((0 : Nat), (9 : Nat), (12 : Nat), (19 : Nat)), ((0 : Nat), (9 : Nat), (15 : Nat), (21 : Nat))] 3 := ⟨⟨g_5_176, g_1_0, by decide, by decide, by decide +kernel⟩, g_5_175⟩
set_option maxHeartbeats 4000000 in
set_option maxRecDepth 100000 in
theorem c_Law_walk (v0 : Nat) (v1 : Int32) (v2 : Nat) (ho_v0 : kd v0 = 0) (ho_o : kd v2 = 901 ∧ al v2 = 1) : MH y_Law_walk rm_Law_walk method_5_code 4 [((0 : Nat), (9 : Nat), (12 : Nat), (19 : Nat)), ((0 : Nat), (9 : Nat), (15 : Nat), (21 : Nat))] (fun a => [.ref (a v0), .int v1, .ref (a v2)]) (Law_walk v0 v1 v2) := by
  refine mh_of (by decide) (fun _ => le_ rfl) ?_
  intro k res σ C hR hH hRm hnL h
  show WW k 0 [(0, .ref (ad k v0)), (1, .int v1), (2, .ref (ad k v2))] [] σ
  unfold Law_walk at h
  obtain ⟨hl0, hc0, hs0⟩ := hh_k hH
  refine ww_aload_n C 2 rfl rfl (dq dk_Law_walk 0 rfl) ?_
  refine ww_iconst C (dq dk_Law_walk 1 rfl) ic_0 ?_
  refine ww_aload_n C 0 rfl rfl (dq dk_Law_walk 2 rfl) ?_
  refine ww_iload_n C 1 rfl rfl (dq dk_Law_walk 3 rfl) ?_
  cases hf : House_walk v0 v1 σ with
  | none => rw [hf] at h; cases h
  | some q =>
    rw [hf] at h
    unfold lh at h
    dsimp only at h
    have CU : Cx (kup k 1 6) method_5_code "BundleHouseLaw" := cx_up C (by rw [hRm, hc0, hs0]; exact ⟨le_ rfl, le_ rfl⟩)
    refine ww_tcall (st := [.int 0, .ref (ad k v2)]) C (c_House_walk v0 ho_v0 v1) hl0 cw_House_walk ho_v0 (lt_ rfl) rfl g_5_177 hRm ⟨⟨rfl, rfl⟩, le_ rfl, le_ rfl⟩ (by rw [hc0, hs0]; exact ⟨le_ rfl, le_ rfl⟩) rfl rfl rfl (le_ rfl) (dq dk_Law_walk 4 rfl) hf (fun v σ1 e => ?_) (fun j v σ1 x e hj => ?_)
    · subst e
      rw [if_pos rfl] at h
      refine ww_i2l CU (dq dk_Law_walk 5 rfl) ?_
      refine ww_last CU ho_o.1 ho_o.2 (dq dk_Law_walk 6 rfl) h (fun σ2 h => ?_)
      refine ww_goto CU 18 (dq dk_Law_walk 7 rfl) (by decide) ?_
      refine ww_iconst CU (dq dk_Law_walk 14 rfl) ic_0 ?_
      exact ww_iret CU hR (dq dk_Law_walk 15 rfl) h
    · subst e
      dsimp only at h
      rw [if_neg hj] at h
      by_cases h2 : j = 2
      · rw [if_pos h2] at h
        subst h2
        refine ⟨12, hd_1 C hH ⟨le_ rfl, lt_ rfl⟩ (by decide) 2 g_5_1, Or.inr (Or.inl rfl), ?_⟩
        refine ww_astore_n CU [(3, .ref x), (0, .ref (ad k v0)), (1, .int v1), (2, .ref (ad k v2))] rfl hnL (lt_ rfl) rfl (dq dk_Law_walk 8 rfl) ?_
        refine ww_iconst CU (dq dk_Law_walk 9 rfl) ic_1 ?_
        exact ww_iret CU hR (dq dk_Law_walk 10 rfl) h
      rw [if_neg h2] at h
      by_cases h3 : j = 3
      · rw [if_pos h3] at h
        subst h3
        refine ⟨15, hd_2 C hH ⟨le_ rfl, lt_ rfl⟩ (by decide) ⟨le_ rfl, lt_ rfl⟩ (by decide) g_5_1 g_5_2, Or.inr (Or.inr rfl), ?_⟩
        refine ww_astore_n CU [(3, .ref x), (0, .ref (ad k v0)), (1, .int v1), (2, .ref (ad k v2))] rfl hnL (lt_ rfl) rfl (dq dk_Law_walk 11 rfl) ?_
        refine ww_iconst CU (dq dk_Law_walk 12 rfl) ic_2 ?_
        exact ww_iret CU hR (dq dk_Law_walk 13 rfl) h
      rw [if_neg h3] at h
      cases h
abbrev y_Law_state : MethodName := ⟨"BundleHouseLaw", "state", "(LBundleHouse;ZI[J)I"⟩
def dl_Law_state : List (Nat × Instr × Nat) := [(0, .aload_n 3, 1), (1, .iconst 0, 1), (2, .aload_n 0, 1), (3, .iload_n 1, 1), (4, .iload_n 2, 1), (5, .invokevirtual 26, 3), (8, .i2l, 1), (9, .lastore, 1), (10, .goto 7, 3), (13, .astore 4, 2), (15, .iconst 1, 1), (16, .ireturn, 1), (17, .iconst 0, 1), (18, .ireturn, 1)]
set_option maxRecDepth 100000 in
theorem dk_Law_state : ∀ q ∈ dl_Law_state, decode method_6_code q.1 = .ok q.2 := by decide +kernel
abbrev rm_Law_state : Room := { frames := 8, cells := 1, slots := 6, locals := 123 }
theorem cw_Law_state : CWH y_Law_state method_6_code 5 [((0 : Nat), (10 : Nat), (13 : Nat), (13 : Nat))] 4 := ⟨⟨g_6_17, g_1_0, by decide, by decide, by decide +kernel⟩, g_6_16⟩
set_option maxHeartbeats 4000000 in
set_option maxRecDepth 100000 in
theorem c_Law_state (v0 : Nat) (v1 : Int32) (v2 : Int32) (v3 : Nat) (ho_v0 : kd v0 = 0) (ho_o : kd v3 = 901 ∧ al v3 = 1) : MH y_Law_state rm_Law_state method_6_code 5 [((0 : Nat), (10 : Nat), (13 : Nat), (13 : Nat))] (fun a => [.ref (a v0), .int v1, .int v2, .ref (a v3)]) (Law_state v0 v1 v2 v3) := by
  refine mh_of (by decide) (fun _ => le_ rfl) ?_
  intro k res σ C hR hH hRm hnL h
  show WW k 0 [(0, .ref (ad k v0)), (1, .int v1), (2, .int v2), (3, .ref (ad k v3))] [] σ
  unfold Law_state at h
  obtain ⟨hl0, hc0, hs0⟩ := hh_k hH
  refine ww_aload_n C 3 rfl rfl (dq dk_Law_state 0 rfl) ?_
  refine ww_iconst C (dq dk_Law_state 1 rfl) ic_0 ?_
  refine ww_aload_n C 0 rfl rfl (dq dk_Law_state 2 rfl) ?_
  refine ww_iload_n C 1 rfl rfl (dq dk_Law_state 3 rfl) ?_
  refine ww_iload_n C 2 rfl rfl (dq dk_Law_state 4 rfl) ?_
  cases hf : House_state v0 v1 v2 σ with
  | none => rw [hf] at h; cases h
  | some q =>
    rw [hf] at h
    unfold lh at h
    dsimp only at h
    have CU : Cx (kup k 1 6) method_6_code "BundleHouseLaw" := cx_up C (by rw [hRm, hc0, hs0]; exact ⟨le_ rfl, le_ rfl⟩)
    refine ww_tcall (st := [.int 0, .ref (ad k v3)]) C (c_House_state v0 ho_v0 v1 v2) hl0 cw_House_state ho_v0 (lt_ rfl) rfl g_6_18 hRm ⟨⟨rfl, rfl⟩, le_ rfl, le_ rfl⟩ (by rw [hc0, hs0]; exact ⟨le_ rfl, le_ rfl⟩) rfl rfl rfl (le_ rfl) (dq dk_Law_state 5 rfl) hf (fun v σ1 e => ?_) (fun j v σ1 x e hj => ?_)
    · subst e
      rw [if_pos rfl] at h
      refine ww_i2l CU (dq dk_Law_state 6 rfl) ?_
      refine ww_last CU ho_o.1 ho_o.2 (dq dk_Law_state 7 rfl) h (fun σ2 h => ?_)
      refine ww_goto CU 17 (dq dk_Law_state 8 rfl) (by decide) ?_
      refine ww_iconst CU (dq dk_Law_state 12 rfl) ic_0 ?_
      exact ww_iret CU hR (dq dk_Law_state 13 rfl) h
    · subst e
      dsimp only at h
      rw [if_neg hj] at h
      by_cases h1 : j = 1
      · rw [if_pos h1] at h
        subst h1
        refine ⟨13, hd_1 C hH ⟨le_ rfl, lt_ rfl⟩ (by decide) 1 g_4_158, Or.inl rfl, ?_⟩
        refine ww_astore CU [(4, .ref x), (0, .ref (ad k v0)), (1, .int v1), (2, .int v2), (3, .ref (ad k v3))] hnL (lt_ rfl) rfl (dq dk_Law_state 9 rfl) ?_
        refine ww_iconst CU (dq dk_Law_state 10 rfl) ic_1 ?_
        exact ww_iret CU hR (dq dk_Law_state 11 rfl) h
      rw [if_neg h1] at h
      rw [if_neg hj] at h
      cases h
abbrev y_Law_output : MethodName := ⟨"BundleHouseLaw", "output", "(LBundleHouse;ZI[J)I"⟩
def dl_Law_output : List (Nat × Instr × Nat) := [(0, .aload_n 3, 1), (1, .iconst 0, 1), (2, .aload_n 0, 1), (3, .iload_n 1, 1), (4, .iload_n 2, 1), (5, .invokevirtual 30, 3), (8, .i2l, 1), (9, .lastore, 1), (10, .goto 7, 3), (13, .astore 4, 2), (15, .iconst 1, 1), (16, .ireturn, 1), (17, .iconst 0, 1), (18, .ireturn, 1)]
set_option maxRecDepth 100000 in
theorem dk_Law_output : ∀ q ∈ dl_Law_output, decode method_7_code q.1 = .ok q.2 := by decide +kernel
abbrev rm_Law_output : Room := { frames := 8, cells := 1, slots := 6, locals := 123 }
theorem cw_Law_output : CWH y_Law_output method_7_code 5 [((0 : Nat), (10 : Nat), (13 : Nat), (13 : Nat))] 4 := ⟨⟨g_6_29, g_1_0, by decide, by decide, by decide +kernel⟩, g_6_28⟩
set_option maxHeartbeats 4000000 in
set_option maxRecDepth 100000 in
theorem c_Law_output (v0 : Nat) (v1 : Int32) (v2 : Int32) (v3 : Nat) (ho_v0 : kd v0 = 0) (ho_o : kd v3 = 901 ∧ al v3 = 1) : MH y_Law_output rm_Law_output method_7_code 5 [((0 : Nat), (10 : Nat), (13 : Nat), (13 : Nat))] (fun a => [.ref (a v0), .int v1, .int v2, .ref (a v3)]) (Law_output v0 v1 v2 v3) := by
  refine mh_of (by decide) (fun _ => le_ rfl) ?_
  intro k res σ C hR hH hRm hnL h
  show WW k 0 [(0, .ref (ad k v0)), (1, .int v1), (2, .int v2), (3, .ref (ad k v3))] [] σ
  unfold Law_output at h
  obtain ⟨hl0, hc0, hs0⟩ := hh_k hH
  refine ww_aload_n C 3 rfl rfl (dq dk_Law_output 0 rfl) ?_
  refine ww_iconst C (dq dk_Law_output 1 rfl) ic_0 ?_
  refine ww_aload_n C 0 rfl rfl (dq dk_Law_output 2 rfl) ?_
  refine ww_iload_n C 1 rfl rfl (dq dk_Law_output 3 rfl) ?_
  refine ww_iload_n C 2 rfl rfl (dq dk_Law_output 4 rfl) ?_
  cases hf : House_output v0 v1 v2 σ with
  | none => rw [hf] at h; cases h
  | some q =>
    rw [hf] at h
    unfold lh at h
    dsimp only at h
    have CU : Cx (kup k 1 6) method_7_code "BundleHouseLaw" := cx_up C (by rw [hRm, hc0, hs0]; exact ⟨le_ rfl, le_ rfl⟩)
    refine ww_tcall (st := [.int 0, .ref (ad k v3)]) C (c_House_output v0 ho_v0 v1 v2) hl0 cw_House_output ho_v0 (lt_ rfl) rfl g_6_30 hRm ⟨⟨rfl, rfl⟩, le_ rfl, le_ rfl⟩ (by rw [hc0, hs0]; exact ⟨le_ rfl, le_ rfl⟩) rfl rfl rfl (le_ rfl) (dq dk_Law_output 5 rfl) hf (fun v σ1 e => ?_) (fun j v σ1 x e hj => ?_)
    · subst e
      rw [if_pos rfl] at h
      refine ww_i2l CU (dq dk_Law_output 6 rfl) ?_
      refine ww_last CU ho_o.1 ho_o.2 (dq dk_Law_output 7 rfl) h (fun σ2 h => ?_)
      refine ww_goto CU 17 (dq dk_Law_output 8 rfl) (by decide) ?_
      refine ww_iconst CU (dq dk_Law_output 12 rfl) ic_0 ?_
      exact ww_iret CU hR (dq dk_Law_output 13 rfl) h
    · subst e
      dsimp only at h
      rw [if_neg hj] at h
      by_cases h1 : j = 1
      · rw [if_pos h1] at h
        subst h1
        refine ⟨13, hd_1 C hH ⟨le_ rfl, lt_ rfl⟩ (by decide) 1 g_4_158, Or.inl rfl, ?_⟩
        refine ww_astore CU [(4, .ref x), (0, .ref (ad k v0)), (1, .int v1), (2, .int v2), (3, .ref (ad k v3))] hnL (lt_ rfl) rfl (dq dk_Law_output 9 rfl) ?_
        refine ww_iconst CU (dq dk_Law_output 10 rfl) ic_1 ?_
        exact ww_iret CU hR (dq dk_Law_output 11 rfl) h
      rw [if_neg h1] at h
      rw [if_neg hj] at h
      cases h
