abbrev y_Builder_findFault : MethodName := ⟨"BundleHouse$Builder", "findFault", "()I"⟩
def dl_Builder_findFault : List (Nat × Instr × Nat) := [(0, .aload_n 0, 1), (1, .getfield 33, 3), (4, .invokevirtual 41, 3), (7, .iconst 0, 1), (8, .istore_n 1, 1), (9, .iload_n 1, 1), (10, .aload_n 0, 1), (11, .getfield 33, 3), (14, .getfield 46, 3), (17, .if_icmp .ge 26, 3), (20, .aload_n 0, 1), (21, .iload_n 1, 1), (22, .invokevirtual 49, 3), (25, .istore_n 2, 1), (26, .iload_n 2, 1), (27, .ifCond .eq 10, 3), (30, .aload_n 0, 1), (31, .iload_n 1, 1), (32, .putfield 9, 3), (35, .iload_n 2, 1), (36, .ireturn, 1), (37, .iinc 1 1, 3), (40, .goto (-31), 3), (43, .aload_n 0, 1), (44, .iconst (-1), 1), (45, .putfield 9, 3), (48, .aload_n 0, 1), (49, .invokevirtual 53, 3), (52, .iconst 0, 1), (53, .istore_n 1, 1), (54, .iconst 0, 1), (55, .istore_n 2, 1), (56, .iload_n 2, 1), (57, .bipush 120, 2), (59, .if_icmp .gt 30, 3), (62, .iload_n 1, 1), (63, .ifCond .ne 26, 3), (66, .aload_n 0, 1), (67, .invokevirtual 56, 3), (70, .aload_n 0, 1), (71, .invokevirtual 59, 3), (74, .ifCond .ne 7, 3), (77, .iconst 1, 1), (78, .goto 4, 3), (81, .iconst 0, 1), (82, .istore_n 1, 1), (83, .iinc 2 1, 3), (86, .goto (-30), 3), (89, .aload_n 0, 1), (90, .invokevirtual 63, 3), (93, .sipush 1024, 3), (96, .if_icmp .le 7, 3), (99, .iconst 4, 1), (100, .goto 4, 3), (103, .iconst 0, 1), (104, .ireturn, 1)]
set_option maxRecDepth 100000 in
theorem dk_Builder_findFault : ∀ q ∈ dl_Builder_findFault, decode prog_2_method_2_code q.1 = .ok q.2 := by decide +kernel
abbrev rm_Builder_findFault : Room := { frames := 5, cells := 0, slots := 0, locals := 110 }
theorem cw_Builder_findFault : CWV y_Builder_findFault prog_2_method_2_code 3 (some .int) 0 := ⟨⟨g_3_153, g_1_7, by decide, by decide, by decide +kernel⟩, g_3_151, g_3_152⟩
set_option maxHeartbeats 4000000 in
set_option maxRecDepth 100000 in
theorem t_Builder_findFault_B89 {k : Cfg} {res : Int32 × St} (C : Cx k prog_2_method_2_code "BundleHouse$Builder") (hR : RI k .int res) (hRm : k.2.2.2.1 = rm_Builder_findFault) (hnL : k.2.2.2.2.2.2.2.2.2.2.2.1 = 3) (v0 : Nat) (ho_v0 : kd v0 = 6) (σ : St) (h : Builder_findFault_B89 v0 σ = some res) : WW k 89 [(0, .ref (ad k v0))] [] σ := by
  unfold Builder_findFault_B89 at h
  refine ww_aload_n C 0 rfl rfl (dq dk_Builder_findFault 48 rfl) ?_
  refine ww_cVi (st := []) C (c_Builder_wholeSize v0 ho_v0) cw_Builder_wholeSize ho_v0 (lt_ rfl) rfl g_4_41 hRm ⟨⟨rfl, rfl⟩, le_ rfl, le_ rfl⟩ rfl rfl rfl (le_ rfl) (dq dk_Builder_findFault 49 rfl) h (fun x2 σ1 h => ?_)
  refine ww_sipush C (dq dk_Builder_findFault 50 rfl) sp_1024 ?_
  refine ww_icmp_le C 103 (dq dk_Builder_findFault 51 rfl) (by decide) h (fun h => ?_) (fun h => ?_)
  · refine ww_iconst C (dq dk_Builder_findFault 54 rfl) ic_0 ?_
    exact ww_iret C hR (dq dk_Builder_findFault 55 rfl) h
  · refine ww_iconst C (dq dk_Builder_findFault 52 rfl) ic_4 ?_
    refine ww_goto C 104 (dq dk_Builder_findFault 53 rfl) (by decide) ?_
    exact ww_iret C hR (dq dk_Builder_findFault 55 rfl) h
set_option maxHeartbeats 4000000 in
set_option maxRecDepth 100000 in
theorem t_Builder_findFault_B56 {k : Cfg} {res : Int32 × St} (C : Cx k prog_2_method_2_code "BundleHouse$Builder") (hR : RI k .int res) (hRm : k.2.2.2.1 = rm_Builder_findFault) (hnL : k.2.2.2.2.2.2.2.2.2.2.2.1 = 3) : ∀ (n : Nat) (v0 : Nat) (v1 : Int32) (v2 : Int32) (ho_v0 : kd v0 = 6) (σ : St), Builder_findFault_B56 n v0 v1 v2 σ = some res → WW k 56 [(0, .ref (ad k v0)), (1, .int v1), (2, .int v2)] [] σ := by
  intro n
  induction n with
  | zero =>
    intro v0 v1 v2 ho_v0 σ h
    have h : (none : Option (Int32 × St)) = some res := h
    cases h
  | succ n ih =>
    intro v0 v1 v2 ho_v0 σ h
    unfold Builder_findFault_B56 at h
    refine ww_iload_n C 2 rfl rfl (dq dk_Builder_findFault 32 rfl) ?_
    refine ww_bipush C (dq dk_Builder_findFault 33 rfl) bp_120 ?_
    refine ww_icmp_gt C 89 (dq dk_Builder_findFault 34 rfl) (by decide) h (fun h => ?_) (fun h => ?_)
    · exact ww_lv [0] rfl (t_Builder_findFault_B89 C hR hRm hnL v0 ho_v0 σ h)
    · refine ww_iload_n C 1 rfl rfl (dq dk_Builder_findFault 35 rfl) ?_
      refine ww_if_ne C 89 (dq dk_Builder_findFault 36 rfl) (by decide) h (fun h => ?_) (fun h => ?_)
      · exact ww_lv [0] rfl (t_Builder_findFault_B89 C hR hRm hnL v0 ho_v0 σ h)
      · refine ww_aload_n C 0 rfl rfl (dq dk_Builder_findFault 37 rfl) ?_
        refine ww_cVv (st := []) C (c_Builder_layAll v0 ho_v0) cw_Builder_layAll ho_v0 (lt_ rfl) rfl g_4_0 hRm ⟨⟨rfl, rfl⟩, le_ rfl, le_ rfl⟩ rfl rfl rfl (le_ rfl) (dq dk_Builder_findFault 38 rfl) h (fun σ1 h => ?_)
        refine ww_aload_n C 0 rfl rfl (dq dk_Builder_findFault 39 rfl) ?_
        refine ww_cVi (st := []) C (c_Builder_lengthen v0 ho_v0) cw_Builder_lengthen ho_v0 (lt_ rfl) rfl g_4_24 hRm ⟨⟨rfl, rfl⟩, le_ rfl, le_ rfl⟩ rfl rfl rfl (le_ rfl) (dq dk_Builder_findFault 40 rfl) h (fun x3 σ2 h => ?_)
        refine ww_if_ne C 81 (dq dk_Builder_findFault 41 rfl) (by decide) h (fun h => ?_) (fun h => ?_)
        · refine ww_iconst C (dq dk_Builder_findFault 44 rfl) ic_0 ?_
          refine ww_istore_n C [(1, .int 0), (0, .ref (ad k v0)), (2, .int v2)] rfl hnL (lt_ rfl) rfl (dq dk_Builder_findFault 45 rfl) ?_
          refine ww_iinc C 2 (fun z => [(2, .int z), (1, .int 0), (0, .ref (ad k v0))]) rfl ic_1 hnL (lt_ rfl) (fun _ => rfl) (dq dk_Builder_findFault 46 rfl) h (fun x4 h => ?_)
          refine ww_goto C 56 (dq dk_Builder_findFault 47 rfl) (by decide) ?_
          exact ww_lv [2, 1, 0] rfl (ih v0 0 x4 ho_v0 σ2 h)
        · refine ww_iconst C (dq dk_Builder_findFault 42 rfl) ic_1 ?_
          refine ww_goto C 82 (dq dk_Builder_findFault 43 rfl) (by decide) ?_
          refine ww_istore_n C [(1, .int 1), (0, .ref (ad k v0)), (2, .int v2)] rfl hnL (lt_ rfl) rfl (dq dk_Builder_findFault 45 rfl) ?_
          refine ww_iinc C 2 (fun z => [(2, .int z), (1, .int 1), (0, .ref (ad k v0))]) rfl ic_1 hnL (lt_ rfl) (fun _ => rfl) (dq dk_Builder_findFault 46 rfl) h (fun x5 h => ?_)
          refine ww_goto C 56 (dq dk_Builder_findFault 47 rfl) (by decide) ?_
          exact ww_lv [2, 1, 0] rfl (ih v0 1 x5 ho_v0 σ2 h)
set_option maxHeartbeats 4000000 in
set_option maxRecDepth 100000 in
theorem t_Builder_findFault_B9 {k : Cfg} {res : Int32 × St} (C : Cx k prog_2_method_2_code "BundleHouse$Builder") (hR : RI k .int res) (hRm : k.2.2.2.1 = rm_Builder_findFault) (hnL : k.2.2.2.2.2.2.2.2.2.2.2.1 = 3) : ∀ (n : Nat) (v0 : Nat) (v1 : Int32) (ho_v0 : kd v0 = 6) (σ : St), Builder_findFault_B9 n v0 v1 σ = some res → WW k 9 [(0, .ref (ad k v0)), (1, .int v1)] [] σ := by
  intro n
  induction n with
  | zero =>
    intro v0 v1 ho_v0 σ h
    have h : (none : Option (Int32 × St)) = some res := h
    cases h
  | succ n ih =>
    intro v0 v1 ho_v0 σ h
    unfold Builder_findFault_B9 at h
    refine ww_iload_n C 1 rfl rfl (dq dk_Builder_findFault 5 rfl) ?_
    refine ww_aload_n C 0 rfl rfl (dq dk_Builder_findFault 6 rfl) ?_
    refine ww_getr C ko_Builder 1 ho_v0 (lt_ rfl) g_2_14 rfl rfl (dq dk_Builder_findFault 7 rfl) ?_
    refine ww_geti C ko_Program 4 (kc_Builder_1 _ ho_v0) (lt_ rfl) g_1_187 rfl rfl (dq dk_Builder_findFault 8 rfl) ?_
    refine ww_icmp_ge C 43 (dq dk_Builder_findFault 9 rfl) (by decide) h (fun h => ?_) (fun h => ?_)
    · refine ww_aload_n C 0 rfl rfl (dq dk_Builder_findFault 23 rfl) ?_
      refine ww_iconst C (dq dk_Builder_findFault 24 rfl) ic_m1 ?_
      refine ww_puti C ko_Builder 0 ho_v0 (lt_ rfl) g_2_12 rfl rfl rfl rfl (dq dk_Builder_findFault 25 rfl) h (fun σ1 h => ?_)
      refine ww_aload_n C 0 rfl rfl (dq dk_Builder_findFault 26 rfl) ?_
      refine ww_cVv (st := []) C (c_Builder_measure v0 ho_v0) cw_Builder_measure ho_v0 (lt_ rfl) rfl g_3_176 hRm ⟨⟨rfl, rfl⟩, le_ rfl, le_ rfl⟩ rfl rfl rfl (le_ rfl) (dq dk_Builder_findFault 27 rfl) h (fun σ2 h => ?_)
      refine ww_iconst C (dq dk_Builder_findFault 28 rfl) ic_0 ?_
      refine ww_istore_n C [(1, .int 0), (0, .ref (ad k v0))] rfl hnL (lt_ rfl) rfl (dq dk_Builder_findFault 29 rfl) ?_
      refine ww_iconst C (dq dk_Builder_findFault 30 rfl) ic_0 ?_
      refine ww_istore_n C [(2, .int 0), (1, .int 0), (0, .ref (ad k v0))] rfl hnL (lt_ rfl) rfl (dq dk_Builder_findFault 31 rfl) ?_
      exact ww_lv [2, 1, 0] rfl (t_Builder_findFault_B56 C hR hRm hnL FU v0 0 0 ho_v0 σ2 h)
    · refine ww_aload_n C 0 rfl rfl (dq dk_Builder_findFault 10 rfl) ?_
      refine ww_iload_n C 1 rfl rfl (dq dk_Builder_findFault 11 rfl) ?_
      refine ww_cVi (st := []) C (c_Builder_faultOf v0 ho_v0 v1) cw_Builder_faultOf ho_v0 (lt_ rfl) rfl g_3_163 hRm ⟨⟨rfl, rfl⟩, le_ rfl, le_ rfl⟩ rfl rfl rfl (le_ rfl) (dq dk_Builder_findFault 12 rfl) h (fun x4 σ3 h => ?_)
      refine ww_istore_n C [(2, .int x4), (0, .ref (ad k v0)), (1, .int v1)] rfl hnL (lt_ rfl) rfl (dq dk_Builder_findFault 13 rfl) ?_
      refine ww_iload_n C 0 rfl rfl (dq dk_Builder_findFault 14 rfl) ?_
      refine ww_if_eq C 37 (dq dk_Builder_findFault 15 rfl) (by decide) h (fun h => ?_) (fun h => ?_)
      · refine ww_iinc C 2 (fun z => [(1, .int z), (2, .int x4), (0, .ref (ad k v0))]) rfl ic_1 hnL (lt_ rfl) (fun _ => rfl) (dq dk_Builder_findFault 21 rfl) h (fun x5 h => ?_)
        refine ww_goto C 9 (dq dk_Builder_findFault 22 rfl) (by decide) ?_
        exact ww_lv [2, 0] rfl (ih v0 x5 ho_v0 σ3 h)
      · refine ww_aload_n C 1 rfl rfl (dq dk_Builder_findFault 16 rfl) ?_
        refine ww_iload_n C 2 rfl rfl (dq dk_Builder_findFault 17 rfl) ?_
        refine ww_puti C ko_Builder 0 ho_v0 (lt_ rfl) g_2_12 rfl rfl rfl rfl (dq dk_Builder_findFault 18 rfl) h (fun σ6 h => ?_)
        refine ww_iload_n C 0 rfl rfl (dq dk_Builder_findFault 19 rfl) ?_
        exact ww_iret C hR (dq dk_Builder_findFault 20 rfl) h
set_option maxHeartbeats 4000000 in
set_option maxRecDepth 100000 in
theorem c_Builder_findFault (v0 : Nat) (ho_v0 : kd v0 = 6) : MI y_Builder_findFault rm_Builder_findFault prog_2_method_2_code 3 .int (fun a => [.ref (a v0)]) (Builder_findFault v0) := by
  refine mi_of (by decide) (fun _ => le_ rfl) ?_
  intro k res σ C hR hRm hnL h
  unfold Builder_findFault at h
  show WW k 0 [(0, .ref (ad k v0))] [] σ
  refine ww_aload_n C 0 rfl rfl (dq dk_Builder_findFault 0 rfl) ?_
  refine ww_getr C ko_Builder 1 ho_v0 (lt_ rfl) g_2_14 rfl rfl (dq dk_Builder_findFault 1 rfl) ?_
  refine ww_cVv (st := []) C (c_Program_findLabels (ch v0 1) (kc_Builder_1 _ ho_v0)) cw_Program_findLabels (kc_Builder_1 _ ho_v0) (lt_ rfl) rfl g_3_154 hRm ⟨⟨rfl, rfl⟩, le_ rfl, le_ rfl⟩ rfl rfl rfl (le_ rfl) (dq dk_Builder_findFault 2 rfl) h (fun σ1 h => ?_)
  refine ww_iconst C (dq dk_Builder_findFault 3 rfl) ic_0 ?_
  refine ww_istore_n C [(1, .int 0), (0, .ref (ad k v0))] rfl hnL (lt_ rfl) rfl (dq dk_Builder_findFault 4 rfl) ?_
  exact ww_lv [1, 0] rfl (t_Builder_findFault_B9 C hR hRm hnL FU v0 0 ho_v0 σ1 h)
abbrev y_Builder_makeJump : MethodName := ⟨"BundleHouse$Builder", "makeJump", "(II)V"⟩
def dl_Builder_makeJump : List (Nat × Instr × Nat) := [(0, .aload_n 0, 1), (1, .getfield 29, 3), (4, .iload_n 1, 1), (5, .iaload, 1), (6, .iconst 2, 1), (7, .if_icmp .ne 7, 3), (10, .iconst 1, 1), (11, .goto 4, 3), (14, .iconst 0, 1), (15, .istore_n 3, 1), (16, .aload_n 0, 1), (17, .getfield 33, 3), (20, .getfield 77, 3), (23, .iload_n 1, 1), (24, .iaload, 1), (25, .iconst 1, 1), (26, .if_icmp .ne 35, 3), (29, .iload_n 3, 1), (30, .ifCond .eq 17, 3), (33, .aload_n 0, 1), (34, .getfield 18, 3), (37, .sipush 235, 3), (40, .iload_n 2, 1), (41, .invokevirtual 161, 3), (44, .goto 61, 3), (47, .aload_n 0, 1), (48, .getfield 18, 3), (51, .sipush 233, 3), (54, .iload_n 2, 1), (55, .invokevirtual 152, 3), (58, .goto 47, 3), (61, .iload_n 3, 1), (62, .ifCond .eq 26, 3), (65, .aload_n 0, 1), (66, .getfield 18, 3), (69, .bipush 112, 2), (71, .aload_n 0, 1), (72, .getfield 33, 3), (75, .getfield 158, 3), (78, .iload_n 1, 1), (79, .iaload, 1), (80, .iadd, 1), (81, .iload_n 2, 1), (82, .invokevirtual 161, 3), (85, .goto 20, 3), (88, .aload_n 0, 1), (89, .getfield 18, 3), (92, .aload_n 0, 1), (93, .getfield 33, 3), (96, .getfield 158, 3), (99, .iload_n 1, 1), (100, .iaload, 1), (101, .iload_n 2, 1), (102, .invokevirtual 164, 3), (105, .return_, 1)]
set_option maxRecDepth 100000 in
theorem dk_Builder_makeJump : ∀ q ∈ dl_Builder_makeJump, decode prog_2_method_16_code q.1 = .ok q.2 := by decide +kernel
abbrev rm_Builder_makeJump : Room := { frames := 3, cells := 0, slots := 0, locals := 64 }
theorem cw_Builder_makeJump : CWV y_Builder_makeJump prog_2_method_16_code 4 none 2 := ⟨⟨g_4_77, g_1_7, by decide, by decide, by decide +kernel⟩, g_4_76, gs_3_4⟩
set_option maxHeartbeats 4000000 in
set_option maxRecDepth 100000 in
theorem t_Builder_makeJump_B15 {k : Cfg} {res : St} (C : Cx k prog_2_method_16_code "BundleHouse$Builder") (hR : RV k res) (hRm : k.2.2.2.1 = rm_Builder_makeJump) (hnL : k.2.2.2.2.2.2.2.2.2.2.2.1 = 4) (v0 : Nat) (v1 : Int32) (v2 : Int32) (t0 : Int32) (ho_v0 : kd v0 = 6) (σ : St) (h : Builder_makeJump_B15 v0 v1 v2 t0 σ = some res) : WW k 15 [(0, .ref (ad k v0)), (1, .int v1), (2, .int v2)] [.int t0] σ := by
  unfold Builder_makeJump_B15 at h
  refine ww_istore_n C [(3, .int t0), (0, .ref (ad k v0)), (1, .int v1), (2, .int v2)] rfl hnL (lt_ rfl) rfl (dq dk_Builder_makeJump 9 rfl) ?_
  refine ww_aload_n C 1 rfl rfl (dq dk_Builder_makeJump 10 rfl) ?_
  refine ww_getr C ko_Builder 1 ho_v0 (lt_ rfl) g_2_14 rfl rfl (dq dk_Builder_makeJump 11 rfl) ?_
  refine ww_getr C ko_Program 0 (kc_Builder_1 _ ho_v0) (lt_ rfl) g_1_177 rfl rfl (dq dk_Builder_makeJump 12 rfl) ?_
  refine ww_iload_n C 2 rfl rfl (dq dk_Builder_makeJump 13 rfl) ?_
  refine ww_iald C (kc_Program_0 _ (kc_Builder_1 _ ho_v0)).1 (kc_Program_0 _ (kc_Builder_1 _ ho_v0)).2 (dq dk_Builder_makeJump 14 rfl) h (fun x1 h => ?_)
  refine ww_iconst C (dq dk_Builder_makeJump 15 rfl) ic_1 ?_
  refine ww_icmp_ne C 61 (dq dk_Builder_makeJump 16 rfl) (by decide) h (fun h => ?_) (fun h => ?_)
  · refine ww_iload_n C 0 rfl rfl (dq dk_Builder_makeJump 31 rfl) ?_
    refine ww_if_eq C 88 (dq dk_Builder_makeJump 32 rfl) (by decide) h (fun h => ?_) (fun h => ?_)
    · refine ww_aload_n C 1 rfl rfl (dq dk_Builder_makeJump 45 rfl) ?_
      refine ww_getr C ko_Builder 3 ho_v0 (lt_ rfl) g_2_16 rfl rfl (dq dk_Builder_makeJump 46 rfl) ?_
      refine ww_aload_n C 1 rfl rfl (dq dk_Builder_makeJump 47 rfl) ?_
      refine ww_getr C ko_Builder 1 ho_v0 (lt_ rfl) g_2_14 rfl rfl (dq dk_Builder_makeJump 48 rfl) ?_
      refine ww_getr C ko_Program 2 (kc_Builder_1 _ ho_v0) (lt_ rfl) g_1_183 rfl rfl (dq dk_Builder_makeJump 49 rfl) ?_
      refine ww_iload_n C 2 rfl rfl (dq dk_Builder_makeJump 50 rfl) ?_
      refine ww_iald C (kc_Program_2 _ (kc_Builder_1 _ ho_v0)).1 (kc_Program_2 _ (kc_Builder_1 _ ho_v0)).2 (dq dk_Builder_makeJump 51 rfl) h (fun x2 h => ?_)
      refine ww_iload_n C 3 rfl rfl (dq dk_Builder_makeJump 52 rfl) ?_
      refine ww_cVv (st := []) C (c_Piece_becomeLongBranch (ch v0 3) (kc_Builder_3 _ ho_v0) x2 v2) cw_Piece_becomeLongBranch (kc_Builder_3 _ ho_v0) (lt_ rfl) rfl g_4_86 hRm ⟨⟨rfl, rfl⟩, le_ rfl, le_ rfl⟩ rfl rfl rfl (le_ rfl) (dq dk_Builder_makeJump 53 rfl) h (fun σ3 h => ?_)
      exact ww_vret C hR (dq dk_Builder_makeJump 54 rfl) h
    · refine ww_aload_n C 1 rfl rfl (dq dk_Builder_makeJump 33 rfl) ?_
      refine ww_getr C ko_Builder 3 ho_v0 (lt_ rfl) g_2_16 rfl rfl (dq dk_Builder_makeJump 34 rfl) ?_
      refine ww_bipush C (dq dk_Builder_makeJump 35 rfl) bp_112 ?_
      refine ww_aload_n C 1 rfl rfl (dq dk_Builder_makeJump 36 rfl) ?_
      refine ww_getr C ko_Builder 1 ho_v0 (lt_ rfl) g_2_14 rfl rfl (dq dk_Builder_makeJump 37 rfl) ?_
      refine ww_getr C ko_Program 2 (kc_Builder_1 _ ho_v0) (lt_ rfl) g_1_183 rfl rfl (dq dk_Builder_makeJump 38 rfl) ?_
      refine ww_iload_n C 2 rfl rfl (dq dk_Builder_makeJump 39 rfl) ?_
      refine ww_iald C (kc_Program_2 _ (kc_Builder_1 _ ho_v0)).1 (kc_Program_2 _ (kc_Builder_1 _ ho_v0)).2 (dq dk_Builder_makeJump 40 rfl) h (fun x4 h => ?_)
      refine ww_iadd C (dq dk_Builder_makeJump 41 rfl) ?_
      refine ww_iload_n C 3 rfl rfl (dq dk_Builder_makeJump 42 rfl) ?_
      refine ww_cVv (st := []) C (c_Piece_becomeShort (ch v0 3) (kc_Builder_3 _ ho_v0) (112 + x4) v2) cw_Piece_becomeShort (kc_Builder_3 _ ho_v0) (lt_ rfl) rfl g_4_78 hRm ⟨⟨rfl, rfl⟩, le_ rfl, le_ rfl⟩ rfl rfl rfl (le_ rfl) (dq dk_Builder_makeJump 43 rfl) h (fun σ5 h => ?_)
      refine ww_goto C 105 (dq dk_Builder_makeJump 44 rfl) (by decide) ?_
      exact ww_vret C hR (dq dk_Builder_makeJump 54 rfl) h
  · refine ww_iload_n C 0 rfl rfl (dq dk_Builder_makeJump 17 rfl) ?_
    refine ww_if_eq C 47 (dq dk_Builder_makeJump 18 rfl) (by decide) h (fun h => ?_) (fun h => ?_)
    · refine ww_aload_n C 1 rfl rfl (dq dk_Builder_makeJump 25 rfl) ?_
      refine ww_getr C ko_Builder 3 ho_v0 (lt_ rfl) g_2_16 rfl rfl (dq dk_Builder_makeJump 26 rfl) ?_
      refine ww_sipush C (dq dk_Builder_makeJump 27 rfl) sp_233 ?_
      refine ww_iload_n C 3 rfl rfl (dq dk_Builder_makeJump 28 rfl) ?_
      refine ww_cVv (st := []) C (c_Piece_becomeWithFour (ch v0 3) (kc_Builder_3 _ ho_v0) 233 v2) cw_Piece_becomeWithFour (kc_Builder_3 _ ho_v0) (lt_ rfl) rfl g_4_82 hRm ⟨⟨rfl, rfl⟩, le_ rfl, le_ rfl⟩ rfl rfl rfl (le_ rfl) (dq dk_Builder_makeJump 29 rfl) h (fun σ6 h => ?_)
      refine ww_goto C 105 (dq dk_Builder_makeJump 30 rfl) (by decide) ?_
      exact ww_vret C hR (dq dk_Builder_makeJump 54 rfl) h
    · refine ww_aload_n C 1 rfl rfl (dq dk_Builder_makeJump 19 rfl) ?_
      refine ww_getr C ko_Builder 3 ho_v0 (lt_ rfl) g_2_16 rfl rfl (dq dk_Builder_makeJump 20 rfl) ?_
      refine ww_sipush C (dq dk_Builder_makeJump 21 rfl) sp_235 ?_
      refine ww_iload_n C 3 rfl rfl (dq dk_Builder_makeJump 22 rfl) ?_
      refine ww_cVv (st := []) C (c_Piece_becomeShort (ch v0 3) (kc_Builder_3 _ ho_v0) 235 v2) cw_Piece_becomeShort (kc_Builder_3 _ ho_v0) (lt_ rfl) rfl g_4_78 hRm ⟨⟨rfl, rfl⟩, le_ rfl, le_ rfl⟩ rfl rfl rfl (le_ rfl) (dq dk_Builder_makeJump 23 rfl) h (fun σ7 h => ?_)
      refine ww_goto C 105 (dq dk_Builder_makeJump 24 rfl) (by decide) ?_
      exact ww_vret C hR (dq dk_Builder_makeJump 54 rfl) h
set_option maxHeartbeats 4000000 in
set_option maxRecDepth 100000 in
theorem c_Builder_makeJump (v0 : Nat) (ho_v0 : kd v0 = 6) (v1 : Int32) (v2 : Int32) : MV y_Builder_makeJump rm_Builder_makeJump prog_2_method_16_code 4 (fun a => [.ref (a v0), .int v1, .int v2]) (Builder_makeJump v0 v1 v2) := by
  refine mv_of (by decide) (fun _ => le_ rfl) ?_
  intro k res σ C hR hRm hnL h
  unfold Builder_makeJump at h
  show WW k 0 [(0, .ref (ad k v0)), (1, .int v1), (2, .int v2)] [] σ
  refine ww_aload_n C 0 rfl rfl (dq dk_Builder_makeJump 0 rfl) ?_
  refine ww_getr C ko_Builder 5 ho_v0 (lt_ rfl) g_2_18 rfl rfl (dq dk_Builder_makeJump 1 rfl) ?_
  refine ww_iload_n C 1 rfl rfl (dq dk_Builder_makeJump 2 rfl) ?_
  refine ww_iald C (kc_Builder_5 _ ho_v0).1 (kc_Builder_5 _ ho_v0).2 (dq dk_Builder_makeJump 3 rfl) h (fun x1 h => ?_)
  refine ww_iconst C (dq dk_Builder_makeJump 4 rfl) ic_2 ?_
  refine ww_icmp_ne C 14 (dq dk_Builder_makeJump 5 rfl) (by decide) h (fun h => ?_) (fun h => ?_)
  · refine ww_iconst C (dq dk_Builder_makeJump 8 rfl) ic_0 ?_
    exact ww_lv [0, 1, 2] rfl (t_Builder_makeJump_B15 C hR hRm hnL v0 v1 v2 0 ho_v0 σ h)
  · refine ww_iconst C (dq dk_Builder_makeJump 6 rfl) ic_1 ?_
    refine ww_goto C 15 (dq dk_Builder_makeJump 7 rfl) (by decide) ?_
    exact ww_lv [0, 1, 2] rfl (t_Builder_makeJump_B15 C hR hRm hnL v0 v1 v2 1 ho_v0 σ h)
abbrev y_Builder_makePiece : MethodName := ⟨"BundleHouse$Builder", "makePiece", "(I)V"⟩
def dl_Builder_makePiece : List (Nat × Instr × Nat) := [(0, .aload_n 0, 1), (1, .getfield 33, 3), (4, .getfield 71, 3), (7, .iload_n 1, 1), (8, .iaload, 1), (9, .istore_n 2, 1), (10, .aload_n 0, 1), (11, .getfield 33, 3), (14, .getfield 77, 3), (17, .iload_n 1, 1), (18, .iaload, 1), (19, .tableswitch 198 0 8 #[49, 60, 60, 73, 91, 129, 141, 153, 166], 49), (68, .aload_n 0, 1), (69, .getfield 18, 3), (72, .iconst 0, 1), (73, .putfield 91, 3), (76, .goto 164, 3), (79, .aload_n 0, 1), (80, .iload_n 1, 1), (81, .aload_n 0, 1), (82, .iload_n 1, 1), (83, .invokevirtual 116, 3), (86, .invokevirtual 149, 3), (89, .goto 151, 3), (92, .aload_n 0, 1), (93, .getfield 18, 3), (96, .sipush 232, 3), (99, .aload_n 0, 1), (100, .iload_n 1, 1), (101, .invokevirtual 116, 3), (104, .invokevirtual 152, 3), (107, .goto 133, 3), (110, .aload_n 0, 1), (111, .getfield 18, 3), (114, .sipush 232, 3), (117, .bipush 16, 2), (119, .iload_n 2, 1), (120, .imul, 1), (121, .sipush 256, 3), (124, .aload_n 0, 1), (125, .getfield 33, 3), (128, .getfield 95, 3), (131, .iload_n 1, 1), (132, .iaload, 1), (133, .iadd, 1), (134, .aload_n 0, 1), (135, .getfield 29, 3), (138, .iload_n 1, 1), (139, .iaload, 1), (140, .iadd, 1), (141, .isub, 1), (142, .invokevirtual 152, 3), (145, .goto 95, 3), (148, .aload_n 0, 1), (149, .getfield 18, 3), (152, .iload_n 2, 1), (153, .iconst 0, 1), (154, .invokevirtual 145, 3), (157, .goto 83, 3), (160, .aload_n 0, 1), (161, .getfield 18, 3), (164, .iload_n 2, 1), (165, .iconst 1, 1), (166, .invokevirtual 145, 3), (169, .goto 71, 3), (172, .aload_n 0, 1), (173, .getfield 18, 3), (176, .bipush 88, 2), (178, .iconst 1, 1), (179, .invokevirtual 155, 3), (182, .goto 58, 3), (185, .aload_n 0, 1), (186, .getfield 18, 3), (189, .sipush 184, 3), (192, .aload_n 0, 1), (193, .getfield 33, 3), (196, .getfield 158, 3), (199, .iload_n 1, 1), (200, .iaload, 1), (201, .iadd, 1), (202, .sipush 256, 3), (205, .aload_n 0, 1), (206, .iload_n 1, 1), (207, .invokevirtual 125, 3), (210, .iadd, 1), (211, .invokevirtual 152, 3), (214, .goto 26, 3), (217, .aload_n 0, 1), (218, .getfield 33, 3), (221, .iload_n 1, 1), (222, .aload_n 0, 1), (223, .getfield 25, 3), (226, .invokevirtual 83, 3), (229, .aload_n 0, 1), (230, .getfield 18, 3), (233, .aload_n 0, 1), (234, .getfield 25, 3), (237, .invokevirtual 87, 3), (240, .return_, 1)]
set_option maxRecDepth 100000 in
theorem dk_Builder_makePiece : ∀ q ∈ dl_Builder_makePiece, decode prog_2_method_15_code q.1 = .ok q.2 := by decide +kernel
abbrev rm_Builder_makePiece : Room := { frames := 4, cells := 0, slots := 0, locals := 89 }
theorem cw_Builder_makePiece : CWV y_Builder_makePiece prog_2_method_15_code 3 none 1 := ⟨⟨g_4_73, g_1_7, by decide, by decide, by decide +kernel⟩, g_4_72, gs_3_3⟩
set_option maxHeartbeats 4000000 in
set_option maxRecDepth 100000 in
theorem t_Builder_makePiece_B79 {k : Cfg} {res : St} (C : Cx k prog_2_method_15_code "BundleHouse$Builder") (hR : RV k res) (hRm : k.2.2.2.1 = rm_Builder_makePiece) (hnL : k.2.2.2.2.2.2.2.2.2.2.2.1 = 3) (v0 : Nat) (v1 : Int32) (ho_v0 : kd v0 = 6) (σ : St) (h : Builder_makePiece_B79 v0 v1 σ = some res) : WW k 79 [(0, .ref (ad k v0)), (1, .int v1)] [] σ := by
  unfold Builder_makePiece_B79 at h
  refine ww_aload_n C 0 rfl rfl (dq dk_Builder_makePiece 17 rfl) ?_
  refine ww_iload_n C 1 rfl rfl (dq dk_Builder_makePiece 18 rfl) ?_
  refine ww_aload_n C 0 rfl rfl (dq dk_Builder_makePiece 19 rfl) ?_
  refine ww_iload_n C 1 rfl rfl (dq dk_Builder_makePiece 20 rfl) ?_
  refine ww_cVi (st := [.int v1, .ref (ad k v0)]) C (c_Builder_distance v0 ho_v0 v1) cw_Builder_distance ho_v0 (lt_ rfl) rfl g_4_28 hRm ⟨⟨rfl, rfl⟩, le_ rfl, le_ rfl⟩ rfl rfl rfl (le_ rfl) (dq dk_Builder_makePiece 21 rfl) h (fun x2 σ1 h => ?_)
  refine ww_cVv (st := []) C (c_Builder_makeJump v0 ho_v0 v1 x2) cw_Builder_makeJump ho_v0 (lt_ rfl) rfl g_4_74 hRm ⟨⟨rfl, rfl⟩, le_ rfl, le_ rfl⟩ rfl rfl rfl (le_ rfl) (dq dk_Builder_makePiece 22 rfl) h (fun σ3 h => ?_)
  refine ww_goto C 240 (dq dk_Builder_makePiece 23 rfl) (by decide) ?_
  exact ww_vret C hR (dq dk_Builder_makePiece 98 rfl) h
set_option maxHeartbeats 4000000 in
set_option maxRecDepth 100000 in
theorem c_Builder_makePiece (v0 : Nat) (ho_v0 : kd v0 = 6) (v1 : Int32) : MV y_Builder_makePiece rm_Builder_makePiece prog_2_method_15_code 3 (fun a => [.ref (a v0), .int v1]) (Builder_makePiece v0 v1) := by
  refine mv_of (by decide) (fun _ => le_ rfl) ?_
  intro k res σ C hR hRm hnL h
  unfold Builder_makePiece at h
  show WW k 0 [(0, .ref (ad k v0)), (1, .int v1)] [] σ
  refine ww_aload_n C 0 rfl rfl (dq dk_Builder_makePiece 0 rfl) ?_
  refine ww_getr C ko_Builder 1 ho_v0 (lt_ rfl) g_2_14 rfl rfl (dq dk_Builder_makePiece 1 rfl) ?_
  refine ww_getr C ko_Program 1 (kc_Builder_1 _ ho_v0) (lt_ rfl) g_1_180 rfl rfl (dq dk_Builder_makePiece 2 rfl) ?_
  refine ww_iload_n C 1 rfl rfl (dq dk_Builder_makePiece 3 rfl) ?_
  refine ww_iald C (kc_Program_1 _ (kc_Builder_1 _ ho_v0)).1 (kc_Program_1 _ (kc_Builder_1 _ ho_v0)).2 (dq dk_Builder_makePiece 4 rfl) h (fun x1 h => ?_)
  refine ww_istore_n C [(2, .int x1), (0, .ref (ad k v0)), (1, .int v1)] rfl hnL (lt_ rfl) rfl (dq dk_Builder_makePiece 5 rfl) ?_
  refine ww_aload_n C 1 rfl rfl (dq dk_Builder_makePiece 6 rfl) ?_
  refine ww_getr C ko_Builder 1 ho_v0 (lt_ rfl) g_2_14 rfl rfl (dq dk_Builder_makePiece 7 rfl) ?_
  refine ww_getr C ko_Program 0 (kc_Builder_1 _ ho_v0) (lt_ rfl) g_1_177 rfl rfl (dq dk_Builder_makePiece 8 rfl) ?_
  refine ww_iload_n C 2 rfl rfl (dq dk_Builder_makePiece 9 rfl) ?_
  refine ww_iald C (kc_Program_0 _ (kc_Builder_1 _ ho_v0)).1 (kc_Program_0 _ (kc_Builder_1 _ ho_v0)).2 (dq dk_Builder_makePiece 10 rfl) h (fun x2 h => ?_)
  by_cases e0_0 : x2 = 0
  · rw [if_pos e0_0] at h
    refine ww_tabIn C 68 (dq dk_Builder_makePiece 11 rfl) (by rw [e0_0]; decide) (by rw [e0_0]; decide) (by rw [e0_0]; rfl) (by decide) ?_
    refine ww_aload_n C 1 rfl rfl (dq dk_Builder_makePiece 12 rfl) ?_
    refine ww_getr C ko_Builder 3 ho_v0 (lt_ rfl) g_2_16 rfl rfl (dq dk_Builder_makePiece 13 rfl) ?_
    refine ww_iconst C (dq dk_Builder_makePiece 14 rfl) ic_0 ?_
    refine ww_puti C ko_Piece 1 (kc_Builder_3 _ ho_v0) (lt_ rfl) g_2_4 rfl rfl rfl rfl (dq dk_Builder_makePiece 15 rfl) h (fun σ3 h => ?_)
    refine ww_goto C 240 (dq dk_Builder_makePiece 16 rfl) (by decide) ?_
    exact ww_vret C hR (dq dk_Builder_makePiece 98 rfl) h
  rw [if_neg e0_0] at h
  by_cases e1_1 : x2 = 1
  · rw [if_pos e1_1] at h
    refine ww_tabIn C 79 (dq dk_Builder_makePiece 11 rfl) (by rw [e1_1]; decide) (by rw [e1_1]; decide) (by rw [e1_1]; rfl) (by decide) ?_
    exact ww_lv [1, 2] rfl (t_Builder_makePiece_B79 C hR hRm hnL v0 v1 ho_v0 σ h)
  rw [if_neg e1_1] at h
  by_cases e2_2 : x2 = 2
  · rw [if_pos e2_2] at h
    refine ww_tabIn C 79 (dq dk_Builder_makePiece 11 rfl) (by rw [e2_2]; decide) (by rw [e2_2]; decide) (by rw [e2_2]; rfl) (by decide) ?_
    exact ww_lv [1, 2] rfl (t_Builder_makePiece_B79 C hR hRm hnL v0 v1 ho_v0 σ h)
  rw [if_neg e2_2] at h
  by_cases e3_3 : x2 = 3
  · rw [if_pos e3_3] at h
    refine ww_tabIn C 92 (dq dk_Builder_makePiece 11 rfl) (by rw [e3_3]; decide) (by rw [e3_3]; decide) (by rw [e3_3]; rfl) (by decide) ?_
    refine ww_aload_n C 1 rfl rfl (dq dk_Builder_makePiece 24 rfl) ?_
    refine ww_getr C ko_Builder 3 ho_v0 (lt_ rfl) g_2_16 rfl rfl (dq dk_Builder_makePiece 25 rfl) ?_
    refine ww_sipush C (dq dk_Builder_makePiece 26 rfl) sp_232 ?_
    refine ww_aload_n C 1 rfl rfl (dq dk_Builder_makePiece 27 rfl) ?_
    refine ww_iload_n C 2 rfl rfl (dq dk_Builder_makePiece 28 rfl) ?_
    refine ww_cVi (st := [.int 232, .ref (ad k (ch v0 3))]) C (c_Builder_distance v0 ho_v0 v1) cw_Builder_distance ho_v0 (lt_ rfl) rfl g_4_28 hRm ⟨⟨rfl, rfl⟩, le_ rfl, le_ rfl⟩ rfl rfl rfl (le_ rfl) (dq dk_Builder_makePiece 29 rfl) h (fun x5 σ4 h => ?_)
    refine ww_cVv (st := []) C (c_Piece_becomeWithFour (ch v0 3) (kc_Builder_3 _ ho_v0) 232 x5) cw_Piece_becomeWithFour (kc_Builder_3 _ ho_v0) (lt_ rfl) rfl g_4_82 hRm ⟨⟨rfl, rfl⟩, le_ rfl, le_ rfl⟩ rfl rfl rfl (le_ rfl) (dq dk_Builder_makePiece 30 rfl) h (fun σ6 h => ?_)
    refine ww_goto C 240 (dq dk_Builder_makePiece 31 rfl) (by decide) ?_
    exact ww_vret C hR (dq dk_Builder_makePiece 98 rfl) h
  rw [if_neg e3_3] at h
  by_cases e4_4 : x2 = 4
  · rw [if_pos e4_4] at h
    refine ww_tabIn C 110 (dq dk_Builder_makePiece 11 rfl) (by rw [e4_4]; decide) (by rw [e4_4]; decide) (by rw [e4_4]; rfl) (by decide) ?_
    refine ww_aload_n C 1 rfl rfl (dq dk_Builder_makePiece 32 rfl) ?_
    refine ww_getr C ko_Builder 3 ho_v0 (lt_ rfl) g_2_16 rfl rfl (dq dk_Builder_makePiece 33 rfl) ?_
    refine ww_sipush C (dq dk_Builder_makePiece 34 rfl) sp_232 ?_
    refine ww_bipush C (dq dk_Builder_makePiece 35 rfl) bp_16 ?_
    refine ww_iload_n C 0 rfl rfl (dq dk_Builder_makePiece 36 rfl) ?_
    refine ww_imul C (dq dk_Builder_makePiece 37 rfl) ?_
    refine ww_sipush C (dq dk_Builder_makePiece 38 rfl) sp_256 ?_
    refine ww_aload_n C 1 rfl rfl (dq dk_Builder_makePiece 39 rfl) ?_
    refine ww_getr C ko_Builder 1 ho_v0 (lt_ rfl) g_2_14 rfl rfl (dq dk_Builder_makePiece 40 rfl) ?_
    refine ww_getr C ko_Program 3 (kc_Builder_1 _ ho_v0) (lt_ rfl) g_1_185 rfl rfl (dq dk_Builder_makePiece 41 rfl) ?_
    refine ww_iload_n C 2 rfl rfl (dq dk_Builder_makePiece 42 rfl) ?_
    refine ww_iald C (kc_Program_3 _ (kc_Builder_1 _ ho_v0)).1 (kc_Program_3 _ (kc_Builder_1 _ ho_v0)).2 (dq dk_Builder_makePiece 43 rfl) h (fun x7 h => ?_)
    refine ww_iadd C (dq dk_Builder_makePiece 44 rfl) ?_
    refine ww_aload_n C 1 rfl rfl (dq dk_Builder_makePiece 45 rfl) ?_
    refine ww_getr C ko_Builder 5 ho_v0 (lt_ rfl) g_2_18 rfl rfl (dq dk_Builder_makePiece 46 rfl) ?_
    refine ww_iload_n C 2 rfl rfl (dq dk_Builder_makePiece 47 rfl) ?_
    refine ww_iald C (kc_Builder_5 _ ho_v0).1 (kc_Builder_5 _ ho_v0).2 (dq dk_Builder_makePiece 48 rfl) h (fun x8 h => ?_)
    refine ww_iadd C (dq dk_Builder_makePiece 49 rfl) ?_
    refine ww_isub C (dq dk_Builder_makePiece 50 rfl) ?_
    refine ww_cVv (st := []) C (c_Piece_becomeWithFour (ch v0 3) (kc_Builder_3 _ ho_v0) 232 ((16 * x1) - ((256 + x7) + x8))) cw_Piece_becomeWithFour (kc_Builder_3 _ ho_v0) (lt_ rfl) rfl g_4_82 hRm ⟨⟨rfl, rfl⟩, le_ rfl, le_ rfl⟩ rfl rfl rfl (le_ rfl) (dq dk_Builder_makePiece 51 rfl) h (fun σ9 h => ?_)
    refine ww_goto C 240 (dq dk_Builder_makePiece 52 rfl) (by decide) ?_
    exact ww_vret C hR (dq dk_Builder_makePiece 98 rfl) h
  rw [if_neg e4_4] at h
  by_cases e5_5 : x2 = 5
  · rw [if_pos e5_5] at h
    refine ww_tabIn C 148 (dq dk_Builder_makePiece 11 rfl) (by rw [e5_5]; decide) (by rw [e5_5]; decide) (by rw [e5_5]; rfl) (by decide) ?_
    refine ww_aload_n C 1 rfl rfl (dq dk_Builder_makePiece 53 rfl) ?_
    refine ww_getr C ko_Builder 3 ho_v0 (lt_ rfl) g_2_16 rfl rfl (dq dk_Builder_makePiece 54 rfl) ?_
    refine ww_iload_n C 0 rfl rfl (dq dk_Builder_makePiece 55 rfl) ?_
    refine ww_iconst C (dq dk_Builder_makePiece 56 rfl) ic_0 ?_
    refine ww_cVv (st := []) C (c_Piece_becomePair (ch v0 3) (kc_Builder_3 _ ho_v0) x1 0) cw_Piece_becomePair (kc_Builder_3 _ ho_v0) (lt_ rfl) rfl g_4_90 hRm ⟨⟨rfl, rfl⟩, le_ rfl, le_ rfl⟩ rfl rfl rfl (le_ rfl) (dq dk_Builder_makePiece 57 rfl) h (fun σ10 h => ?_)
    refine ww_goto C 240 (dq dk_Builder_makePiece 58 rfl) (by decide) ?_
    exact ww_vret C hR (dq dk_Builder_makePiece 98 rfl) h
  rw [if_neg e5_5] at h
  by_cases e6_6 : x2 = 6
  · rw [if_pos e6_6] at h
    refine ww_tabIn C 160 (dq dk_Builder_makePiece 11 rfl) (by rw [e6_6]; decide) (by rw [e6_6]; decide) (by rw [e6_6]; rfl) (by decide) ?_
    refine ww_aload_n C 1 rfl rfl (dq dk_Builder_makePiece 59 rfl) ?_
    refine ww_getr C ko_Builder 3 ho_v0 (lt_ rfl) g_2_16 rfl rfl (dq dk_Builder_makePiece 60 rfl) ?_
    refine ww_iload_n C 0 rfl rfl (dq dk_Builder_makePiece 61 rfl) ?_
    refine ww_iconst C (dq dk_Builder_makePiece 62 rfl) ic_1 ?_
    refine ww_cVv (st := []) C (c_Piece_becomePair (ch v0 3) (kc_Builder_3 _ ho_v0) x1 1) cw_Piece_becomePair (kc_Builder_3 _ ho_v0) (lt_ rfl) rfl g_4_90 hRm ⟨⟨rfl, rfl⟩, le_ rfl, le_ rfl⟩ rfl rfl rfl (le_ rfl) (dq dk_Builder_makePiece 63 rfl) h (fun σ11 h => ?_)
    refine ww_goto C 240 (dq dk_Builder_makePiece 64 rfl) (by decide) ?_
    exact ww_vret C hR (dq dk_Builder_makePiece 98 rfl) h
  rw [if_neg e6_6] at h
  by_cases e7_7 : x2 = 7
  · rw [if_pos e7_7] at h
    refine ww_tabIn C 172 (dq dk_Builder_makePiece 11 rfl) (by rw [e7_7]; decide) (by rw [e7_7]; decide) (by rw [e7_7]; rfl) (by decide) ?_
    refine ww_aload_n C 1 rfl rfl (dq dk_Builder_makePiece 65 rfl) ?_
    refine ww_getr C ko_Builder 3 ho_v0 (lt_ rfl) g_2_16 rfl rfl (dq dk_Builder_makePiece 66 rfl) ?_
    refine ww_bipush C (dq dk_Builder_makePiece 67 rfl) bp_88 ?_
    refine ww_iconst C (dq dk_Builder_makePiece 68 rfl) ic_1 ?_
    refine ww_cVv (st := []) C (c_Piece_becomeRegisterOp (ch v0 3) (kc_Builder_3 _ ho_v0) 88 1) cw_Piece_becomeRegisterOp (kc_Builder_3 _ ho_v0) (lt_ rfl) rfl g_4_94 hRm ⟨⟨rfl, rfl⟩, le_ rfl, le_ rfl⟩ rfl rfl rfl (le_ rfl) (dq dk_Builder_makePiece 69 rfl) h (fun σ12 h => ?_)
    refine ww_goto C 240 (dq dk_Builder_makePiece 70 rfl) (by decide) ?_
    exact ww_vret C hR (dq dk_Builder_makePiece 98 rfl) h
  rw [if_neg e7_7] at h
  by_cases e8_8 : x2 = 8
  · rw [if_pos e8_8] at h
    refine ww_tabIn C 185 (dq dk_Builder_makePiece 11 rfl) (by rw [e8_8]; decide) (by rw [e8_8]; decide) (by rw [e8_8]; rfl) (by decide) ?_
    refine ww_aload_n C 1 rfl rfl (dq dk_Builder_makePiece 71 rfl) ?_
    refine ww_getr C ko_Builder 3 ho_v0 (lt_ rfl) g_2_16 rfl rfl (dq dk_Builder_makePiece 72 rfl) ?_
    refine ww_sipush C (dq dk_Builder_makePiece 73 rfl) sp_184 ?_
    refine ww_aload_n C 1 rfl rfl (dq dk_Builder_makePiece 74 rfl) ?_
    refine ww_getr C ko_Builder 1 ho_v0 (lt_ rfl) g_2_14 rfl rfl (dq dk_Builder_makePiece 75 rfl) ?_
    refine ww_getr C ko_Program 2 (kc_Builder_1 _ ho_v0) (lt_ rfl) g_1_183 rfl rfl (dq dk_Builder_makePiece 76 rfl) ?_
    refine ww_iload_n C 2 rfl rfl (dq dk_Builder_makePiece 77 rfl) ?_
    refine ww_iald C (kc_Program_2 _ (kc_Builder_1 _ ho_v0)).1 (kc_Program_2 _ (kc_Builder_1 _ ho_v0)).2 (dq dk_Builder_makePiece 78 rfl) h (fun x13 h => ?_)
    refine ww_iadd C (dq dk_Builder_makePiece 79 rfl) ?_
    refine ww_sipush C (dq dk_Builder_makePiece 80 rfl) sp_256 ?_
    refine ww_aload_n C 1 rfl rfl (dq dk_Builder_makePiece 81 rfl) ?_
    refine ww_iload_n C 2 rfl rfl (dq dk_Builder_makePiece 82 rfl) ?_
    refine ww_cVi (st := [.int 256, .int (184 + x13), .ref (ad k (ch v0 3))]) C (c_Builder_labelPlace v0 ho_v0 v1) cw_Builder_labelPlace ho_v0 (lt_ rfl) rfl g_4_32 hRm ⟨⟨rfl, rfl⟩, le_ rfl, le_ rfl⟩ rfl rfl rfl (le_ rfl) (dq dk_Builder_makePiece 83 rfl) h (fun x15 σ14 h => ?_)
    refine ww_iadd C (dq dk_Builder_makePiece 84 rfl) ?_
    refine ww_cVv (st := []) C (c_Piece_becomeWithFour (ch v0 3) (kc_Builder_3 _ ho_v0) (184 + x13) (256 + x15)) cw_Piece_becomeWithFour (kc_Builder_3 _ ho_v0) (lt_ rfl) rfl g_4_82 hRm ⟨⟨rfl, rfl⟩, le_ rfl, le_ rfl⟩ rfl rfl rfl (le_ rfl) (dq dk_Builder_makePiece 85 rfl) h (fun σ16 h => ?_)
    refine ww_goto C 240 (dq dk_Builder_makePiece 86 rfl) (by decide) ?_
    exact ww_vret C hR (dq dk_Builder_makePiece 98 rfl) h
  rw [if_neg e8_8] at h
  have ne0_0 := lv_neT (a := 0) e0_0 (by decide)
  have ne1_1 := lv_neT (a := 1) e1_1 (by decide)
  have ne2_2 := lv_neT (a := 2) e2_2 (by decide)
  have ne3_3 := lv_neT (a := 3) e3_3 (by decide)
  have ne4_4 := lv_neT (a := 4) e4_4 (by decide)
  have ne5_5 := lv_neT (a := 5) e5_5 (by decide)
  have ne6_6 := lv_neT (a := 6) e6_6 (by decide)
  have ne7_7 := lv_neT (a := 7) e7_7 (by decide)
  have ne8_8 := lv_neT (a := 8) e8_8 (by decide)
  refine ww_tabOut C 217 (dq dk_Builder_makePiece 11 rfl) (by omega) (by decide) ?_
  refine ww_aload_n C 1 rfl rfl (dq dk_Builder_makePiece 87 rfl) ?_
  refine ww_getr C ko_Builder 1 ho_v0 (lt_ rfl) g_2_14 rfl rfl (dq dk_Builder_makePiece 88 rfl) ?_
  refine ww_iload_n C 2 rfl rfl (dq dk_Builder_makePiece 89 rfl) ?_
  refine ww_aload_n C 1 rfl rfl (dq dk_Builder_makePiece 90 rfl) ?_
  refine ww_getr C ko_Builder 4 ho_v0 (lt_ rfl) g_2_17 rfl rfl (dq dk_Builder_makePiece 91 rfl) ?_
  refine ww_cVv (st := []) C (c_Program_loadItem (ch v0 1) (kc_Builder_1 _ ho_v0) v1 (ch v0 4) (kc_Builder_4 _ ho_v0)) cw_Program_loadItem (kc_Builder_1 _ ho_v0) (lt_ rfl) rfl g_3_180 hRm ⟨⟨rfl, rfl⟩, le_ rfl, le_ rfl⟩ rfl rfl rfl (le_ rfl) (dq dk_Builder_makePiece 92 rfl) h (fun σ17 h => ?_)
  refine ww_aload_n C 1 rfl rfl (dq dk_Builder_makePiece 93 rfl) ?_
  refine ww_getr C ko_Builder 3 ho_v0 (lt_ rfl) g_2_16 rfl rfl (dq dk_Builder_makePiece 94 rfl) ?_
  refine ww_aload_n C 1 rfl rfl (dq dk_Builder_makePiece 95 rfl) ?_
  refine ww_getr C ko_Builder 4 ho_v0 (lt_ rfl) g_2_17 rfl rfl (dq dk_Builder_makePiece 96 rfl) ?_
  refine ww_cVv (st := []) C (c_Piece_become (ch v0 3) (kc_Builder_3 _ ho_v0) (ch v0 4) (kc_Builder_4 _ ho_v0)) cw_Piece_become (kc_Builder_3 _ ho_v0) (lt_ rfl) rfl g_3_185 hRm ⟨⟨rfl, rfl⟩, le_ rfl, le_ rfl⟩ rfl rfl rfl (le_ rfl) (dq dk_Builder_makePiece 97 rfl) h (fun σ18 h => ?_)
  exact ww_vret C hR (dq dk_Builder_makePiece 98 rfl) h
abbrev y_Builder_writeCode : MethodName := ⟨"BundleHouse$Builder", "writeCode", "()V"⟩
def dl_Builder_writeCode : List (Nat × Instr × Nat) := [(0, .aload_n 0, 1), (1, .getfield 33, 3), (4, .invokevirtual 128, 3), (7, .aload_n 0, 1), (8, .getfield 37, 3), (11, .aload_n 0, 1), (12, .invokevirtual 63, 3), (15, .aload_n 0, 1), (16, .getfield 33, 3), (19, .getfield 101, 3), (22, .invokevirtual 131, 3), (25, .iconst 0, 1), (26, .istore_n 1, 1), (27, .iload_n 1, 1), (28, .aload_n 0, 1), (29, .getfield 33, 3), (32, .getfield 46, 3), (35, .if_icmp .ge 99, 3), (38, .iload_n 1, 1), (39, .bipush 120, 2), (41, .if_icmp .ge 93, 3), (44, .aload_n 0, 1), (45, .iload_n 1, 1), (46, .invokevirtual 137, 3), (49, .aload_n 0, 1), (50, .getfield 37, 3), (53, .aload_n 0, 1), (54, .getfield 33, 3), (57, .getfield 95, 3), (60, .iload_n 1, 1), (61, .iaload, 1), (62, .aload_n 0, 1), (63, .getfield 18, 3), (66, .invokevirtual 141, 3), (69, .aload_n 0, 1), (70, .getfield 33, 3), (73, .getfield 77, 3), (76, .iload_n 1, 1), (77, .iaload, 1), (78, .bipush 7, 2), (80, .if_icmp .ne 48, 3), (83, .aload_n 0, 1), (84, .aload_n 0, 1), (85, .getfield 33, 3), (88, .getfield 95, 3), (91, .iload_n 1, 1), (92, .iaload, 1), (93, .aload_n 0, 1), (94, .getfield 29, 3), (97, .iload_n 1, 1), (98, .iaload, 1), (99, .iadd, 1), (100, .putfield 92, 3), (103, .aload_n 0, 1), (104, .getfield 18, 3), (107, .iconst 1, 1), (108, .iconst 0, 1), (109, .invokevirtual 145, 3), (112, .aload_n 0, 1), (113, .getfield 37, 3), (116, .aload_n 0, 1), (117, .iconst 5, 1), (118, .invokevirtual 110, 3), (121, .aload_n 0, 1), (122, .getfield 18, 3), (125, .invokevirtual 141, 3), (128, .iinc 1 1, 3), (131, .goto (-104), 3), (134, .return_, 1)]
set_option maxRecDepth 100000 in
theorem dk_Builder_writeCode : ∀ q ∈ dl_Builder_writeCode, decode prog_2_method_14_code q.1 = .ok q.2 := by decide +kernel
abbrev rm_Builder_writeCode : Room := { frames := 5, cells := 0, slots := 0, locals := 111 }
theorem cw_Builder_writeCode : CWV y_Builder_writeCode prog_2_method_14_code 2 none 0 := ⟨⟨g_4_48, g_1_7, by decide, by decide, by decide +kernel⟩, g_4_46, g_4_47⟩
set_option maxHeartbeats 4000000 in
set_option maxRecDepth 100000 in
theorem t_Builder_writeCode_B27 {k : Cfg} {res : St} (C : Cx k prog_2_method_14_code "BundleHouse$Builder") (hR : RV k res) (hRm : k.2.2.2.1 = rm_Builder_writeCode) (hnL : k.2.2.2.2.2.2.2.2.2.2.2.1 = 2) : ∀ (n : Nat) (v0 : Nat) (v1 : Int32) (ho_v0 : kd v0 = 6) (σ : St), Builder_writeCode_B27 n v0 v1 σ = some res → WW k 27 [(0, .ref (ad k v0)), (1, .int v1)] [] σ := by
  intro n
  induction n with
  | zero =>
    intro v0 v1 ho_v0 σ h
    have h : (none : Option (St)) = some res := h
    cases h
  | succ n ih =>
    intro v0 v1 ho_v0 σ h
    unfold Builder_writeCode_B27 at h
    refine ww_iload_n C 1 rfl rfl (dq dk_Builder_writeCode 13 rfl) ?_
    refine ww_aload_n C 0 rfl rfl (dq dk_Builder_writeCode 14 rfl) ?_
    refine ww_getr C ko_Builder 1 ho_v0 (lt_ rfl) g_2_14 rfl rfl (dq dk_Builder_writeCode 15 rfl) ?_
    refine ww_geti C ko_Program 4 (kc_Builder_1 _ ho_v0) (lt_ rfl) g_1_187 rfl rfl (dq dk_Builder_writeCode 16 rfl) ?_
    refine ww_icmp_ge C 134 (dq dk_Builder_writeCode 17 rfl) (by decide) h (fun h => ?_) (fun h => ?_)
    · exact ww_vret C hR (dq dk_Builder_writeCode 68 rfl) h
    · refine ww_iload_n C 1 rfl rfl (dq dk_Builder_writeCode 18 rfl) ?_
      refine ww_bipush C (dq dk_Builder_writeCode 19 rfl) bp_120 ?_
      refine ww_icmp_ge C 134 (dq dk_Builder_writeCode 20 rfl) (by decide) h (fun h => ?_) (fun h => ?_)
      · exact ww_vret C hR (dq dk_Builder_writeCode 68 rfl) h
      · refine ww_aload_n C 0 rfl rfl (dq dk_Builder_writeCode 21 rfl) ?_
        refine ww_iload_n C 1 rfl rfl (dq dk_Builder_writeCode 22 rfl) ?_
        refine ww_cVv (st := []) C (c_Builder_makePiece v0 ho_v0 v1) cw_Builder_makePiece ho_v0 (lt_ rfl) rfl g_4_70 hRm ⟨⟨rfl, rfl⟩, le_ rfl, le_ rfl⟩ rfl rfl rfl (le_ rfl) (dq dk_Builder_writeCode 23 rfl) h (fun σ1 h => ?_)
        refine ww_aload_n C 0 rfl rfl (dq dk_Builder_writeCode 24 rfl) ?_
        refine ww_getr C ko_Builder 2 ho_v0 (lt_ rfl) g_2_15 rfl rfl (dq dk_Builder_writeCode 25 rfl) ?_
        refine ww_aload_n C 0 rfl rfl (dq dk_Builder_writeCode 26 rfl) ?_
        refine ww_getr C ko_Builder 1 ho_v0 (lt_ rfl) g_2_14 rfl rfl (dq dk_Builder_writeCode 27 rfl) ?_
        refine ww_getr C ko_Program 3 (kc_Builder_1 _ ho_v0) (lt_ rfl) g_1_185 rfl rfl (dq dk_Builder_writeCode 28 rfl) ?_
        refine ww_iload_n C 1 rfl rfl (dq dk_Builder_writeCode 29 rfl) ?_
        refine ww_iald C (kc_Program_3 _ (kc_Builder_1 _ ho_v0)).1 (kc_Program_3 _ (kc_Builder_1 _ ho_v0)).2 (dq dk_Builder_writeCode 30 rfl) h (fun x2 h => ?_)
        refine ww_aload_n C 0 rfl rfl (dq dk_Builder_writeCode 31 rfl) ?_
        refine ww_getr C ko_Builder 3 ho_v0 (lt_ rfl) g_2_16 rfl rfl (dq dk_Builder_writeCode 32 rfl) ?_
        refine ww_cVv (st := []) C (c_Strip_putPiece (ch v0 2) (kc_Builder_2 _ ho_v0) x2 (ch v0 3) (kc_Builder_3 _ ho_v0)) cw_Strip_putPiece (kc_Builder_2 _ ho_v0) (lt_ rfl) rfl g_4_98 hRm ⟨⟨rfl, rfl⟩, le_ rfl, le_ rfl⟩ rfl rfl rfl (le_ rfl) (dq dk_Builder_writeCode 33 rfl) h (fun σ3 h => ?_)
        refine ww_aload_n C 0 rfl rfl (dq dk_Builder_writeCode 34 rfl) ?_
        refine ww_getr C ko_Builder 1 ho_v0 (lt_ rfl) g_2_14 rfl rfl (dq dk_Builder_writeCode 35 rfl) ?_
        refine ww_getr C ko_Program 0 (kc_Builder_1 _ ho_v0) (lt_ rfl) g_1_177 rfl rfl (dq dk_Builder_writeCode 36 rfl) ?_
        refine ww_iload_n C 1 rfl rfl (dq dk_Builder_writeCode 37 rfl) ?_
        refine ww_iald C (kc_Program_0 _ (kc_Builder_1 _ ho_v0)).1 (kc_Program_0 _ (kc_Builder_1 _ ho_v0)).2 (dq dk_Builder_writeCode 38 rfl) h (fun x4 h => ?_)
        refine ww_bipush C (dq dk_Builder_writeCode 39 rfl) bp_7 ?_
        refine ww_icmp_ne C 128 (dq dk_Builder_writeCode 40 rfl) (by decide) h (fun h => ?_) (fun h => ?_)
        · refine ww_iinc C 1 (fun z => [(1, .int z), (0, .ref (ad k v0))]) rfl ic_1 hnL (lt_ rfl) (fun _ => rfl) (dq dk_Builder_writeCode 66 rfl) h (fun x5 h => ?_)
          refine ww_goto C 27 (dq dk_Builder_writeCode 67 rfl) (by decide) ?_
          exact ww_lv [1, 0] rfl (ih v0 x5 ho_v0 σ3 h)
        · refine ww_aload_n C 0 rfl rfl (dq dk_Builder_writeCode 41 rfl) ?_
          refine ww_aload_n C 0 rfl rfl (dq dk_Builder_writeCode 42 rfl) ?_
          refine ww_getr C ko_Builder 1 ho_v0 (lt_ rfl) g_2_14 rfl rfl (dq dk_Builder_writeCode 43 rfl) ?_
          refine ww_getr C ko_Program 3 (kc_Builder_1 _ ho_v0) (lt_ rfl) g_1_185 rfl rfl (dq dk_Builder_writeCode 44 rfl) ?_
          refine ww_iload_n C 1 rfl rfl (dq dk_Builder_writeCode 45 rfl) ?_
          refine ww_iald C (kc_Program_3 _ (kc_Builder_1 _ ho_v0)).1 (kc_Program_3 _ (kc_Builder_1 _ ho_v0)).2 (dq dk_Builder_writeCode 46 rfl) h (fun x6 h => ?_)
          refine ww_aload_n C 0 rfl rfl (dq dk_Builder_writeCode 47 rfl) ?_
          refine ww_getr C ko_Builder 5 ho_v0 (lt_ rfl) g_2_18 rfl rfl (dq dk_Builder_writeCode 48 rfl) ?_
          refine ww_iload_n C 1 rfl rfl (dq dk_Builder_writeCode 49 rfl) ?_
          refine ww_iald C (kc_Builder_5 _ ho_v0).1 (kc_Builder_5 _ ho_v0).2 (dq dk_Builder_writeCode 50 rfl) h (fun x7 h => ?_)
          refine ww_iadd C (dq dk_Builder_writeCode 51 rfl) ?_
          refine ww_puti C ko_Builder 6 ho_v0 (lt_ rfl) g_2_19 rfl rfl rfl rfl (dq dk_Builder_writeCode 52 rfl) h (fun σ8 h => ?_)
          refine ww_aload_n C 0 rfl rfl (dq dk_Builder_writeCode 53 rfl) ?_
          refine ww_getr C ko_Builder 3 ho_v0 (lt_ rfl) g_2_16 rfl rfl (dq dk_Builder_writeCode 54 rfl) ?_
          refine ww_iconst C (dq dk_Builder_writeCode 55 rfl) ic_1 ?_
          refine ww_iconst C (dq dk_Builder_writeCode 56 rfl) ic_0 ?_
          refine ww_cVv (st := []) C (c_Piece_becomePair (ch v0 3) (kc_Builder_3 _ ho_v0) 1 0) cw_Piece_becomePair (kc_Builder_3 _ ho_v0) (lt_ rfl) rfl g_4_90 hRm ⟨⟨rfl, rfl⟩, le_ rfl, le_ rfl⟩ rfl rfl rfl (le_ rfl) (dq dk_Builder_writeCode 57 rfl) h (fun σ9 h => ?_)
          refine ww_aload_n C 0 rfl rfl (dq dk_Builder_writeCode 58 rfl) ?_
          refine ww_getr C ko_Builder 2 ho_v0 (lt_ rfl) g_2_15 rfl rfl (dq dk_Builder_writeCode 59 rfl) ?_
          refine ww_aload_n C 0 rfl rfl (dq dk_Builder_writeCode 60 rfl) ?_
          refine ww_iconst C (dq dk_Builder_writeCode 61 rfl) ic_5 ?_
          refine ww_cVi (st := [.ref (ad k (ch v0 2))]) C (c_Builder_layPiece v0 ho_v0 5) cw_Builder_layPiece ho_v0 (lt_ rfl) rfl g_4_20 hRm ⟨⟨rfl, rfl⟩, le_ rfl, le_ rfl⟩ rfl rfl rfl (le_ rfl) (dq dk_Builder_writeCode 62 rfl) h (fun x11 σ10 h => ?_)
          refine ww_aload_n C 0 rfl rfl (dq dk_Builder_writeCode 63 rfl) ?_
          refine ww_getr C ko_Builder 3 ho_v0 (lt_ rfl) g_2_16 rfl rfl (dq dk_Builder_writeCode 64 rfl) ?_
          refine ww_cVv (st := []) C (c_Strip_putPiece (ch v0 2) (kc_Builder_2 _ ho_v0) x11 (ch v0 3) (kc_Builder_3 _ ho_v0)) cw_Strip_putPiece (kc_Builder_2 _ ho_v0) (lt_ rfl) rfl g_4_98 hRm ⟨⟨rfl, rfl⟩, le_ rfl, le_ rfl⟩ rfl rfl rfl (le_ rfl) (dq dk_Builder_writeCode 65 rfl) h (fun σ12 h => ?_)
          refine ww_iinc C 1 (fun z => [(1, .int z), (0, .ref (ad k v0))]) rfl ic_1 hnL (lt_ rfl) (fun _ => rfl) (dq dk_Builder_writeCode 66 rfl) h (fun x13 h => ?_)
          refine ww_goto C 27 (dq dk_Builder_writeCode 67 rfl) (by decide) ?_
          exact ww_lv [1, 0] rfl (ih v0 x13 ho_v0 σ12 h)
set_option maxHeartbeats 4000000 in
set_option maxRecDepth 100000 in
theorem c_Builder_writeCode (v0 : Nat) (ho_v0 : kd v0 = 6) : MV y_Builder_writeCode rm_Builder_writeCode prog_2_method_14_code 2 (fun a => [.ref (a v0)]) (Builder_writeCode v0) := by
  refine mv_of (by decide) (fun _ => le_ rfl) ?_
  intro k res σ C hR hRm hnL h
  unfold Builder_writeCode at h
  show WW k 0 [(0, .ref (ad k v0))] [] σ
  refine ww_aload_n C 0 rfl rfl (dq dk_Builder_writeCode 0 rfl) ?_
  refine ww_getr C ko_Builder 1 ho_v0 (lt_ rfl) g_2_14 rfl rfl (dq dk_Builder_writeCode 1 rfl) ?_
  refine ww_cVv (st := []) C (c_Program_findLandings (ch v0 1) (kc_Builder_1 _ ho_v0)) cw_Program_findLandings (kc_Builder_1 _ ho_v0) (lt_ rfl) rfl g_4_49 hRm ⟨⟨rfl, rfl⟩, le_ rfl, le_ rfl⟩ rfl rfl rfl (le_ rfl) (dq dk_Builder_writeCode 2 rfl) h (fun σ1 h => ?_)
  refine ww_aload_n C 0 rfl rfl (dq dk_Builder_writeCode 3 rfl) ?_
  refine ww_getr C ko_Builder 2 ho_v0 (lt_ rfl) g_2_15 rfl rfl (dq dk_Builder_writeCode 4 rfl) ?_
  refine ww_aload_n C 0 rfl rfl (dq dk_Builder_writeCode 5 rfl) ?_
  refine ww_cVi (st := [.ref (ad k (ch v0 2))]) C (c_Builder_wholeSize v0 ho_v0) cw_Builder_wholeSize ho_v0 (lt_ rfl) rfl g_4_41 hRm ⟨⟨rfl, rfl⟩, le_ rfl, le_ rfl⟩ rfl rfl rfl (le_ rfl) (dq dk_Builder_writeCode 6 rfl) h (fun x3 σ2 h => ?_)
  refine ww_aload_n C 0 rfl rfl (dq dk_Builder_writeCode 7 rfl) ?_
  refine ww_getr C ko_Builder 1 ho_v0 (lt_ rfl) g_2_14 rfl rfl (dq dk_Builder_writeCode 8 rfl) ?_
  refine ww_geti C ko_Program 5 (kc_Builder_1 _ ho_v0) (lt_ rfl) g_1_189 rfl rfl (dq dk_Builder_writeCode 9 rfl) ?_
  refine ww_cVv (st := []) C (c_Strip_becomeFilling (ch v0 2) (kc_Builder_2 _ ho_v0) x3 (σ2 (ch v0 1) 5)) cw_Strip_becomeFilling (kc_Builder_2 _ ho_v0) (lt_ rfl) rfl g_4_60 hRm ⟨⟨rfl, rfl⟩, le_ rfl, le_ rfl⟩ rfl rfl rfl (le_ rfl) (dq dk_Builder_writeCode 10 rfl) h (fun σ4 h => ?_)
  refine ww_iconst C (dq dk_Builder_writeCode 11 rfl) ic_0 ?_
  refine ww_istore_n C [(1, .int 0), (0, .ref (ad k v0))] rfl hnL (lt_ rfl) rfl (dq dk_Builder_writeCode 12 rfl) ?_
  exact ww_lv [1, 0] rfl (t_Builder_writeCode_B27 C hR hRm hnL FU v0 0 ho_v0 σ4 h)
abbrev y_Flags_setAll : MethodName := ⟨"BundleHouse$Flags", "setAll", "(I)V"⟩
def dl_Flags_setAll : List (Nat × Instr × Nat) := [(0, .aload_n 0, 1), (1, .iload_n 1, 1), (2, .putfield 9, 3), (5, .aload_n 0, 1), (6, .iload_n 1, 1), (7, .putfield 15, 3), (10, .aload_n 0, 1), (11, .iload_n 1, 1), (12, .putfield 18, 3), (15, .aload_n 0, 1), (16, .iload_n 1, 1), (17, .putfield 21, 3), (20, .return_, 1)]
set_option maxRecDepth 100000 in
theorem dk_Flags_setAll : ∀ q ∈ dl_Flags_setAll, decode prog_3_method_2_code q.1 = .ok q.2 := by decide +kernel
abbrev rm_Flags_setAll : Room := { frames := 0, cells := 0, slots := 0, locals := 0 }
theorem cw_Flags_setAll : CWV y_Flags_setAll prog_3_method_2_code 2 none 1 := ⟨⟨g_5_47, g_1_10, by decide, by decide, by decide +kernel⟩, g_5_45, g_5_46⟩
set_option maxHeartbeats 4000000 in
set_option maxRecDepth 100000 in
theorem c_Flags_setAll (v0 : Nat) (ho_v0 : kd v0 = 9) (v1 : Int32) : MV y_Flags_setAll rm_Flags_setAll prog_3_method_2_code 2 (fun a => [.ref (a v0), .int v1]) (Flags_setAll v0 v1) := by
  refine mv_of (by decide) (fun _ => le_ rfl) ?_
  intro k res σ C hR hRm hnL h
  unfold Flags_setAll at h
  show WW k 0 [(0, .ref (ad k v0)), (1, .int v1)] [] σ
  refine ww_aload_n C 0 rfl rfl (dq dk_Flags_setAll 0 rfl) ?_
  refine ww_iload_n C 1 rfl rfl (dq dk_Flags_setAll 1 rfl) ?_
  refine ww_puti C ko_Flags 0 ho_v0 (lt_ rfl) g_2_47 rfl rfl rfl rfl (dq dk_Flags_setAll 2 rfl) h (fun σ1 h => ?_)
  refine ww_aload_n C 0 rfl rfl (dq dk_Flags_setAll 3 rfl) ?_
  refine ww_iload_n C 1 rfl rfl (dq dk_Flags_setAll 4 rfl) ?_
  refine ww_puti C ko_Flags 1 ho_v0 (lt_ rfl) g_2_49 rfl rfl rfl rfl (dq dk_Flags_setAll 5 rfl) h (fun σ2 h => ?_)
  refine ww_aload_n C 0 rfl rfl (dq dk_Flags_setAll 6 rfl) ?_
  refine ww_iload_n C 1 rfl rfl (dq dk_Flags_setAll 7 rfl) ?_
  refine ww_puti C ko_Flags 2 ho_v0 (lt_ rfl) g_2_51 rfl rfl rfl rfl (dq dk_Flags_setAll 8 rfl) h (fun σ3 h => ?_)
  refine ww_aload_n C 0 rfl rfl (dq dk_Flags_setAll 9 rfl) ?_
  refine ww_iload_n C 1 rfl rfl (dq dk_Flags_setAll 10 rfl) ?_
  refine ww_puti C ko_Flags 3 ho_v0 (lt_ rfl) g_2_53 rfl rfl rfl rfl (dq dk_Flags_setAll 11 rfl) h (fun σ4 h => ?_)
  exact ww_vret C hR (dq dk_Flags_setAll 12 rfl) h
abbrev y_Flags_narrowed : MethodName := ⟨"BundleHouse$Flags", "narrowed", "(J)I"⟩
def dl_Flags_narrowed : List (Nat × Instr × Nat) := [(0, .aload_n 0, 1), (1, .lload_n 1, 1), (2, .lload_n 1, 1), (3, .l2i, 1), (4, .i2l, 1), (5, .lcmp, 1), (6, .ifCond .ne 7, 3), (9, .iconst 0, 1), (10, .goto 4, 3), (13, .iconst 1, 1), (14, .putfield 21, 3), (17, .lload_n 1, 1), (18, .l2i, 1), (19, .ireturn, 1)]
set_option maxRecDepth 100000 in
theorem dk_Flags_narrowed : ∀ q ∈ dl_Flags_narrowed, decode prog_3_method_7_code q.1 = .ok q.2 := by decide +kernel
abbrev rm_Flags_narrowed : Room := { frames := 0, cells := 0, slots := 0, locals := 0 }
theorem cw_Flags_narrowed : CWV y_Flags_narrowed prog_3_method_7_code 3 (some .int) 1 := ⟨⟨g_5_156, g_1_10, by decide, by decide, by decide +kernel⟩, g_5_155, gs_4_0⟩
set_option maxHeartbeats 4000000 in
set_option maxRecDepth 100000 in
theorem c_Flags_narrowed (v0 : Nat) (ho_v0 : kd v0 = 9) (v1 : Int64) : MI y_Flags_narrowed rm_Flags_narrowed prog_3_method_7_code 3 .int (fun a => [.ref (a v0), .long v1]) (Flags_narrowed v0 v1) := by
  refine mi_of (by decide) (fun _ => le_ rfl) ?_
  intro k res σ C hR hRm hnL h
  unfold Flags_narrowed at h
  show WW k 0 [(0, .ref (ad k v0)), (1, .long v1)] [] σ
  refine ww_aload_n C 0 rfl rfl (dq dk_Flags_narrowed 0 rfl) ?_
  refine ww_lload_n C 1 rfl rfl (dq dk_Flags_narrowed 1 rfl) ?_
  refine ww_lload_n C 1 rfl rfl (dq dk_Flags_narrowed 2 rfl) ?_
  refine ww_l2i C (dq dk_Flags_narrowed 3 rfl) ?_
  refine ww_i2l C (dq dk_Flags_narrowed 4 rfl) ?_
  refine ww_lcmp C (dq dk_Flags_narrowed 5 rfl) ?_
  refine ww_if_ne C 13 (dq dk_Flags_narrowed 6 rfl) (by decide) h (fun h => ?_) (fun h => ?_)
  · refine ww_iconst C (dq dk_Flags_narrowed 9 rfl) ic_1 ?_
    refine ww_puti C ko_Flags 3 ho_v0 (lt_ rfl) g_2_53 rfl rfl rfl rfl (dq dk_Flags_narrowed 10 rfl) h (fun σ1 h => ?_)
    refine ww_lload_n C 1 rfl rfl (dq dk_Flags_narrowed 11 rfl) ?_
    refine ww_l2i C (dq dk_Flags_narrowed 12 rfl) ?_
    exact ww_iret C hR (dq dk_Flags_narrowed 13 rfl) h
  · refine ww_iconst C (dq dk_Flags_narrowed 7 rfl) ic_0 ?_
    refine ww_goto C 14 (dq dk_Flags_narrowed 8 rfl) (by decide) ?_
    refine ww_puti C ko_Flags 3 ho_v0 (lt_ rfl) g_2_53 rfl rfl rfl rfl (dq dk_Flags_narrowed 10 rfl) h (fun σ2 h => ?_)
    refine ww_lload_n C 1 rfl rfl (dq dk_Flags_narrowed 11 rfl) ?_
    refine ww_l2i C (dq dk_Flags_narrowed 12 rfl) ?_
    exact ww_iret C hR (dq dk_Flags_narrowed 13 rfl) h
abbrev y_Flags_difference : MethodName := ⟨"BundleHouse$Flags", "difference", "(III)I"⟩
def dl_Flags_difference : List (Nat × Instr × Nat) := [(0, .aload_n 0, 1), (1, .iload_n 2, 1), (2, .i2l, 1), (3, .ldc2_w 41, 3), (6, .land, 1), (7, .iload_n 3, 1), (8, .i2l, 1), (9, .ladd, 1), (10, .iload_n 1, 1), (11, .i2l, 1), (12, .ldc2_w 41, 3), (15, .land, 1), (16, .lcmp, 1), (17, .ifCond .le 7, 3), (20, .iconst 1, 1), (21, .goto 4, 3), (24, .iconst 0, 1), (25, .putfield 9, 3), (28, .aload_n 0, 1), (29, .iload_n 1, 1), (30, .i2l, 1), (31, .iload_n 2, 1), (32, .i2l, 1), (33, .lsub, 1), (34, .iload_n 3, 1), (35, .i2l, 1), (36, .lsub, 1), (37, .invokevirtual 43, 3), (40, .ireturn, 1)]
set_option maxRecDepth 100000 in
theorem dk_Flags_difference : ∀ q ∈ dl_Flags_difference, decode prog_3_method_5_code q.1 = .ok q.2 := by decide +kernel
abbrev rm_Flags_difference : Room := { frames := 1, cells := 0, slots := 0, locals := 22 }
theorem cw_Flags_difference : CWV y_Flags_difference prog_3_method_5_code 4 (some .int) 3 := ⟨⟨g_5_160, g_1_10, by decide, by decide, by decide +kernel⟩, g_5_159, gs_4_1⟩
set_option maxHeartbeats 4000000 in
set_option maxRecDepth 100000 in
theorem t_Flags_difference_B25 {k : Cfg} {res : Int32 × St} (C : Cx k prog_3_method_5_code "BundleHouse$Flags") (hR : RI k .int res) (hRm : k.2.2.2.1 = rm_Flags_difference) (hnL : k.2.2.2.2.2.2.2.2.2.2.2.1 = 4) (v0 : Nat) (v1 : Int32) (v2 : Int32) (v3 : Int32) (t0 : Nat) (t1 : Int32) (ho_v0 : kd v0 = 9) (ho_t0 : kd t0 = 9) (σ : St) (h : Flags_difference_B25 v0 v1 v2 v3 t0 t1 σ = some res) : WW k 25 [(0, .ref (ad k v0)), (1, .int v1), (2, .int v2), (3, .int v3)] [.int t1, .ref (ad k t0)] σ := by
  unfold Flags_difference_B25 at h
  refine ww_puti C ko_Flags 0 ho_t0 (lt_ rfl) g_2_47 rfl rfl rfl rfl (dq dk_Flags_difference 17 rfl) h (fun σ1 h => ?_)
  refine ww_aload_n C 0 rfl rfl (dq dk_Flags_difference 18 rfl) ?_
  refine ww_iload_n C 1 rfl rfl (dq dk_Flags_difference 19 rfl) ?_
  refine ww_i2l C (dq dk_Flags_difference 20 rfl) ?_
  refine ww_iload_n C 2 rfl rfl (dq dk_Flags_difference 21 rfl) ?_
  refine ww_i2l C (dq dk_Flags_difference 22 rfl) ?_
  refine ww_lsub C (dq dk_Flags_difference 23 rfl) ?_
  refine ww_iload_n C 3 rfl rfl (dq dk_Flags_difference 24 rfl) ?_
  refine ww_i2l C (dq dk_Flags_difference 25 rfl) ?_
  refine ww_lsub C (dq dk_Flags_difference 26 rfl) ?_
  refine ww_cVi (st := []) C (c_Flags_narrowed v0 ho_v0 (((Int32.toInt64 v1) - (Int32.toInt64 v2)) - (Int32.toInt64 v3))) cw_Flags_narrowed ho_v0 (lt_ rfl) rfl g_5_153 hRm ⟨⟨rfl, rfl⟩, le_ rfl, le_ rfl⟩ rfl rfl rfl (le_ rfl) (dq dk_Flags_difference 27 rfl) h (fun x3 σ2 h => ?_)
  exact ww_iret C hR (dq dk_Flags_difference 28 rfl) h
set_option maxHeartbeats 4000000 in
set_option maxRecDepth 100000 in
theorem c_Flags_difference (v0 : Nat) (ho_v0 : kd v0 = 9) (v1 : Int32) (v2 : Int32) (v3 : Int32) : MI y_Flags_difference rm_Flags_difference prog_3_method_5_code 4 .int (fun a => [.ref (a v0), .int v1, .int v2, .int v3]) (Flags_difference v0 v1 v2 v3) := by
  refine mi_of (by decide) (fun _ => le_ rfl) ?_
  intro k res σ C hR hRm hnL h
  unfold Flags_difference at h
  show WW k 0 [(0, .ref (ad k v0)), (1, .int v1), (2, .int v2), (3, .int v3)] [] σ
  refine ww_aload_n C 0 rfl rfl (dq dk_Flags_difference 0 rfl) ?_
  refine ww_iload_n C 2 rfl rfl (dq dk_Flags_difference 1 rfl) ?_
  refine ww_i2l C (dq dk_Flags_difference 2 rfl) ?_
  refine ww_ldc2 C g_5_152 (dq dk_Flags_difference 3 rfl) ?_
  refine ww_land C (dq dk_Flags_difference 4 rfl) ?_
  refine ww_iload_n C 3 rfl rfl (dq dk_Flags_difference 5 rfl) ?_
  refine ww_i2l C (dq dk_Flags_difference 6 rfl) ?_
  refine ww_ladd C (dq dk_Flags_difference 7 rfl) ?_
  refine ww_iload_n C 1 rfl rfl (dq dk_Flags_difference 8 rfl) ?_
  refine ww_i2l C (dq dk_Flags_difference 9 rfl) ?_
  refine ww_ldc2 C g_5_152 (dq dk_Flags_difference 10 rfl) ?_
  refine ww_land C (dq dk_Flags_difference 11 rfl) ?_
  refine ww_lcmp C (dq dk_Flags_difference 12 rfl) ?_
  refine ww_if_le C 24 (dq dk_Flags_difference 13 rfl) (by decide) h (fun h => ?_) (fun h => ?_)
  · refine ww_iconst C (dq dk_Flags_difference 16 rfl) ic_0 ?_
    exact ww_lv [0, 1, 2, 3] rfl (t_Flags_difference_B25 C hR hRm hnL v0 v1 v2 v3 v0 0 ho_v0 ho_v0 σ h)
  · refine ww_iconst C (dq dk_Flags_difference 14 rfl) ic_1 ?_
    refine ww_goto C 25 (dq dk_Flags_difference 15 rfl) (by decide) ?_
    exact ww_lv [0, 1, 2, 3] rfl (t_Flags_difference_B25 C hR hRm hnL v0 v1 v2 v3 v0 1 ho_v0 ho_v0 σ h)
abbrev y_Flags_logic : MethodName := ⟨"BundleHouse$Flags", "logic", "(III)I"⟩
def dl_Flags_logic : List (Nat × Instr × Nat) := [(0, .aload_n 0, 1), (1, .iconst 0, 1), (2, .putfield 9, 3), (5, .aload_n 0, 1), (6, .iconst 0, 1), (7, .putfield 21, 3), (10, .iload_n 1, 1), (11, .iconst 1, 1), (12, .if_icmp .ne 7, 3), (15, .iload_n 2, 1), (16, .iload_n 3, 1), (17, .ior, 1), (18, .ireturn, 1), (19, .iload_n 1, 1), (20, .bipush 6, 2), (22, .if_icmp .ne 9, 3), (25, .iload_n 2, 1), (26, .iload_n 3, 1), (27, .ixor, 1), (28, .goto 6, 3), (31, .iload_n 2, 1), (32, .iload_n 3, 1), (33, .iand, 1), (34, .ireturn, 1)]
set_option maxRecDepth 100000 in
theorem dk_Flags_logic : ∀ q ∈ dl_Flags_logic, decode prog_3_method_8_code q.1 = .ok q.2 := by decide +kernel
abbrev rm_Flags_logic : Room := { frames := 0, cells := 0, slots := 0, locals := 0 }
theorem cw_Flags_logic : CWV y_Flags_logic prog_3_method_8_code 4 (some .int) 3 := ⟨⟨g_5_172, g_1_10, by decide, by decide, by decide +kernel⟩, g_5_171, gs_4_4⟩
set_option maxHeartbeats 4000000 in
set_option maxRecDepth 100000 in
theorem c_Flags_logic (v0 : Nat) (ho_v0 : kd v0 = 9) (v1 : Int32) (v2 : Int32) (v3 : Int32) : MI y_Flags_logic rm_Flags_logic prog_3_method_8_code 4 .int (fun a => [.ref (a v0), .int v1, .int v2, .int v3]) (Flags_logic v0 v1 v2 v3) := by
  refine mi_of (by decide) (fun _ => le_ rfl) ?_
  intro k res σ C hR hRm hnL h
  unfold Flags_logic at h
  show WW k 0 [(0, .ref (ad k v0)), (1, .int v1), (2, .int v2), (3, .int v3)] [] σ
  refine ww_aload_n C 0 rfl rfl (dq dk_Flags_logic 0 rfl) ?_
  refine ww_iconst C (dq dk_Flags_logic 1 rfl) ic_0 ?_
  refine ww_puti C ko_Flags 0 ho_v0 (lt_ rfl) g_2_47 rfl rfl rfl rfl (dq dk_Flags_logic 2 rfl) h (fun σ1 h => ?_)
  refine ww_aload_n C 0 rfl rfl (dq dk_Flags_logic 3 rfl) ?_
  refine ww_iconst C (dq dk_Flags_logic 4 rfl) ic_0 ?_
  refine ww_puti C ko_Flags 3 ho_v0 (lt_ rfl) g_2_53 rfl rfl rfl rfl (dq dk_Flags_logic 5 rfl) h (fun σ2 h => ?_)
  refine ww_iload_n C 1 rfl rfl (dq dk_Flags_logic 6 rfl) ?_
  refine ww_iconst C (dq dk_Flags_logic 7 rfl) ic_1 ?_
  refine ww_icmp_ne C 19 (dq dk_Flags_logic 8 rfl) (by decide) h (fun h => ?_) (fun h => ?_)
  · refine ww_iload_n C 1 rfl rfl (dq dk_Flags_logic 13 rfl) ?_
    refine ww_bipush C (dq dk_Flags_logic 14 rfl) bp_6 ?_
    refine ww_icmp_ne C 31 (dq dk_Flags_logic 15 rfl) (by decide) h (fun h => ?_) (fun h => ?_)
    · refine ww_iload_n C 2 rfl rfl (dq dk_Flags_logic 20 rfl) ?_
      refine ww_iload_n C 3 rfl rfl (dq dk_Flags_logic 21 rfl) ?_
      refine ww_iand C (dq dk_Flags_logic 22 rfl) ?_
      exact ww_iret C hR (dq dk_Flags_logic 23 rfl) h
    · refine ww_iload_n C 2 rfl rfl (dq dk_Flags_logic 16 rfl) ?_
      refine ww_iload_n C 3 rfl rfl (dq dk_Flags_logic 17 rfl) ?_
      refine ww_ixor C (dq dk_Flags_logic 18 rfl) ?_
      refine ww_goto C 34 (dq dk_Flags_logic 19 rfl) (by decide) ?_
      exact ww_iret C hR (dq dk_Flags_logic 23 rfl) h
  · refine ww_iload_n C 2 rfl rfl (dq dk_Flags_logic 9 rfl) ?_
    refine ww_iload_n C 3 rfl rfl (dq dk_Flags_logic 10 rfl) ?_
    refine ww_ior C (dq dk_Flags_logic 11 rfl) ?_
    exact ww_iret C hR (dq dk_Flags_logic 12 rfl) h
abbrev y_Flags_product : MethodName := ⟨"BundleHouse$Flags", "product", "(II)I"⟩
def dl_Flags_product : List (Nat × Instr × Nat) := [(0, .aload_n 0, 1), (1, .iload_n 1, 1), (2, .i2l, 1), (3, .iload_n 2, 1), (4, .i2l, 1), (5, .lmul, 1), (6, .invokevirtual 43, 3), (9, .istore_n 3, 1), (10, .aload_n 0, 1), (11, .aload_n 0, 1), (12, .getfield 21, 3), (15, .putfield 9, 3), (18, .iload_n 3, 1), (19, .ireturn, 1)]
set_option maxRecDepth 100000 in
theorem dk_Flags_product : ∀ q ∈ dl_Flags_product, decode prog_3_method_6_code q.1 = .ok q.2 := by decide +kernel
abbrev rm_Flags_product : Room := { frames := 1, cells := 0, slots := 0, locals := 22 }
theorem cw_Flags_product : CWV y_Flags_product prog_3_method_6_code 4 (some .int) 2 := ⟨⟨g_5_164, g_1_10, by decide, by decide, by decide +kernel⟩, g_5_163, gs_4_2⟩
set_option maxHeartbeats 4000000 in
set_option maxRecDepth 100000 in
theorem c_Flags_product (v0 : Nat) (ho_v0 : kd v0 = 9) (v1 : Int32) (v2 : Int32) : MI y_Flags_product rm_Flags_product prog_3_method_6_code 4 .int (fun a => [.ref (a v0), .int v1, .int v2]) (Flags_product v0 v1 v2) := by
  refine mi_of (by decide) (fun _ => le_ rfl) ?_
  intro k res σ C hR hRm hnL h
  unfold Flags_product at h
  show WW k 0 [(0, .ref (ad k v0)), (1, .int v1), (2, .int v2)] [] σ
  refine ww_aload_n C 0 rfl rfl (dq dk_Flags_product 0 rfl) ?_
  refine ww_iload_n C 1 rfl rfl (dq dk_Flags_product 1 rfl) ?_
  refine ww_i2l C (dq dk_Flags_product 2 rfl) ?_
  refine ww_iload_n C 2 rfl rfl (dq dk_Flags_product 3 rfl) ?_
  refine ww_i2l C (dq dk_Flags_product 4 rfl) ?_
  refine ww_lmul C (dq dk_Flags_product 5 rfl) ?_
  refine ww_cVi (st := []) C (c_Flags_narrowed v0 ho_v0 ((Int32.toInt64 v1) * (Int32.toInt64 v2))) cw_Flags_narrowed ho_v0 (lt_ rfl) rfl g_5_153 hRm ⟨⟨rfl, rfl⟩, le_ rfl, le_ rfl⟩ rfl rfl rfl (le_ rfl) (dq dk_Flags_product 6 rfl) h (fun x2 σ1 h => ?_)
  refine ww_istore_n C [(3, .int x2), (0, .ref (ad k v0)), (1, .int v1), (2, .int v2)] rfl hnL (lt_ rfl) rfl (dq dk_Flags_product 7 rfl) ?_
  refine ww_aload_n C 1 rfl rfl (dq dk_Flags_product 8 rfl) ?_
  refine ww_aload_n C 1 rfl rfl (dq dk_Flags_product 9 rfl) ?_
  refine ww_geti C ko_Flags 3 ho_v0 (lt_ rfl) g_2_53 rfl rfl (dq dk_Flags_product 10 rfl) ?_
  refine ww_puti C ko_Flags 0 ho_v0 (lt_ rfl) g_2_47 rfl rfl rfl rfl (dq dk_Flags_product 11 rfl) h (fun σ3 h => ?_)
  refine ww_iload_n C 0 rfl rfl (dq dk_Flags_product 12 rfl) ?_
  exact ww_iret C hR (dq dk_Flags_product 13 rfl) h
abbrev y_Flags_shifted : MethodName := ⟨"BundleHouse$Flags", "shifted", "(III)I"⟩
def dl_Flags_shifted : List (Nat × Instr × Nat) := [(0, .iload_n 1, 1), (1, .bipush 14, 2), (3, .if_icmp .ne 37, 3), (6, .iload_n 2, 1), (7, .iload_n 3, 1), (8, .ishl, 1), (9, .istore 4, 2), (11, .aload_n 0, 1), (12, .iload_n 2, 1), (13, .bipush 32, 2), (15, .iload_n 3, 1), (16, .isub, 1), (17, .iushr, 1), (18, .iconst 1, 1), (19, .iand, 1), (20, .putfield 9, 3), (23, .aload_n 0, 1), (24, .iload 4, 2), (26, .bipush 31, 2), (28, .iushr, 1), (29, .aload_n 0, 1), (30, .getfield 9, 3), (33, .ixor, 1), (34, .putfield 21, 3), (37, .iload 4, 2), (39, .ireturn, 1), (40, .aload_n 0, 1), (41, .iload_n 2, 1), (42, .iload_n 3, 1), (43, .iconst 1, 1), (44, .isub, 1), (45, .iushr, 1), (46, .iconst 1, 1), (47, .iand, 1), (48, .putfield 9, 3), (51, .aload_n 0, 1), (52, .iload_n 1, 1), (53, .bipush 15, 2), (55, .if_icmp .ne 10, 3), (58, .iload_n 2, 1), (59, .bipush 31, 2), (61, .iushr, 1), (62, .goto 4, 3), (65, .iconst 0, 1), (66, .putfield 21, 3), (69, .iload_n 1, 1), (70, .bipush 15, 2), (72, .if_icmp .ne 9, 3), (75, .iload_n 2, 1), (76, .iload_n 3, 1), (77, .iushr, 1), (78, .goto 6, 3), (81, .iload_n 2, 1), (82, .iload_n 3, 1), (83, .ishr, 1), (84, .ireturn, 1)]
set_option maxRecDepth 100000 in
theorem dk_Flags_shifted : ∀ q ∈ dl_Flags_shifted, decode prog_3_method_9_code q.1 = .ok q.2 := by decide +kernel
abbrev rm_Flags_shifted : Room := { frames := 0, cells := 0, slots := 0, locals := 0 }
theorem cw_Flags_shifted : CWV y_Flags_shifted prog_3_method_9_code 5 (some .int) 3 := ⟨⟨g_5_168, g_1_10, by decide, by decide, by decide +kernel⟩, g_5_167, gs_4_3⟩
set_option maxHeartbeats 4000000 in
set_option maxRecDepth 100000 in
theorem t_Flags_shifted_B66 {k : Cfg} {res : Int32 × St} (C : Cx k prog_3_method_9_code "BundleHouse$Flags") (hR : RI k .int res) (hRm : k.2.2.2.1 = rm_Flags_shifted) (hnL : k.2.2.2.2.2.2.2.2.2.2.2.1 = 5) (v1 : Int32) (v2 : Int32) (v3 : Int32) (t0 : Nat) (t1 : Int32) (ho_t0 : kd t0 = 9) (σ : St) (h : Flags_shifted_B66 v1 v2 v3 t0 t1 σ = some res) : WW k 66 [(1, .int v1), (2, .int v2), (3, .int v3)] [.int t1, .ref (ad k t0)] σ := by
  unfold Flags_shifted_B66 at h
  refine ww_puti C ko_Flags 3 ho_t0 (lt_ rfl) g_2_53 rfl rfl rfl rfl (dq dk_Flags_shifted 44 rfl) h (fun σ1 h => ?_)
  refine ww_iload_n C 0 rfl rfl (dq dk_Flags_shifted 45 rfl) ?_
  refine ww_bipush C (dq dk_Flags_shifted 46 rfl) bp_15 ?_
  refine ww_icmp_ne C 81 (dq dk_Flags_shifted 47 rfl) (by decide) h (fun h => ?_) (fun h => ?_)
  · refine ww_iload_n C 1 rfl rfl (dq dk_Flags_shifted 52 rfl) ?_
    refine ww_iload_n C 2 rfl rfl (dq dk_Flags_shifted 53 rfl) ?_
    refine ww_ishr C (dq dk_Flags_shifted 54 rfl) ?_
    exact ww_iret C hR (dq dk_Flags_shifted 55 rfl) h
  · refine ww_iload_n C 1 rfl rfl (dq dk_Flags_shifted 48 rfl) ?_
    refine ww_iload_n C 2 rfl rfl (dq dk_Flags_shifted 49 rfl) ?_
    refine ww_iushr C (dq dk_Flags_shifted 50 rfl) ?_
    refine ww_goto C 84 (dq dk_Flags_shifted 51 rfl) (by decide) ?_
    exact ww_iret C hR (dq dk_Flags_shifted 55 rfl) h
set_option maxHeartbeats 4000000 in
set_option maxRecDepth 100000 in
theorem c_Flags_shifted (v0 : Nat) (ho_v0 : kd v0 = 9) (v1 : Int32) (v2 : Int32) (v3 : Int32) : MI y_Flags_shifted rm_Flags_shifted prog_3_method_9_code 5 .int (fun a => [.ref (a v0), .int v1, .int v2, .int v3]) (Flags_shifted v0 v1 v2 v3) := by
  refine mi_of (by decide) (fun _ => le_ rfl) ?_
  intro k res σ C hR hRm hnL h
  unfold Flags_shifted at h
  show WW k 0 [(0, .ref (ad k v0)), (1, .int v1), (2, .int v2), (3, .int v3)] [] σ
  refine ww_iload_n C 1 rfl rfl (dq dk_Flags_shifted 0 rfl) ?_
  refine ww_bipush C (dq dk_Flags_shifted 1 rfl) bp_14 ?_
  refine ww_icmp_ne C 40 (dq dk_Flags_shifted 2 rfl) (by decide) h (fun h => ?_) (fun h => ?_)
  · refine ww_aload_n C 0 rfl rfl (dq dk_Flags_shifted 26 rfl) ?_
    refine ww_iload_n C 2 rfl rfl (dq dk_Flags_shifted 27 rfl) ?_
    refine ww_iload_n C 3 rfl rfl (dq dk_Flags_shifted 28 rfl) ?_
    refine ww_iconst C (dq dk_Flags_shifted 29 rfl) ic_1 ?_
    refine ww_isub C (dq dk_Flags_shifted 30 rfl) ?_
    refine ww_iushr C (dq dk_Flags_shifted 31 rfl) ?_
    refine ww_iconst C (dq dk_Flags_shifted 32 rfl) ic_1 ?_
    refine ww_iand C (dq dk_Flags_shifted 33 rfl) ?_
    refine ww_puti C ko_Flags 0 ho_v0 (lt_ rfl) g_2_47 rfl rfl rfl rfl (dq dk_Flags_shifted 34 rfl) h (fun σ1 h => ?_)
    refine ww_aload_n C 0 rfl rfl (dq dk_Flags_shifted 35 rfl) ?_
    refine ww_iload_n C 1 rfl rfl (dq dk_Flags_shifted 36 rfl) ?_
    refine ww_bipush C (dq dk_Flags_shifted 37 rfl) bp_15 ?_
    refine ww_icmp_ne C 65 (dq dk_Flags_shifted 38 rfl) (by decide) h (fun h => ?_) (fun h => ?_)
    · refine ww_iconst C (dq dk_Flags_shifted 43 rfl) ic_0 ?_
      exact ww_lv [1, 2, 3] rfl (t_Flags_shifted_B66 C hR hRm hnL v1 v2 v3 v0 0 ho_v0 σ1 h)
    · refine ww_iload_n C 2 rfl rfl (dq dk_Flags_shifted 39 rfl) ?_
      refine ww_bipush C (dq dk_Flags_shifted 40 rfl) bp_31 ?_
      refine ww_iushr C (dq dk_Flags_shifted 41 rfl) ?_
      refine ww_goto C 66 (dq dk_Flags_shifted 42 rfl) (by decide) ?_
      exact ww_lv [1, 2, 3] rfl (t_Flags_shifted_B66 C hR hRm hnL v1 v2 v3 v0 (ushr v2 31) ho_v0 σ1 h)
  · refine ww_iload_n C 2 rfl rfl (dq dk_Flags_shifted 3 rfl) ?_
    refine ww_iload_n C 3 rfl rfl (dq dk_Flags_shifted 4 rfl) ?_
    refine ww_ishl C (dq dk_Flags_shifted 5 rfl) ?_
    refine ww_nmi h (fun x2 h => ?_)
    refine ww_istore C [(4, .int x2), (0, .ref (ad k v0)), (1, .int v1), (2, .int v2), (3, .int v3)] hnL (lt_ rfl) rfl (dq dk_Flags_shifted 6 rfl) ?_
    refine ww_aload_n C 1 rfl rfl (dq dk_Flags_shifted 7 rfl) ?_
    refine ww_iload_n C 3 rfl rfl (dq dk_Flags_shifted 8 rfl) ?_
    refine ww_bipush C (dq dk_Flags_shifted 9 rfl) bp_32 ?_
    refine ww_iload_n C 4 rfl rfl (dq dk_Flags_shifted 10 rfl) ?_
    refine ww_isub C (dq dk_Flags_shifted 11 rfl) ?_
    refine ww_iushr C (dq dk_Flags_shifted 12 rfl) ?_
    refine ww_iconst C (dq dk_Flags_shifted 13 rfl) ic_1 ?_
    refine ww_iand C (dq dk_Flags_shifted 14 rfl) ?_
    refine ww_puti C ko_Flags 0 ho_v0 (lt_ rfl) g_2_47 rfl rfl rfl rfl (dq dk_Flags_shifted 15 rfl) h (fun σ3 h => ?_)
    refine ww_aload_n C 1 rfl rfl (dq dk_Flags_shifted 16 rfl) ?_
    refine ww_iload C 0 rfl (dq dk_Flags_shifted 17 rfl) ?_
    refine ww_bipush C (dq dk_Flags_shifted 18 rfl) bp_31 ?_
    refine ww_iushr C (dq dk_Flags_shifted 19 rfl) ?_
    refine ww_aload_n C 1 rfl rfl (dq dk_Flags_shifted 20 rfl) ?_
    refine ww_geti C ko_Flags 0 ho_v0 (lt_ rfl) g_2_47 rfl rfl (dq dk_Flags_shifted 21 rfl) ?_
    refine ww_ixor C (dq dk_Flags_shifted 22 rfl) ?_
    refine ww_puti C ko_Flags 3 ho_v0 (lt_ rfl) g_2_53 rfl rfl rfl rfl (dq dk_Flags_shifted 23 rfl) h (fun σ4 h => ?_)
    refine ww_iload C 0 rfl (dq dk_Flags_shifted 24 rfl) ?_
    exact ww_iret C hR (dq dk_Flags_shifted 25 rfl) h
abbrev y_Flags_sum : MethodName := ⟨"BundleHouse$Flags", "sum", "(III)I"⟩
def dl_Flags_sum : List (Nat × Instr × Nat) := [(0, .aload_n 0, 1), (1, .iload_n 1, 1), (2, .i2l, 1), (3, .ldc2_w 41, 3), (6, .land, 1), (7, .iload_n 2, 1), (8, .i2l, 1), (9, .ldc2_w 41, 3), (12, .land, 1), (13, .ladd, 1), (14, .iload_n 3, 1), (15, .i2l, 1), (16, .ladd, 1), (17, .ldc2_w 41, 3), (20, .lcmp, 1), (21, .ifCond .le 7, 3), (24, .iconst 1, 1), (25, .goto 4, 3), (28, .iconst 0, 1), (29, .putfield 9, 3), (32, .aload_n 0, 1), (33, .iload_n 1, 1), (34, .i2l, 1), (35, .iload_n 2, 1), (36, .i2l, 1), (37, .ladd, 1), (38, .iload_n 3, 1), (39, .i2l, 1), (40, .ladd, 1), (41, .invokevirtual 43, 3), (44, .ireturn, 1)]
set_option maxRecDepth 100000 in
theorem dk_Flags_sum : ∀ q ∈ dl_Flags_sum, decode prog_3_method_4_code q.1 = .ok q.2 := by decide +kernel
abbrev rm_Flags_sum : Room := { frames := 1, cells := 0, slots := 0, locals := 22 }
theorem cw_Flags_sum : CWV y_Flags_sum prog_3_method_4_code 4 (some .int) 3 := ⟨⟨g_5_151, g_1_10, by decide, by decide, by decide +kernel⟩, g_5_150, gs_3_15⟩
set_option maxHeartbeats 4000000 in
set_option maxRecDepth 100000 in
theorem t_Flags_sum_B29 {k : Cfg} {res : Int32 × St} (C : Cx k prog_3_method_4_code "BundleHouse$Flags") (hR : RI k .int res) (hRm : k.2.2.2.1 = rm_Flags_sum) (hnL : k.2.2.2.2.2.2.2.2.2.2.2.1 = 4) (v0 : Nat) (v1 : Int32) (v2 : Int32) (v3 : Int32) (t0 : Nat) (t1 : Int32) (ho_v0 : kd v0 = 9) (ho_t0 : kd t0 = 9) (σ : St) (h : Flags_sum_B29 v0 v1 v2 v3 t0 t1 σ = some res) : WW k 29 [(0, .ref (ad k v0)), (1, .int v1), (2, .int v2), (3, .int v3)] [.int t1, .ref (ad k t0)] σ := by
  unfold Flags_sum_B29 at h
  refine ww_puti C ko_Flags 0 ho_t0 (lt_ rfl) g_2_47 rfl rfl rfl rfl (dq dk_Flags_sum 19 rfl) h (fun σ1 h => ?_)
  refine ww_aload_n C 0 rfl rfl (dq dk_Flags_sum 20 rfl) ?_
  refine ww_iload_n C 1 rfl rfl (dq dk_Flags_sum 21 rfl) ?_
  refine ww_i2l C (dq dk_Flags_sum 22 rfl) ?_
  refine ww_iload_n C 2 rfl rfl (dq dk_Flags_sum 23 rfl) ?_
  refine ww_i2l C (dq dk_Flags_sum 24 rfl) ?_
  refine ww_ladd C (dq dk_Flags_sum 25 rfl) ?_
  refine ww_iload_n C 3 rfl rfl (dq dk_Flags_sum 26 rfl) ?_
  refine ww_i2l C (dq dk_Flags_sum 27 rfl) ?_
  refine ww_ladd C (dq dk_Flags_sum 28 rfl) ?_
  refine ww_cVi (st := []) C (c_Flags_narrowed v0 ho_v0 (((Int32.toInt64 v1) + (Int32.toInt64 v2)) + (Int32.toInt64 v3))) cw_Flags_narrowed ho_v0 (lt_ rfl) rfl g_5_153 hRm ⟨⟨rfl, rfl⟩, le_ rfl, le_ rfl⟩ rfl rfl rfl (le_ rfl) (dq dk_Flags_sum 29 rfl) h (fun x3 σ2 h => ?_)
  exact ww_iret C hR (dq dk_Flags_sum 30 rfl) h
set_option maxHeartbeats 4000000 in
set_option maxRecDepth 100000 in
theorem c_Flags_sum (v0 : Nat) (ho_v0 : kd v0 = 9) (v1 : Int32) (v2 : Int32) (v3 : Int32) : MI y_Flags_sum rm_Flags_sum prog_3_method_4_code 4 .int (fun a => [.ref (a v0), .int v1, .int v2, .int v3]) (Flags_sum v0 v1 v2 v3) := by
  refine mi_of (by decide) (fun _ => le_ rfl) ?_
  intro k res σ C hR hRm hnL h
  unfold Flags_sum at h
  show WW k 0 [(0, .ref (ad k v0)), (1, .int v1), (2, .int v2), (3, .int v3)] [] σ
  refine ww_aload_n C 0 rfl rfl (dq dk_Flags_sum 0 rfl) ?_
  refine ww_iload_n C 1 rfl rfl (dq dk_Flags_sum 1 rfl) ?_
  refine ww_i2l C (dq dk_Flags_sum 2 rfl) ?_
  refine ww_ldc2 C g_5_152 (dq dk_Flags_sum 3 rfl) ?_
  refine ww_land C (dq dk_Flags_sum 4 rfl) ?_
  refine ww_iload_n C 2 rfl rfl (dq dk_Flags_sum 5 rfl) ?_
  refine ww_i2l C (dq dk_Flags_sum 6 rfl) ?_
  refine ww_ldc2 C g_5_152 (dq dk_Flags_sum 7 rfl) ?_
  refine ww_land C (dq dk_Flags_sum 8 rfl) ?_
  refine ww_ladd C (dq dk_Flags_sum 9 rfl) ?_
  refine ww_iload_n C 3 rfl rfl (dq dk_Flags_sum 10 rfl) ?_
  refine ww_i2l C (dq dk_Flags_sum 11 rfl) ?_
  refine ww_ladd C (dq dk_Flags_sum 12 rfl) ?_
  refine ww_ldc2 C g_5_152 (dq dk_Flags_sum 13 rfl) ?_
  refine ww_lcmp C (dq dk_Flags_sum 14 rfl) ?_
  refine ww_if_le C 28 (dq dk_Flags_sum 15 rfl) (by decide) h (fun h => ?_) (fun h => ?_)
  · refine ww_iconst C (dq dk_Flags_sum 18 rfl) ic_0 ?_
    exact ww_lv [0, 1, 2, 3] rfl (t_Flags_sum_B29 C hR hRm hnL v0 v1 v2 v3 v0 0 ho_v0 ho_v0 σ h)
  · refine ww_iconst C (dq dk_Flags_sum 16 rfl) ic_1 ?_
    refine ww_goto C 29 (dq dk_Flags_sum 17 rfl) (by decide) ?_
    exact ww_lv [0, 1, 2, 3] rfl (t_Flags_sum_B29 C hR hRm hnL v0 v1 v2 v3 v0 1 ho_v0 ho_v0 σ h)
abbrev y_Flags_reckon : MethodName := ⟨"BundleHouse$Flags", "reckon", "(III)I"⟩
def dl_Flags_reckon : List (Nat × Instr × Nat) := [(0, .aload_n 0, 1), (1, .getfield 9, 3), (4, .istore 4, 2), (6, .iload_n 2, 1), (7, .istore 5, 2), (9, .iload_n 1, 1), (10, .tableswitch 231 0 18 #[90, 231, 102, 117, 231, 132, 231, 132, 231, 231, 231, 192, 203, 144, 207, 207, 207, 156, 174], 90), (100, .aload_n 0, 1), (101, .iload_n 2, 1), (102, .iload_n 3, 1), (103, .iconst 0, 1), (104, .invokevirtual 24, 3), (107, .istore 5, 2), (109, .goto 141, 3), (112, .aload_n 0, 1), (113, .iload_n 2, 1), (114, .iload_n 3, 1), (115, .aload_n 0, 1), (116, .getfield 9, 3), (119, .invokevirtual 24, 3), (122, .istore 5, 2), (124, .goto 126, 3), (127, .aload_n 0, 1), (128, .iload_n 2, 1), (129, .iload_n 3, 1), (130, .aload_n 0, 1), (131, .getfield 9, 3), (134, .invokevirtual 28, 3), (137, .istore 5, 2), (139, .goto 111, 3), (142, .aload_n 0, 1), (143, .iload_n 2, 1), (144, .iload_n 3, 1), (145, .iconst 0, 1), (146, .invokevirtual 28, 3), (149, .istore 5, 2), (151, .goto 99, 3), (154, .aload_n 0, 1), (155, .iconst 0, 1), (156, .iload_n 2, 1), (157, .iconst 0, 1), (158, .invokevirtual 28, 3), (161, .istore 5, 2), (163, .goto 87, 3), (166, .aload_n 0, 1), (167, .iload_n 2, 1), (168, .iconst 1, 1), (169, .iconst 0, 1), (170, .invokevirtual 24, 3), (173, .istore 5, 2), (175, .aload_n 0, 1), (176, .iload 4, 2), (178, .putfield 9, 3), (181, .goto 69, 3), (184, .aload_n 0, 1), (185, .iload_n 2, 1), (186, .iconst 1, 1), (187, .iconst 0, 1), (188, .invokevirtual 28, 3), (191, .istore 5, 2), (193, .aload_n 0, 1), (194, .iload 4, 2), (196, .putfield 9, 3), (199, .goto 51, 3), (202, .aload_n 0, 1), (203, .iload_n 2, 1), (204, .iload_n 3, 1), (205, .invokevirtual 31, 3), (208, .istore 5, 2), (210, .goto 40, 3), (213, .iload_n 2, 1), (214, .iconst (-1), 1), (215, .ixor, 1), (216, .ireturn, 1), (217, .iload_n 3, 1), (218, .bipush 31, 2), (220, .iand, 1), (221, .ifCond .ne 5, 3), (224, .iload_n 2, 1), (225, .ireturn, 1), (226, .aload_n 0, 1), (227, .iload_n 1, 1), (228, .iload_n 2, 1), (229, .iload_n 3, 1), (230, .bipush 31, 2), (232, .iand, 1), (233, .invokevirtual 35, 3), (236, .istore 5, 2), (238, .goto 12, 3), (241, .aload_n 0, 1), (242, .iload_n 1, 1), (243, .iload_n 2, 1), (244, .iload_n 3, 1), (245, .invokevirtual 38, 3), (248, .istore 5, 2), (250, .aload_n 0, 1), (251, .iload 5, 2), (253, .ifCond .ne 7, 3), (256, .iconst 1, 1), (257, .goto 4, 3), (260, .iconst 0, 1), (261, .putfield 15, 3), (264, .aload_n 0, 1), (265, .iload 5, 2), (267, .ifCond .ge 7, 3), (270, .iconst 1, 1), (271, .goto 4, 3), (274, .iconst 0, 1), (275, .putfield 18, 3), (278, .iload 5, 2), (280, .ireturn, 1)]
set_option maxRecDepth 100000 in
theorem dk_Flags_reckon : ∀ q ∈ dl_Flags_reckon, decode prog_3_method_3_code q.1 = .ok q.2 := by decide +kernel
abbrev rm_Flags_reckon : Room := { frames := 2, cells := 0, slots := 0, locals := 45 }
theorem cw_Flags_reckon : CWV y_Flags_reckon prog_3_method_3_code 6 (some .int) 3 := ⟨⟨g_5_147, g_1_10, by decide, by decide, by decide +kernel⟩, g_5_145, g_5_146⟩
set_option maxHeartbeats 4000000 in
set_option maxRecDepth 100000 in
theorem t_Flags_reckon_B142 {k : Cfg} {res : Int32 × St} (C : Cx k prog_3_method_3_code "BundleHouse$Flags") (hR : RI k .int res) (hRm : k.2.2.2.1 = rm_Flags_reckon) (hnL : k.2.2.2.2.2.2.2.2.2.2.2.1 = 6) (v0 : Nat) (v2 : Int32) (v3 : Int32) (ho_v0 : kd v0 = 9) (σ : St) (h : Flags_reckon_B142 v0 v2 v3 σ = some res) : WW k 142 [(0, .ref (ad k v0)), (2, .int v2), (3, .int v3)] [] σ := by
  unfold Flags_reckon_B142 at h
  refine ww_aload_n C 0 rfl rfl (dq dk_Flags_reckon 30 rfl) ?_
  refine ww_iload_n C 1 rfl rfl (dq dk_Flags_reckon 31 rfl) ?_
  refine ww_iload_n C 2 rfl rfl (dq dk_Flags_reckon 32 rfl) ?_
  refine ww_iconst C (dq dk_Flags_reckon 33 rfl) ic_0 ?_
  refine ww_cVi (st := []) C (c_Flags_difference v0 ho_v0 v2 v3 0) cw_Flags_difference ho_v0 (lt_ rfl) rfl g_5_157 hRm ⟨⟨rfl, rfl⟩, le_ rfl, le_ rfl⟩ rfl rfl rfl (le_ rfl) (dq dk_Flags_reckon 34 rfl) h (fun x2 σ1 h => ?_)
  refine ww_istore C [(5, .int x2), (0, .ref (ad k v0)), (2, .int v2), (3, .int v3)] hnL (lt_ rfl) rfl (dq dk_Flags_reckon 35 rfl) ?_
  refine ww_goto C 250 (dq dk_Flags_reckon 36 rfl) (by decide) ?_
  refine ww_aload_n C 1 rfl rfl (dq dk_Flags_reckon 95 rfl) ?_
  refine ww_iload C 0 rfl (dq dk_Flags_reckon 96 rfl) ?_
  refine ww_if_ne C 260 (dq dk_Flags_reckon 97 rfl) (by decide) h (fun h => ?_) (fun h => ?_)
  · refine ww_iconst C (dq dk_Flags_reckon 100 rfl) ic_0 ?_
    refine ww_puti C ko_Flags 1 ho_v0 (lt_ rfl) g_2_49 rfl rfl rfl rfl (dq dk_Flags_reckon 101 rfl) h (fun σ3 h => ?_)
    refine ww_aload_n C 1 rfl rfl (dq dk_Flags_reckon 102 rfl) ?_
    refine ww_iload C 0 rfl (dq dk_Flags_reckon 103 rfl) ?_
    refine ww_if_ge C 274 (dq dk_Flags_reckon 104 rfl) (by decide) h (fun h => ?_) (fun h => ?_)
    · refine ww_iconst C (dq dk_Flags_reckon 107 rfl) ic_0 ?_
      refine ww_puti C ko_Flags 2 ho_v0 (lt_ rfl) g_2_51 rfl rfl rfl rfl (dq dk_Flags_reckon 108 rfl) h (fun σ4 h => ?_)
      refine ww_iload C 0 rfl (dq dk_Flags_reckon 109 rfl) ?_
      exact ww_iret C hR (dq dk_Flags_reckon 110 rfl) h
    · refine ww_iconst C (dq dk_Flags_reckon 105 rfl) ic_1 ?_
      refine ww_goto C 275 (dq dk_Flags_reckon 106 rfl) (by decide) ?_
      refine ww_puti C ko_Flags 2 ho_v0 (lt_ rfl) g_2_51 rfl rfl rfl rfl (dq dk_Flags_reckon 108 rfl) h (fun σ5 h => ?_)
      refine ww_iload C 0 rfl (dq dk_Flags_reckon 109 rfl) ?_
      exact ww_iret C hR (dq dk_Flags_reckon 110 rfl) h
  · refine ww_iconst C (dq dk_Flags_reckon 98 rfl) ic_1 ?_
    refine ww_goto C 261 (dq dk_Flags_reckon 99 rfl) (by decide) ?_
    refine ww_puti C ko_Flags 1 ho_v0 (lt_ rfl) g_2_49 rfl rfl rfl rfl (dq dk_Flags_reckon 101 rfl) h (fun σ6 h => ?_)
    refine ww_aload_n C 1 rfl rfl (dq dk_Flags_reckon 102 rfl) ?_
    refine ww_iload C 0 rfl (dq dk_Flags_reckon 103 rfl) ?_
    refine ww_if_ge C 274 (dq dk_Flags_reckon 104 rfl) (by decide) h (fun h => ?_) (fun h => ?_)
    · refine ww_iconst C (dq dk_Flags_reckon 107 rfl) ic_0 ?_
      refine ww_puti C ko_Flags 2 ho_v0 (lt_ rfl) g_2_51 rfl rfl rfl rfl (dq dk_Flags_reckon 108 rfl) h (fun σ7 h => ?_)
      refine ww_iload C 0 rfl (dq dk_Flags_reckon 109 rfl) ?_
      exact ww_iret C hR (dq dk_Flags_reckon 110 rfl) h
    · refine ww_iconst C (dq dk_Flags_reckon 105 rfl) ic_1 ?_
      refine ww_goto C 275 (dq dk_Flags_reckon 106 rfl) (by decide) ?_
      refine ww_puti C ko_Flags 2 ho_v0 (lt_ rfl) g_2_51 rfl rfl rfl rfl (dq dk_Flags_reckon 108 rfl) h (fun σ8 h => ?_)
      refine ww_iload C 0 rfl (dq dk_Flags_reckon 109 rfl) ?_
      exact ww_iret C hR (dq dk_Flags_reckon 110 rfl) h
set_option maxHeartbeats 4000000 in
set_option maxRecDepth 100000 in
theorem t_Flags_reckon_B217 {k : Cfg} {res : Int32 × St} (C : Cx k prog_3_method_3_code "BundleHouse$Flags") (hR : RI k .int res) (hRm : k.2.2.2.1 = rm_Flags_reckon) (hnL : k.2.2.2.2.2.2.2.2.2.2.2.1 = 6) (v0 : Nat) (v1 : Int32) (v2 : Int32) (v3 : Int32) (ho_v0 : kd v0 = 9) (σ : St) (h : Flags_reckon_B217 v0 v1 v2 v3 σ = some res) : WW k 217 [(0, .ref (ad k v0)), (1, .int v1), (2, .int v2), (3, .int v3)] [] σ := by
  unfold Flags_reckon_B217 at h
  refine ww_iload_n C 3 rfl rfl (dq dk_Flags_reckon 74 rfl) ?_
  refine ww_bipush C (dq dk_Flags_reckon 75 rfl) bp_31 ?_
  refine ww_iand C (dq dk_Flags_reckon 76 rfl) ?_
  refine ww_if_ne C 226 (dq dk_Flags_reckon 77 rfl) (by decide) h (fun h => ?_) (fun h => ?_)
  · refine ww_aload_n C 0 rfl rfl (dq dk_Flags_reckon 80 rfl) ?_
    refine ww_iload_n C 1 rfl rfl (dq dk_Flags_reckon 81 rfl) ?_
    refine ww_iload_n C 2 rfl rfl (dq dk_Flags_reckon 82 rfl) ?_
    refine ww_iload_n C 3 rfl rfl (dq dk_Flags_reckon 83 rfl) ?_
    refine ww_bipush C (dq dk_Flags_reckon 84 rfl) bp_31 ?_
    refine ww_iand C (dq dk_Flags_reckon 85 rfl) ?_
    refine ww_cVi (st := []) C (c_Flags_shifted v0 ho_v0 v1 v2 (v3 &&& 31)) cw_Flags_shifted ho_v0 (lt_ rfl) rfl g_5_165 hRm ⟨⟨rfl, rfl⟩, le_ rfl, le_ rfl⟩ rfl rfl rfl (le_ rfl) (dq dk_Flags_reckon 86 rfl) h (fun x2 σ1 h => ?_)
    refine ww_istore C [(5, .int x2), (0, .ref (ad k v0)), (1, .int v1), (2, .int v2), (3, .int v3)] hnL (lt_ rfl) rfl (dq dk_Flags_reckon 87 rfl) ?_
    refine ww_goto C 250 (dq dk_Flags_reckon 88 rfl) (by decide) ?_
    refine ww_aload_n C 1 rfl rfl (dq dk_Flags_reckon 95 rfl) ?_
    refine ww_iload C 0 rfl (dq dk_Flags_reckon 96 rfl) ?_
    refine ww_if_ne C 260 (dq dk_Flags_reckon 97 rfl) (by decide) h (fun h => ?_) (fun h => ?_)
    · refine ww_iconst C (dq dk_Flags_reckon 100 rfl) ic_0 ?_
      refine ww_puti C ko_Flags 1 ho_v0 (lt_ rfl) g_2_49 rfl rfl rfl rfl (dq dk_Flags_reckon 101 rfl) h (fun σ3 h => ?_)
      refine ww_aload_n C 1 rfl rfl (dq dk_Flags_reckon 102 rfl) ?_
      refine ww_iload C 0 rfl (dq dk_Flags_reckon 103 rfl) ?_
      refine ww_if_ge C 274 (dq dk_Flags_reckon 104 rfl) (by decide) h (fun h => ?_) (fun h => ?_)
      · refine ww_iconst C (dq dk_Flags_reckon 107 rfl) ic_0 ?_
        refine ww_puti C ko_Flags 2 ho_v0 (lt_ rfl) g_2_51 rfl rfl rfl rfl (dq dk_Flags_reckon 108 rfl) h (fun σ4 h => ?_)
        refine ww_iload C 0 rfl (dq dk_Flags_reckon 109 rfl) ?_
        exact ww_iret C hR (dq dk_Flags_reckon 110 rfl) h
      · refine ww_iconst C (dq dk_Flags_reckon 105 rfl) ic_1 ?_
        refine ww_goto C 275 (dq dk_Flags_reckon 106 rfl) (by decide) ?_
        refine ww_puti C ko_Flags 2 ho_v0 (lt_ rfl) g_2_51 rfl rfl rfl rfl (dq dk_Flags_reckon 108 rfl) h (fun σ5 h => ?_)
        refine ww_iload C 0 rfl (dq dk_Flags_reckon 109 rfl) ?_
        exact ww_iret C hR (dq dk_Flags_reckon 110 rfl) h
    · refine ww_iconst C (dq dk_Flags_reckon 98 rfl) ic_1 ?_
      refine ww_goto C 261 (dq dk_Flags_reckon 99 rfl) (by decide) ?_
      refine ww_puti C ko_Flags 1 ho_v0 (lt_ rfl) g_2_49 rfl rfl rfl rfl (dq dk_Flags_reckon 101 rfl) h (fun σ6 h => ?_)
      refine ww_aload_n C 1 rfl rfl (dq dk_Flags_reckon 102 rfl) ?_
      refine ww_iload C 0 rfl (dq dk_Flags_reckon 103 rfl) ?_
      refine ww_if_ge C 274 (dq dk_Flags_reckon 104 rfl) (by decide) h (fun h => ?_) (fun h => ?_)
      · refine ww_iconst C (dq dk_Flags_reckon 107 rfl) ic_0 ?_
        refine ww_puti C ko_Flags 2 ho_v0 (lt_ rfl) g_2_51 rfl rfl rfl rfl (dq dk_Flags_reckon 108 rfl) h (fun σ7 h => ?_)
        refine ww_iload C 0 rfl (dq dk_Flags_reckon 109 rfl) ?_
        exact ww_iret C hR (dq dk_Flags_reckon 110 rfl) h
      · refine ww_iconst C (dq dk_Flags_reckon 105 rfl) ic_1 ?_
        refine ww_goto C 275 (dq dk_Flags_reckon 106 rfl) (by decide) ?_
        refine ww_puti C ko_Flags 2 ho_v0 (lt_ rfl) g_2_51 rfl rfl rfl rfl (dq dk_Flags_reckon 108 rfl) h (fun σ8 h => ?_)
        refine ww_iload C 0 rfl (dq dk_Flags_reckon 109 rfl) ?_
        exact ww_iret C hR (dq dk_Flags_reckon 110 rfl) h
  · refine ww_iload_n C 2 rfl rfl (dq dk_Flags_reckon 78 rfl) ?_
    exact ww_iret C hR (dq dk_Flags_reckon 79 rfl) h
set_option maxHeartbeats 4000000 in
set_option maxRecDepth 100000 in
theorem t_Flags_reckon_B241 {k : Cfg} {res : Int32 × St} (C : Cx k prog_3_method_3_code "BundleHouse$Flags") (hR : RI k .int res) (hRm : k.2.2.2.1 = rm_Flags_reckon) (hnL : k.2.2.2.2.2.2.2.2.2.2.2.1 = 6) (v0 : Nat) (v1 : Int32) (v2 : Int32) (v3 : Int32) (ho_v0 : kd v0 = 9) (σ : St) (h : Flags_reckon_B241 v0 v1 v2 v3 σ = some res) : WW k 241 [(0, .ref (ad k v0)), (1, .int v1), (2, .int v2), (3, .int v3)] [] σ := by
  unfold Flags_reckon_B241 at h
  refine ww_aload_n C 0 rfl rfl (dq dk_Flags_reckon 89 rfl) ?_
  refine ww_iload_n C 1 rfl rfl (dq dk_Flags_reckon 90 rfl) ?_
  refine ww_iload_n C 2 rfl rfl (dq dk_Flags_reckon 91 rfl) ?_
  refine ww_iload_n C 3 rfl rfl (dq dk_Flags_reckon 92 rfl) ?_
  refine ww_cVi (st := []) C (c_Flags_logic v0 ho_v0 v1 v2 v3) cw_Flags_logic ho_v0 (lt_ rfl) rfl g_5_169 hRm ⟨⟨rfl, rfl⟩, le_ rfl, le_ rfl⟩ rfl rfl rfl (le_ rfl) (dq dk_Flags_reckon 93 rfl) h (fun x2 σ1 h => ?_)
  refine ww_istore C [(5, .int x2), (0, .ref (ad k v0)), (1, .int v1), (2, .int v2), (3, .int v3)] hnL (lt_ rfl) rfl (dq dk_Flags_reckon 94 rfl) ?_
  refine ww_aload_n C 1 rfl rfl (dq dk_Flags_reckon 95 rfl) ?_
  refine ww_iload C 0 rfl (dq dk_Flags_reckon 96 rfl) ?_
  refine ww_if_ne C 260 (dq dk_Flags_reckon 97 rfl) (by decide) h (fun h => ?_) (fun h => ?_)
  · refine ww_iconst C (dq dk_Flags_reckon 100 rfl) ic_0 ?_
    refine ww_puti C ko_Flags 1 ho_v0 (lt_ rfl) g_2_49 rfl rfl rfl rfl (dq dk_Flags_reckon 101 rfl) h (fun σ3 h => ?_)
    refine ww_aload_n C 1 rfl rfl (dq dk_Flags_reckon 102 rfl) ?_
    refine ww_iload C 0 rfl (dq dk_Flags_reckon 103 rfl) ?_
    refine ww_if_ge C 274 (dq dk_Flags_reckon 104 rfl) (by decide) h (fun h => ?_) (fun h => ?_)
    · refine ww_iconst C (dq dk_Flags_reckon 107 rfl) ic_0 ?_
      refine ww_puti C ko_Flags 2 ho_v0 (lt_ rfl) g_2_51 rfl rfl rfl rfl (dq dk_Flags_reckon 108 rfl) h (fun σ4 h => ?_)
      refine ww_iload C 0 rfl (dq dk_Flags_reckon 109 rfl) ?_
      exact ww_iret C hR (dq dk_Flags_reckon 110 rfl) h
    · refine ww_iconst C (dq dk_Flags_reckon 105 rfl) ic_1 ?_
      refine ww_goto C 275 (dq dk_Flags_reckon 106 rfl) (by decide) ?_
      refine ww_puti C ko_Flags 2 ho_v0 (lt_ rfl) g_2_51 rfl rfl rfl rfl (dq dk_Flags_reckon 108 rfl) h (fun σ5 h => ?_)
      refine ww_iload C 0 rfl (dq dk_Flags_reckon 109 rfl) ?_
      exact ww_iret C hR (dq dk_Flags_reckon 110 rfl) h
  · refine ww_iconst C (dq dk_Flags_reckon 98 rfl) ic_1 ?_
    refine ww_goto C 261 (dq dk_Flags_reckon 99 rfl) (by decide) ?_
    refine ww_puti C ko_Flags 1 ho_v0 (lt_ rfl) g_2_49 rfl rfl rfl rfl (dq dk_Flags_reckon 101 rfl) h (fun σ6 h => ?_)
    refine ww_aload_n C 1 rfl rfl (dq dk_Flags_reckon 102 rfl) ?_
    refine ww_iload C 0 rfl (dq dk_Flags_reckon 103 rfl) ?_
    refine ww_if_ge C 274 (dq dk_Flags_reckon 104 rfl) (by decide) h (fun h => ?_) (fun h => ?_)
    · refine ww_iconst C (dq dk_Flags_reckon 107 rfl) ic_0 ?_
      refine ww_puti C ko_Flags 2 ho_v0 (lt_ rfl) g_2_51 rfl rfl rfl rfl (dq dk_Flags_reckon 108 rfl) h (fun σ7 h => ?_)
      refine ww_iload C 0 rfl (dq dk_Flags_reckon 109 rfl) ?_
      exact ww_iret C hR (dq dk_Flags_reckon 110 rfl) h
    · refine ww_iconst C (dq dk_Flags_reckon 105 rfl) ic_1 ?_
      refine ww_goto C 275 (dq dk_Flags_reckon 106 rfl) (by decide) ?_
      refine ww_puti C ko_Flags 2 ho_v0 (lt_ rfl) g_2_51 rfl rfl rfl rfl (dq dk_Flags_reckon 108 rfl) h (fun σ8 h => ?_)
      refine ww_iload C 0 rfl (dq dk_Flags_reckon 109 rfl) ?_
      exact ww_iret C hR (dq dk_Flags_reckon 110 rfl) h
set_option maxHeartbeats 4000000 in
set_option maxRecDepth 100000 in
theorem c_Flags_reckon (v0 : Nat) (ho_v0 : kd v0 = 9) (v1 : Int32) (v2 : Int32) (v3 : Int32) : MI y_Flags_reckon rm_Flags_reckon prog_3_method_3_code 6 .int (fun a => [.ref (a v0), .int v1, .int v2, .int v3]) (Flags_reckon v0 v1 v2 v3) := by
  refine mi_of (by decide) (fun _ => le_ rfl) ?_
  intro k res σ C hR hRm hnL h
  unfold Flags_reckon at h
  show WW k 0 [(0, .ref (ad k v0)), (1, .int v1), (2, .int v2), (3, .int v3)] [] σ
  refine ww_aload_n C 0 rfl rfl (dq dk_Flags_reckon 0 rfl) ?_
  refine ww_geti C ko_Flags 0 ho_v0 (lt_ rfl) g_2_47 rfl rfl (dq dk_Flags_reckon 1 rfl) ?_
  refine ww_nmi h (fun x1 h => ?_)
  refine ww_istore C [(4, .int x1), (0, .ref (ad k v0)), (1, .int v1), (2, .int v2), (3, .int v3)] hnL (lt_ rfl) rfl (dq dk_Flags_reckon 2 rfl) ?_
  refine ww_iload_n C 3 rfl rfl (dq dk_Flags_reckon 3 rfl) ?_
  refine ww_istore C [(5, .int v2), (4, .int x1), (0, .ref (ad k v0)), (1, .int v1), (2, .int v2), (3, .int v3)] hnL (lt_ rfl) rfl (dq dk_Flags_reckon 4 rfl) ?_
  refine ww_iload_n C 3 rfl rfl (dq dk_Flags_reckon 5 rfl) ?_
  by_cases e0_0 : v1 = 0
  · rw [if_pos e0_0] at h
    refine ww_tabIn C 100 (dq dk_Flags_reckon 6 rfl) (by rw [e0_0]; decide) (by rw [e0_0]; decide) (by rw [e0_0]; rfl) (by decide) ?_
    refine ww_aload_n C 2 rfl rfl (dq dk_Flags_reckon 7 rfl) ?_
    refine ww_iload_n C 4 rfl rfl (dq dk_Flags_reckon 8 rfl) ?_
    refine ww_iload_n C 5 rfl rfl (dq dk_Flags_reckon 9 rfl) ?_
    refine ww_iconst C (dq dk_Flags_reckon 10 rfl) ic_0 ?_
    refine ww_cVi (st := []) C (c_Flags_sum v0 ho_v0 v2 v3 0) cw_Flags_sum ho_v0 (lt_ rfl) rfl g_5_148 hRm ⟨⟨rfl, rfl⟩, le_ rfl, le_ rfl⟩ rfl rfl rfl (le_ rfl) (dq dk_Flags_reckon 11 rfl) h (fun x3 σ2 h => ?_)
    refine ww_istore C [(5, .int x3), (4, .int x1), (0, .ref (ad k v0)), (1, .int v1), (2, .int v2), (3, .int v3)] hnL (lt_ rfl) rfl (dq dk_Flags_reckon 12 rfl) ?_
    refine ww_goto C 250 (dq dk_Flags_reckon 13 rfl) (by decide) ?_
    refine ww_aload_n C 2 rfl rfl (dq dk_Flags_reckon 95 rfl) ?_
    refine ww_iload C 0 rfl (dq dk_Flags_reckon 96 rfl) ?_
    refine ww_if_ne C 260 (dq dk_Flags_reckon 97 rfl) (by decide) h (fun h => ?_) (fun h => ?_)
    · refine ww_iconst C (dq dk_Flags_reckon 100 rfl) ic_0 ?_
      refine ww_puti C ko_Flags 1 ho_v0 (lt_ rfl) g_2_49 rfl rfl rfl rfl (dq dk_Flags_reckon 101 rfl) h (fun σ4 h => ?_)
      refine ww_aload_n C 2 rfl rfl (dq dk_Flags_reckon 102 rfl) ?_
      refine ww_iload C 0 rfl (dq dk_Flags_reckon 103 rfl) ?_
      refine ww_if_ge C 274 (dq dk_Flags_reckon 104 rfl) (by decide) h (fun h => ?_) (fun h => ?_)
      · refine ww_iconst C (dq dk_Flags_reckon 107 rfl) ic_0 ?_
        refine ww_puti C ko_Flags 2 ho_v0 (lt_ rfl) g_2_51 rfl rfl rfl rfl (dq dk_Flags_reckon 108 rfl) h (fun σ5 h => ?_)
        refine ww_iload C 0 rfl (dq dk_Flags_reckon 109 rfl) ?_
        exact ww_iret C hR (dq dk_Flags_reckon 110 rfl) h
      · refine ww_iconst C (dq dk_Flags_reckon 105 rfl) ic_1 ?_
        refine ww_goto C 275 (dq dk_Flags_reckon 106 rfl) (by decide) ?_
        refine ww_puti C ko_Flags 2 ho_v0 (lt_ rfl) g_2_51 rfl rfl rfl rfl (dq dk_Flags_reckon 108 rfl) h (fun σ6 h => ?_)
        refine ww_iload C 0 rfl (dq dk_Flags_reckon 109 rfl) ?_
        exact ww_iret C hR (dq dk_Flags_reckon 110 rfl) h
    · refine ww_iconst C (dq dk_Flags_reckon 98 rfl) ic_1 ?_
      refine ww_goto C 261 (dq dk_Flags_reckon 99 rfl) (by decide) ?_
      refine ww_puti C ko_Flags 1 ho_v0 (lt_ rfl) g_2_49 rfl rfl rfl rfl (dq dk_Flags_reckon 101 rfl) h (fun σ7 h => ?_)
      refine ww_aload_n C 2 rfl rfl (dq dk_Flags_reckon 102 rfl) ?_
      refine ww_iload C 0 rfl (dq dk_Flags_reckon 103 rfl) ?_
      refine ww_if_ge C 274 (dq dk_Flags_reckon 104 rfl) (by decide) h (fun h => ?_) (fun h => ?_)
      · refine ww_iconst C (dq dk_Flags_reckon 107 rfl) ic_0 ?_
        refine ww_puti C ko_Flags 2 ho_v0 (lt_ rfl) g_2_51 rfl rfl rfl rfl (dq dk_Flags_reckon 108 rfl) h (fun σ8 h => ?_)
        refine ww_iload C 0 rfl (dq dk_Flags_reckon 109 rfl) ?_
        exact ww_iret C hR (dq dk_Flags_reckon 110 rfl) h
      · refine ww_iconst C (dq dk_Flags_reckon 105 rfl) ic_1 ?_
        refine ww_goto C 275 (dq dk_Flags_reckon 106 rfl) (by decide) ?_
        refine ww_puti C ko_Flags 2 ho_v0 (lt_ rfl) g_2_51 rfl rfl rfl rfl (dq dk_Flags_reckon 108 rfl) h (fun σ9 h => ?_)
        refine ww_iload C 0 rfl (dq dk_Flags_reckon 109 rfl) ?_
        exact ww_iret C hR (dq dk_Flags_reckon 110 rfl) h
  rw [if_neg e0_0] at h
  by_cases e1_1 : v1 = 1
  · rw [if_pos e1_1] at h
    refine ww_tabIn C 241 (dq dk_Flags_reckon 6 rfl) (by rw [e1_1]; decide) (by rw [e1_1]; decide) (by rw [e1_1]; rfl) (by decide) ?_
    exact ww_lv [2, 3, 4, 5] rfl (t_Flags_reckon_B241 C hR hRm hnL v0 v1 v2 v3 ho_v0 σ h)
  rw [if_neg e1_1] at h
  by_cases e2_2 : v1 = 2
  · rw [if_pos e2_2] at h
    refine ww_tabIn C 112 (dq dk_Flags_reckon 6 rfl) (by rw [e2_2]; decide) (by rw [e2_2]; decide) (by rw [e2_2]; rfl) (by decide) ?_
    refine ww_aload_n C 2 rfl rfl (dq dk_Flags_reckon 14 rfl) ?_
    refine ww_iload_n C 4 rfl rfl (dq dk_Flags_reckon 15 rfl) ?_
    refine ww_iload_n C 5 rfl rfl (dq dk_Flags_reckon 16 rfl) ?_
    refine ww_aload_n C 2 rfl rfl (dq dk_Flags_reckon 17 rfl) ?_
    refine ww_geti C ko_Flags 0 ho_v0 (lt_ rfl) g_2_47 rfl rfl (dq dk_Flags_reckon 18 rfl) ?_
    refine ww_cVi (st := []) C (c_Flags_sum v0 ho_v0 v2 v3 (σ v0 0)) cw_Flags_sum ho_v0 (lt_ rfl) rfl g_5_148 hRm ⟨⟨rfl, rfl⟩, le_ rfl, le_ rfl⟩ rfl rfl rfl (le_ rfl) (dq dk_Flags_reckon 19 rfl) h (fun x11 σ10 h => ?_)
    refine ww_istore C [(5, .int x11), (4, .int x1), (0, .ref (ad k v0)), (1, .int v1), (2, .int v2), (3, .int v3)] hnL (lt_ rfl) rfl (dq dk_Flags_reckon 20 rfl) ?_
    refine ww_goto C 250 (dq dk_Flags_reckon 21 rfl) (by decide) ?_
    refine ww_aload_n C 2 rfl rfl (dq dk_Flags_reckon 95 rfl) ?_
    refine ww_iload C 0 rfl (dq dk_Flags_reckon 96 rfl) ?_
    refine ww_if_ne C 260 (dq dk_Flags_reckon 97 rfl) (by decide) h (fun h => ?_) (fun h => ?_)
    · refine ww_iconst C (dq dk_Flags_reckon 100 rfl) ic_0 ?_
      refine ww_puti C ko_Flags 1 ho_v0 (lt_ rfl) g_2_49 rfl rfl rfl rfl (dq dk_Flags_reckon 101 rfl) h (fun σ12 h => ?_)
      refine ww_aload_n C 2 rfl rfl (dq dk_Flags_reckon 102 rfl) ?_
      refine ww_iload C 0 rfl (dq dk_Flags_reckon 103 rfl) ?_
      refine ww_if_ge C 274 (dq dk_Flags_reckon 104 rfl) (by decide) h (fun h => ?_) (fun h => ?_)
      · refine ww_iconst C (dq dk_Flags_reckon 107 rfl) ic_0 ?_
        refine ww_puti C ko_Flags 2 ho_v0 (lt_ rfl) g_2_51 rfl rfl rfl rfl (dq dk_Flags_reckon 108 rfl) h (fun σ13 h => ?_)
        refine ww_iload C 0 rfl (dq dk_Flags_reckon 109 rfl) ?_
        exact ww_iret C hR (dq dk_Flags_reckon 110 rfl) h
      · refine ww_iconst C (dq dk_Flags_reckon 105 rfl) ic_1 ?_
        refine ww_goto C 275 (dq dk_Flags_reckon 106 rfl) (by decide) ?_
        refine ww_puti C ko_Flags 2 ho_v0 (lt_ rfl) g_2_51 rfl rfl rfl rfl (dq dk_Flags_reckon 108 rfl) h (fun σ14 h => ?_)
        refine ww_iload C 0 rfl (dq dk_Flags_reckon 109 rfl) ?_
        exact ww_iret C hR (dq dk_Flags_reckon 110 rfl) h
    · refine ww_iconst C (dq dk_Flags_reckon 98 rfl) ic_1 ?_
      refine ww_goto C 261 (dq dk_Flags_reckon 99 rfl) (by decide) ?_
      refine ww_puti C ko_Flags 1 ho_v0 (lt_ rfl) g_2_49 rfl rfl rfl rfl (dq dk_Flags_reckon 101 rfl) h (fun σ15 h => ?_)
      refine ww_aload_n C 2 rfl rfl (dq dk_Flags_reckon 102 rfl) ?_
      refine ww_iload C 0 rfl (dq dk_Flags_reckon 103 rfl) ?_
      refine ww_if_ge C 274 (dq dk_Flags_reckon 104 rfl) (by decide) h (fun h => ?_) (fun h => ?_)
      · refine ww_iconst C (dq dk_Flags_reckon 107 rfl) ic_0 ?_
        refine ww_puti C ko_Flags 2 ho_v0 (lt_ rfl) g_2_51 rfl rfl rfl rfl (dq dk_Flags_reckon 108 rfl) h (fun σ16 h => ?_)
        refine ww_iload C 0 rfl (dq dk_Flags_reckon 109 rfl) ?_
        exact ww_iret C hR (dq dk_Flags_reckon 110 rfl) h
      · refine ww_iconst C (dq dk_Flags_reckon 105 rfl) ic_1 ?_
        refine ww_goto C 275 (dq dk_Flags_reckon 106 rfl) (by decide) ?_
        refine ww_puti C ko_Flags 2 ho_v0 (lt_ rfl) g_2_51 rfl rfl rfl rfl (dq dk_Flags_reckon 108 rfl) h (fun σ17 h => ?_)
        refine ww_iload C 0 rfl (dq dk_Flags_reckon 109 rfl) ?_
        exact ww_iret C hR (dq dk_Flags_reckon 110 rfl) h
  rw [if_neg e2_2] at h
  by_cases e3_3 : v1 = 3
  · rw [if_pos e3_3] at h
    refine ww_tabIn C 127 (dq dk_Flags_reckon 6 rfl) (by rw [e3_3]; decide) (by rw [e3_3]; decide) (by rw [e3_3]; rfl) (by decide) ?_
    refine ww_aload_n C 2 rfl rfl (dq dk_Flags_reckon 22 rfl) ?_
    refine ww_iload_n C 4 rfl rfl (dq dk_Flags_reckon 23 rfl) ?_
    refine ww_iload_n C 5 rfl rfl (dq dk_Flags_reckon 24 rfl) ?_
    refine ww_aload_n C 2 rfl rfl (dq dk_Flags_reckon 25 rfl) ?_
    refine ww_geti C ko_Flags 0 ho_v0 (lt_ rfl) g_2_47 rfl rfl (dq dk_Flags_reckon 26 rfl) ?_
    refine ww_cVi (st := []) C (c_Flags_difference v0 ho_v0 v2 v3 (σ v0 0)) cw_Flags_difference ho_v0 (lt_ rfl) rfl g_5_157 hRm ⟨⟨rfl, rfl⟩, le_ rfl, le_ rfl⟩ rfl rfl rfl (le_ rfl) (dq dk_Flags_reckon 27 rfl) h (fun x19 σ18 h => ?_)
    refine ww_istore C [(5, .int x19), (4, .int x1), (0, .ref (ad k v0)), (1, .int v1), (2, .int v2), (3, .int v3)] hnL (lt_ rfl) rfl (dq dk_Flags_reckon 28 rfl) ?_
    refine ww_goto C 250 (dq dk_Flags_reckon 29 rfl) (by decide) ?_
    refine ww_aload_n C 2 rfl rfl (dq dk_Flags_reckon 95 rfl) ?_
    refine ww_iload C 0 rfl (dq dk_Flags_reckon 96 rfl) ?_
    refine ww_if_ne C 260 (dq dk_Flags_reckon 97 rfl) (by decide) h (fun h => ?_) (fun h => ?_)
    · refine ww_iconst C (dq dk_Flags_reckon 100 rfl) ic_0 ?_
      refine ww_puti C ko_Flags 1 ho_v0 (lt_ rfl) g_2_49 rfl rfl rfl rfl (dq dk_Flags_reckon 101 rfl) h (fun σ20 h => ?_)
      refine ww_aload_n C 2 rfl rfl (dq dk_Flags_reckon 102 rfl) ?_
      refine ww_iload C 0 rfl (dq dk_Flags_reckon 103 rfl) ?_
      refine ww_if_ge C 274 (dq dk_Flags_reckon 104 rfl) (by decide) h (fun h => ?_) (fun h => ?_)
      · refine ww_iconst C (dq dk_Flags_reckon 107 rfl) ic_0 ?_
        refine ww_puti C ko_Flags 2 ho_v0 (lt_ rfl) g_2_51 rfl rfl rfl rfl (dq dk_Flags_reckon 108 rfl) h (fun σ21 h => ?_)
        refine ww_iload C 0 rfl (dq dk_Flags_reckon 109 rfl) ?_
        exact ww_iret C hR (dq dk_Flags_reckon 110 rfl) h
      · refine ww_iconst C (dq dk_Flags_reckon 105 rfl) ic_1 ?_
        refine ww_goto C 275 (dq dk_Flags_reckon 106 rfl) (by decide) ?_
        refine ww_puti C ko_Flags 2 ho_v0 (lt_ rfl) g_2_51 rfl rfl rfl rfl (dq dk_Flags_reckon 108 rfl) h (fun σ22 h => ?_)
        refine ww_iload C 0 rfl (dq dk_Flags_reckon 109 rfl) ?_
        exact ww_iret C hR (dq dk_Flags_reckon 110 rfl) h
    · refine ww_iconst C (dq dk_Flags_reckon 98 rfl) ic_1 ?_
      refine ww_goto C 261 (dq dk_Flags_reckon 99 rfl) (by decide) ?_
      refine ww_puti C ko_Flags 1 ho_v0 (lt_ rfl) g_2_49 rfl rfl rfl rfl (dq dk_Flags_reckon 101 rfl) h (fun σ23 h => ?_)
      refine ww_aload_n C 2 rfl rfl (dq dk_Flags_reckon 102 rfl) ?_
      refine ww_iload C 0 rfl (dq dk_Flags_reckon 103 rfl) ?_
      refine ww_if_ge C 274 (dq dk_Flags_reckon 104 rfl) (by decide) h (fun h => ?_) (fun h => ?_)
      · refine ww_iconst C (dq dk_Flags_reckon 107 rfl) ic_0 ?_
        refine ww_puti C ko_Flags 2 ho_v0 (lt_ rfl) g_2_51 rfl rfl rfl rfl (dq dk_Flags_reckon 108 rfl) h (fun σ24 h => ?_)
        refine ww_iload C 0 rfl (dq dk_Flags_reckon 109 rfl) ?_
        exact ww_iret C hR (dq dk_Flags_reckon 110 rfl) h
      · refine ww_iconst C (dq dk_Flags_reckon 105 rfl) ic_1 ?_
        refine ww_goto C 275 (dq dk_Flags_reckon 106 rfl) (by decide) ?_
        refine ww_puti C ko_Flags 2 ho_v0 (lt_ rfl) g_2_51 rfl rfl rfl rfl (dq dk_Flags_reckon 108 rfl) h (fun σ25 h => ?_)
        refine ww_iload C 0 rfl (dq dk_Flags_reckon 109 rfl) ?_
        exact ww_iret C hR (dq dk_Flags_reckon 110 rfl) h
  rw [if_neg e3_3] at h
  by_cases e4_4 : v1 = 4
  · rw [if_pos e4_4] at h
    refine ww_tabIn C 241 (dq dk_Flags_reckon 6 rfl) (by rw [e4_4]; decide) (by rw [e4_4]; decide) (by rw [e4_4]; rfl) (by decide) ?_
    exact ww_lv [2, 3, 4, 5] rfl (t_Flags_reckon_B241 C hR hRm hnL v0 v1 v2 v3 ho_v0 σ h)
  rw [if_neg e4_4] at h
  by_cases e5_5 : v1 = 5
  · rw [if_pos e5_5] at h
    refine ww_tabIn C 142 (dq dk_Flags_reckon 6 rfl) (by rw [e5_5]; decide) (by rw [e5_5]; decide) (by rw [e5_5]; rfl) (by decide) ?_
    exact ww_lv [2, 4, 5] rfl (t_Flags_reckon_B142 C hR hRm hnL v0 v2 v3 ho_v0 σ h)
  rw [if_neg e5_5] at h
  by_cases e6_6 : v1 = 6
  · rw [if_pos e6_6] at h
    refine ww_tabIn C 241 (dq dk_Flags_reckon 6 rfl) (by rw [e6_6]; decide) (by rw [e6_6]; decide) (by rw [e6_6]; rfl) (by decide) ?_
    exact ww_lv [2, 3, 4, 5] rfl (t_Flags_reckon_B241 C hR hRm hnL v0 v1 v2 v3 ho_v0 σ h)
  rw [if_neg e6_6] at h
  by_cases e7_7 : v1 = 7
  · rw [if_pos e7_7] at h
    refine ww_tabIn C 142 (dq dk_Flags_reckon 6 rfl) (by rw [e7_7]; decide) (by rw [e7_7]; decide) (by rw [e7_7]; rfl) (by decide) ?_
    exact ww_lv [2, 4, 5] rfl (t_Flags_reckon_B142 C hR hRm hnL v0 v2 v3 ho_v0 σ h)
  rw [if_neg e7_7] at h
  by_cases e8_8 : v1 = 8
  · rw [if_pos e8_8] at h
    refine ww_tabIn C 241 (dq dk_Flags_reckon 6 rfl) (by rw [e8_8]; decide) (by rw [e8_8]; decide) (by rw [e8_8]; rfl) (by decide) ?_
    exact ww_lv [2, 3, 4, 5] rfl (t_Flags_reckon_B241 C hR hRm hnL v0 v1 v2 v3 ho_v0 σ h)
  rw [if_neg e8_8] at h
  by_cases e9_9 : v1 = 9
  · rw [if_pos e9_9] at h
    refine ww_tabIn C 241 (dq dk_Flags_reckon 6 rfl) (by rw [e9_9]; decide) (by rw [e9_9]; decide) (by rw [e9_9]; rfl) (by decide) ?_
    exact ww_lv [2, 3, 4, 5] rfl (t_Flags_reckon_B241 C hR hRm hnL v0 v1 v2 v3 ho_v0 σ h)
  rw [if_neg e9_9] at h
  by_cases e10_10 : v1 = 10
  · rw [if_pos e10_10] at h
    refine ww_tabIn C 241 (dq dk_Flags_reckon 6 rfl) (by rw [e10_10]; decide) (by rw [e10_10]; decide) (by rw [e10_10]; rfl) (by decide) ?_
    exact ww_lv [2, 3, 4, 5] rfl (t_Flags_reckon_B241 C hR hRm hnL v0 v1 v2 v3 ho_v0 σ h)
  rw [if_neg e10_10] at h
  by_cases e11_11 : v1 = 11
  · rw [if_pos e11_11] at h
    refine ww_tabIn C 202 (dq dk_Flags_reckon 6 rfl) (by rw [e11_11]; decide) (by rw [e11_11]; decide) (by rw [e11_11]; rfl) (by decide) ?_
    refine ww_aload_n C 2 rfl rfl (dq dk_Flags_reckon 64 rfl) ?_
    refine ww_iload_n C 4 rfl rfl (dq dk_Flags_reckon 65 rfl) ?_
    refine ww_iload_n C 5 rfl rfl (dq dk_Flags_reckon 66 rfl) ?_
    refine ww_cVi (st := []) C (c_Flags_product v0 ho_v0 v2 v3) cw_Flags_product ho_v0 (lt_ rfl) rfl g_5_161 hRm ⟨⟨rfl, rfl⟩, le_ rfl, le_ rfl⟩ rfl rfl rfl (le_ rfl) (dq dk_Flags_reckon 67 rfl) h (fun x27 σ26 h => ?_)
    refine ww_istore C [(5, .int x27), (4, .int x1), (0, .ref (ad k v0)), (1, .int v1), (2, .int v2), (3, .int v3)] hnL (lt_ rfl) rfl (dq dk_Flags_reckon 68 rfl) ?_
    refine ww_goto C 250 (dq dk_Flags_reckon 69 rfl) (by decide) ?_
    refine ww_aload_n C 2 rfl rfl (dq dk_Flags_reckon 95 rfl) ?_
    refine ww_iload C 0 rfl (dq dk_Flags_reckon 96 rfl) ?_
    refine ww_if_ne C 260 (dq dk_Flags_reckon 97 rfl) (by decide) h (fun h => ?_) (fun h => ?_)
    · refine ww_iconst C (dq dk_Flags_reckon 100 rfl) ic_0 ?_
      refine ww_puti C ko_Flags 1 ho_v0 (lt_ rfl) g_2_49 rfl rfl rfl rfl (dq dk_Flags_reckon 101 rfl) h (fun σ28 h => ?_)
      refine ww_aload_n C 2 rfl rfl (dq dk_Flags_reckon 102 rfl) ?_
      refine ww_iload C 0 rfl (dq dk_Flags_reckon 103 rfl) ?_
      refine ww_if_ge C 274 (dq dk_Flags_reckon 104 rfl) (by decide) h (fun h => ?_) (fun h => ?_)
      · refine ww_iconst C (dq dk_Flags_reckon 107 rfl) ic_0 ?_
        refine ww_puti C ko_Flags 2 ho_v0 (lt_ rfl) g_2_51 rfl rfl rfl rfl (dq dk_Flags_reckon 108 rfl) h (fun σ29 h => ?_)
        refine ww_iload C 0 rfl (dq dk_Flags_reckon 109 rfl) ?_
        exact ww_iret C hR (dq dk_Flags_reckon 110 rfl) h
      · refine ww_iconst C (dq dk_Flags_reckon 105 rfl) ic_1 ?_
        refine ww_goto C 275 (dq dk_Flags_reckon 106 rfl) (by decide) ?_
        refine ww_puti C ko_Flags 2 ho_v0 (lt_ rfl) g_2_51 rfl rfl rfl rfl (dq dk_Flags_reckon 108 rfl) h (fun σ30 h => ?_)
        refine ww_iload C 0 rfl (dq dk_Flags_reckon 109 rfl) ?_
        exact ww_iret C hR (dq dk_Flags_reckon 110 rfl) h
    · refine ww_iconst C (dq dk_Flags_reckon 98 rfl) ic_1 ?_
      refine ww_goto C 261 (dq dk_Flags_reckon 99 rfl) (by decide) ?_
      refine ww_puti C ko_Flags 1 ho_v0 (lt_ rfl) g_2_49 rfl rfl rfl rfl (dq dk_Flags_reckon 101 rfl) h (fun σ31 h => ?_)
      refine ww_aload_n C 2 rfl rfl (dq dk_Flags_reckon 102 rfl) ?_
      refine ww_iload C 0 rfl (dq dk_Flags_reckon 103 rfl) ?_
      refine ww_if_ge C 274 (dq dk_Flags_reckon 104 rfl) (by decide) h (fun h => ?_) (fun h => ?_)
      · refine ww_iconst C (dq dk_Flags_reckon 107 rfl) ic_0 ?_
        refine ww_puti C ko_Flags 2 ho_v0 (lt_ rfl) g_2_51 rfl rfl rfl rfl (dq dk_Flags_reckon 108 rfl) h (fun σ32 h => ?_)
        refine ww_iload C 0 rfl (dq dk_Flags_reckon 109 rfl) ?_
        exact ww_iret C hR (dq dk_Flags_reckon 110 rfl) h
      · refine ww_iconst C (dq dk_Flags_reckon 105 rfl) ic_1 ?_
        refine ww_goto C 275 (dq dk_Flags_reckon 106 rfl) (by decide) ?_
        refine ww_puti C ko_Flags 2 ho_v0 (lt_ rfl) g_2_51 rfl rfl rfl rfl (dq dk_Flags_reckon 108 rfl) h (fun σ33 h => ?_)
        refine ww_iload C 0 rfl (dq dk_Flags_reckon 109 rfl) ?_
        exact ww_iret C hR (dq dk_Flags_reckon 110 rfl) h
  rw [if_neg e11_11] at h
  by_cases e12_12 : v1 = 12
  · rw [if_pos e12_12] at h
    refine ww_tabIn C 213 (dq dk_Flags_reckon 6 rfl) (by rw [e12_12]; decide) (by rw [e12_12]; decide) (by rw [e12_12]; rfl) (by decide) ?_
    refine ww_iload_n C 4 rfl rfl (dq dk_Flags_reckon 70 rfl) ?_
    refine ww_iconst C (dq dk_Flags_reckon 71 rfl) ic_m1 ?_
    refine ww_ixor C (dq dk_Flags_reckon 72 rfl) ?_
    exact ww_iret C hR (dq dk_Flags_reckon 73 rfl) h
  rw [if_neg e12_12] at h
  by_cases e13_13 : v1 = 13
  · rw [if_pos e13_13] at h
    refine ww_tabIn C 154 (dq dk_Flags_reckon 6 rfl) (by rw [e13_13]; decide) (by rw [e13_13]; decide) (by rw [e13_13]; rfl) (by decide) ?_
    refine ww_aload_n C 2 rfl rfl (dq dk_Flags_reckon 37 rfl) ?_
    refine ww_iconst C (dq dk_Flags_reckon 38 rfl) ic_0 ?_
    refine ww_iload_n C 4 rfl rfl (dq dk_Flags_reckon 39 rfl) ?_
    refine ww_iconst C (dq dk_Flags_reckon 40 rfl) ic_0 ?_
    refine ww_cVi (st := []) C (c_Flags_difference v0 ho_v0 0 v2 0) cw_Flags_difference ho_v0 (lt_ rfl) rfl g_5_157 hRm ⟨⟨rfl, rfl⟩, le_ rfl, le_ rfl⟩ rfl rfl rfl (le_ rfl) (dq dk_Flags_reckon 41 rfl) h (fun x35 σ34 h => ?_)
    refine ww_istore C [(5, .int x35), (4, .int x1), (0, .ref (ad k v0)), (1, .int v1), (2, .int v2), (3, .int v3)] hnL (lt_ rfl) rfl (dq dk_Flags_reckon 42 rfl) ?_
    refine ww_goto C 250 (dq dk_Flags_reckon 43 rfl) (by decide) ?_
    refine ww_aload_n C 2 rfl rfl (dq dk_Flags_reckon 95 rfl) ?_
    refine ww_iload C 0 rfl (dq dk_Flags_reckon 96 rfl) ?_
    refine ww_if_ne C 260 (dq dk_Flags_reckon 97 rfl) (by decide) h (fun h => ?_) (fun h => ?_)
    · refine ww_iconst C (dq dk_Flags_reckon 100 rfl) ic_0 ?_
      refine ww_puti C ko_Flags 1 ho_v0 (lt_ rfl) g_2_49 rfl rfl rfl rfl (dq dk_Flags_reckon 101 rfl) h (fun σ36 h => ?_)
      refine ww_aload_n C 2 rfl rfl (dq dk_Flags_reckon 102 rfl) ?_
      refine ww_iload C 0 rfl (dq dk_Flags_reckon 103 rfl) ?_
      refine ww_if_ge C 274 (dq dk_Flags_reckon 104 rfl) (by decide) h (fun h => ?_) (fun h => ?_)
      · refine ww_iconst C (dq dk_Flags_reckon 107 rfl) ic_0 ?_
        refine ww_puti C ko_Flags 2 ho_v0 (lt_ rfl) g_2_51 rfl rfl rfl rfl (dq dk_Flags_reckon 108 rfl) h (fun σ37 h => ?_)
        refine ww_iload C 0 rfl (dq dk_Flags_reckon 109 rfl) ?_
        exact ww_iret C hR (dq dk_Flags_reckon 110 rfl) h
      · refine ww_iconst C (dq dk_Flags_reckon 105 rfl) ic_1 ?_
        refine ww_goto C 275 (dq dk_Flags_reckon 106 rfl) (by decide) ?_
        refine ww_puti C ko_Flags 2 ho_v0 (lt_ rfl) g_2_51 rfl rfl rfl rfl (dq dk_Flags_reckon 108 rfl) h (fun σ38 h => ?_)
        refine ww_iload C 0 rfl (dq dk_Flags_reckon 109 rfl) ?_
        exact ww_iret C hR (dq dk_Flags_reckon 110 rfl) h
    · refine ww_iconst C (dq dk_Flags_reckon 98 rfl) ic_1 ?_
      refine ww_goto C 261 (dq dk_Flags_reckon 99 rfl) (by decide) ?_
      refine ww_puti C ko_Flags 1 ho_v0 (lt_ rfl) g_2_49 rfl rfl rfl rfl (dq dk_Flags_reckon 101 rfl) h (fun σ39 h => ?_)
      refine ww_aload_n C 2 rfl rfl (dq dk_Flags_reckon 102 rfl) ?_
      refine ww_iload C 0 rfl (dq dk_Flags_reckon 103 rfl) ?_
      refine ww_if_ge C 274 (dq dk_Flags_reckon 104 rfl) (by decide) h (fun h => ?_) (fun h => ?_)
      · refine ww_iconst C (dq dk_Flags_reckon 107 rfl) ic_0 ?_
        refine ww_puti C ko_Flags 2 ho_v0 (lt_ rfl) g_2_51 rfl rfl rfl rfl (dq dk_Flags_reckon 108 rfl) h (fun σ40 h => ?_)
        refine ww_iload C 0 rfl (dq dk_Flags_reckon 109 rfl) ?_
        exact ww_iret C hR (dq dk_Flags_reckon 110 rfl) h
      · refine ww_iconst C (dq dk_Flags_reckon 105 rfl) ic_1 ?_
        refine ww_goto C 275 (dq dk_Flags_reckon 106 rfl) (by decide) ?_
        refine ww_puti C ko_Flags 2 ho_v0 (lt_ rfl) g_2_51 rfl rfl rfl rfl (dq dk_Flags_reckon 108 rfl) h (fun σ41 h => ?_)
        refine ww_iload C 0 rfl (dq dk_Flags_reckon 109 rfl) ?_
        exact ww_iret C hR (dq dk_Flags_reckon 110 rfl) h
  rw [if_neg e13_13] at h
  by_cases e14_14 : v1 = 14
  · rw [if_pos e14_14] at h
    refine ww_tabIn C 217 (dq dk_Flags_reckon 6 rfl) (by rw [e14_14]; decide) (by rw [e14_14]; decide) (by rw [e14_14]; rfl) (by decide) ?_
    exact ww_lv [2, 3, 4, 5] rfl (t_Flags_reckon_B217 C hR hRm hnL v0 v1 v2 v3 ho_v0 σ h)
  rw [if_neg e14_14] at h
  by_cases e15_15 : v1 = 15
  · rw [if_pos e15_15] at h
    refine ww_tabIn C 217 (dq dk_Flags_reckon 6 rfl) (by rw [e15_15]; decide) (by rw [e15_15]; decide) (by rw [e15_15]; rfl) (by decide) ?_
    exact ww_lv [2, 3, 4, 5] rfl (t_Flags_reckon_B217 C hR hRm hnL v0 v1 v2 v3 ho_v0 σ h)
  rw [if_neg e15_15] at h
  by_cases e16_16 : v1 = 16
  · rw [if_pos e16_16] at h
    refine ww_tabIn C 217 (dq dk_Flags_reckon 6 rfl) (by rw [e16_16]; decide) (by rw [e16_16]; decide) (by rw [e16_16]; rfl) (by decide) ?_
    exact ww_lv [2, 3, 4, 5] rfl (t_Flags_reckon_B217 C hR hRm hnL v0 v1 v2 v3 ho_v0 σ h)
  rw [if_neg e16_16] at h
  by_cases e17_17 : v1 = 17
  · rw [if_pos e17_17] at h
    refine ww_tabIn C 166 (dq dk_Flags_reckon 6 rfl) (by rw [e17_17]; decide) (by rw [e17_17]; decide) (by rw [e17_17]; rfl) (by decide) ?_
    refine ww_aload_n C 2 rfl rfl (dq dk_Flags_reckon 44 rfl) ?_
    refine ww_iload_n C 4 rfl rfl (dq dk_Flags_reckon 45 rfl) ?_
    refine ww_iconst C (dq dk_Flags_reckon 46 rfl) ic_1 ?_
    refine ww_iconst C (dq dk_Flags_reckon 47 rfl) ic_0 ?_
    refine ww_cVi (st := []) C (c_Flags_sum v0 ho_v0 v2 1 0) cw_Flags_sum ho_v0 (lt_ rfl) rfl g_5_148 hRm ⟨⟨rfl, rfl⟩, le_ rfl, le_ rfl⟩ rfl rfl rfl (le_ rfl) (dq dk_Flags_reckon 48 rfl) h (fun x43 σ42 h => ?_)
    refine ww_istore C [(5, .int x43), (4, .int x1), (0, .ref (ad k v0)), (1, .int v1), (2, .int v2), (3, .int v3)] hnL (lt_ rfl) rfl (dq dk_Flags_reckon 49 rfl) ?_
    refine ww_aload_n C 2 rfl rfl (dq dk_Flags_reckon 50 rfl) ?_
    refine ww_iload C 1 rfl (dq dk_Flags_reckon 51 rfl) ?_
    refine ww_puti C ko_Flags 0 ho_v0 (lt_ rfl) g_2_47 rfl rfl rfl rfl (dq dk_Flags_reckon 52 rfl) h (fun σ44 h => ?_)
    refine ww_goto C 250 (dq dk_Flags_reckon 53 rfl) (by decide) ?_
    refine ww_aload_n C 2 rfl rfl (dq dk_Flags_reckon 95 rfl) ?_
    refine ww_iload C 0 rfl (dq dk_Flags_reckon 96 rfl) ?_
    refine ww_if_ne C 260 (dq dk_Flags_reckon 97 rfl) (by decide) h (fun h => ?_) (fun h => ?_)
    · refine ww_iconst C (dq dk_Flags_reckon 100 rfl) ic_0 ?_
      refine ww_puti C ko_Flags 1 ho_v0 (lt_ rfl) g_2_49 rfl rfl rfl rfl (dq dk_Flags_reckon 101 rfl) h (fun σ45 h => ?_)
      refine ww_aload_n C 2 rfl rfl (dq dk_Flags_reckon 102 rfl) ?_
      refine ww_iload C 0 rfl (dq dk_Flags_reckon 103 rfl) ?_
      refine ww_if_ge C 274 (dq dk_Flags_reckon 104 rfl) (by decide) h (fun h => ?_) (fun h => ?_)
      · refine ww_iconst C (dq dk_Flags_reckon 107 rfl) ic_0 ?_
        refine ww_puti C ko_Flags 2 ho_v0 (lt_ rfl) g_2_51 rfl rfl rfl rfl (dq dk_Flags_reckon 108 rfl) h (fun σ46 h => ?_)
        refine ww_iload C 0 rfl (dq dk_Flags_reckon 109 rfl) ?_
        exact ww_iret C hR (dq dk_Flags_reckon 110 rfl) h
      · refine ww_iconst C (dq dk_Flags_reckon 105 rfl) ic_1 ?_
        refine ww_goto C 275 (dq dk_Flags_reckon 106 rfl) (by decide) ?_
        refine ww_puti C ko_Flags 2 ho_v0 (lt_ rfl) g_2_51 rfl rfl rfl rfl (dq dk_Flags_reckon 108 rfl) h (fun σ47 h => ?_)
        refine ww_iload C 0 rfl (dq dk_Flags_reckon 109 rfl) ?_
        exact ww_iret C hR (dq dk_Flags_reckon 110 rfl) h
    · refine ww_iconst C (dq dk_Flags_reckon 98 rfl) ic_1 ?_
      refine ww_goto C 261 (dq dk_Flags_reckon 99 rfl) (by decide) ?_
      refine ww_puti C ko_Flags 1 ho_v0 (lt_ rfl) g_2_49 rfl rfl rfl rfl (dq dk_Flags_reckon 101 rfl) h (fun σ48 h => ?_)
      refine ww_aload_n C 2 rfl rfl (dq dk_Flags_reckon 102 rfl) ?_
      refine ww_iload C 0 rfl (dq dk_Flags_reckon 103 rfl) ?_
      refine ww_if_ge C 274 (dq dk_Flags_reckon 104 rfl) (by decide) h (fun h => ?_) (fun h => ?_)
      · refine ww_iconst C (dq dk_Flags_reckon 107 rfl) ic_0 ?_
        refine ww_puti C ko_Flags 2 ho_v0 (lt_ rfl) g_2_51 rfl rfl rfl rfl (dq dk_Flags_reckon 108 rfl) h (fun σ49 h => ?_)
        refine ww_iload C 0 rfl (dq dk_Flags_reckon 109 rfl) ?_
        exact ww_iret C hR (dq dk_Flags_reckon 110 rfl) h
      · refine ww_iconst C (dq dk_Flags_reckon 105 rfl) ic_1 ?_
        refine ww_goto C 275 (dq dk_Flags_reckon 106 rfl) (by decide) ?_
        refine ww_puti C ko_Flags 2 ho_v0 (lt_ rfl) g_2_51 rfl rfl rfl rfl (dq dk_Flags_reckon 108 rfl) h (fun σ50 h => ?_)
        refine ww_iload C 0 rfl (dq dk_Flags_reckon 109 rfl) ?_
        exact ww_iret C hR (dq dk_Flags_reckon 110 rfl) h
  rw [if_neg e17_17] at h
  by_cases e18_18 : v1 = 18
  · rw [if_pos e18_18] at h
    refine ww_tabIn C 184 (dq dk_Flags_reckon 6 rfl) (by rw [e18_18]; decide) (by rw [e18_18]; decide) (by rw [e18_18]; rfl) (by decide) ?_
    refine ww_aload_n C 2 rfl rfl (dq dk_Flags_reckon 54 rfl) ?_
    refine ww_iload_n C 4 rfl rfl (dq dk_Flags_reckon 55 rfl) ?_
    refine ww_iconst C (dq dk_Flags_reckon 56 rfl) ic_1 ?_
    refine ww_iconst C (dq dk_Flags_reckon 57 rfl) ic_0 ?_
    refine ww_cVi (st := []) C (c_Flags_difference v0 ho_v0 v2 1 0) cw_Flags_difference ho_v0 (lt_ rfl) rfl g_5_157 hRm ⟨⟨rfl, rfl⟩, le_ rfl, le_ rfl⟩ rfl rfl rfl (le_ rfl) (dq dk_Flags_reckon 58 rfl) h (fun x52 σ51 h => ?_)
    refine ww_istore C [(5, .int x52), (4, .int x1), (0, .ref (ad k v0)), (1, .int v1), (2, .int v2), (3, .int v3)] hnL (lt_ rfl) rfl (dq dk_Flags_reckon 59 rfl) ?_
    refine ww_aload_n C 2 rfl rfl (dq dk_Flags_reckon 60 rfl) ?_
    refine ww_iload C 1 rfl (dq dk_Flags_reckon 61 rfl) ?_
    refine ww_puti C ko_Flags 0 ho_v0 (lt_ rfl) g_2_47 rfl rfl rfl rfl (dq dk_Flags_reckon 62 rfl) h (fun σ53 h => ?_)
    refine ww_goto C 250 (dq dk_Flags_reckon 63 rfl) (by decide) ?_
    refine ww_aload_n C 2 rfl rfl (dq dk_Flags_reckon 95 rfl) ?_
    refine ww_iload C 0 rfl (dq dk_Flags_reckon 96 rfl) ?_
    refine ww_if_ne C 260 (dq dk_Flags_reckon 97 rfl) (by decide) h (fun h => ?_) (fun h => ?_)
    · refine ww_iconst C (dq dk_Flags_reckon 100 rfl) ic_0 ?_
      refine ww_puti C ko_Flags 1 ho_v0 (lt_ rfl) g_2_49 rfl rfl rfl rfl (dq dk_Flags_reckon 101 rfl) h (fun σ54 h => ?_)
      refine ww_aload_n C 2 rfl rfl (dq dk_Flags_reckon 102 rfl) ?_
      refine ww_iload C 0 rfl (dq dk_Flags_reckon 103 rfl) ?_
      refine ww_if_ge C 274 (dq dk_Flags_reckon 104 rfl) (by decide) h (fun h => ?_) (fun h => ?_)
      · refine ww_iconst C (dq dk_Flags_reckon 107 rfl) ic_0 ?_
        refine ww_puti C ko_Flags 2 ho_v0 (lt_ rfl) g_2_51 rfl rfl rfl rfl (dq dk_Flags_reckon 108 rfl) h (fun σ55 h => ?_)
        refine ww_iload C 0 rfl (dq dk_Flags_reckon 109 rfl) ?_
        exact ww_iret C hR (dq dk_Flags_reckon 110 rfl) h
      · refine ww_iconst C (dq dk_Flags_reckon 105 rfl) ic_1 ?_
        refine ww_goto C 275 (dq dk_Flags_reckon 106 rfl) (by decide) ?_
        refine ww_puti C ko_Flags 2 ho_v0 (lt_ rfl) g_2_51 rfl rfl rfl rfl (dq dk_Flags_reckon 108 rfl) h (fun σ56 h => ?_)
        refine ww_iload C 0 rfl (dq dk_Flags_reckon 109 rfl) ?_
        exact ww_iret C hR (dq dk_Flags_reckon 110 rfl) h
    · refine ww_iconst C (dq dk_Flags_reckon 98 rfl) ic_1 ?_
      refine ww_goto C 261 (dq dk_Flags_reckon 99 rfl) (by decide) ?_
      refine ww_puti C ko_Flags 1 ho_v0 (lt_ rfl) g_2_49 rfl rfl rfl rfl (dq dk_Flags_reckon 101 rfl) h (fun σ57 h => ?_)
      refine ww_aload_n C 2 rfl rfl (dq dk_Flags_reckon 102 rfl) ?_
      refine ww_iload C 0 rfl (dq dk_Flags_reckon 103 rfl) ?_
      refine ww_if_ge C 274 (dq dk_Flags_reckon 104 rfl) (by decide) h (fun h => ?_) (fun h => ?_)
      · refine ww_iconst C (dq dk_Flags_reckon 107 rfl) ic_0 ?_
        refine ww_puti C ko_Flags 2 ho_v0 (lt_ rfl) g_2_51 rfl rfl rfl rfl (dq dk_Flags_reckon 108 rfl) h (fun σ58 h => ?_)
        refine ww_iload C 0 rfl (dq dk_Flags_reckon 109 rfl) ?_
        exact ww_iret C hR (dq dk_Flags_reckon 110 rfl) h
      · refine ww_iconst C (dq dk_Flags_reckon 105 rfl) ic_1 ?_
        refine ww_goto C 275 (dq dk_Flags_reckon 106 rfl) (by decide) ?_
        refine ww_puti C ko_Flags 2 ho_v0 (lt_ rfl) g_2_51 rfl rfl rfl rfl (dq dk_Flags_reckon 108 rfl) h (fun σ59 h => ?_)
        refine ww_iload C 0 rfl (dq dk_Flags_reckon 109 rfl) ?_
        exact ww_iret C hR (dq dk_Flags_reckon 110 rfl) h
  rw [if_neg e18_18] at h
  have ne0_0 := lv_neT (a := 0) e0_0 (by decide)
  have ne1_1 := lv_neT (a := 1) e1_1 (by decide)
  have ne2_2 := lv_neT (a := 2) e2_2 (by decide)
  have ne3_3 := lv_neT (a := 3) e3_3 (by decide)
  have ne4_4 := lv_neT (a := 4) e4_4 (by decide)
  have ne5_5 := lv_neT (a := 5) e5_5 (by decide)
  have ne6_6 := lv_neT (a := 6) e6_6 (by decide)
  have ne7_7 := lv_neT (a := 7) e7_7 (by decide)
  have ne8_8 := lv_neT (a := 8) e8_8 (by decide)
  have ne9_9 := lv_neT (a := 9) e9_9 (by decide)
  have ne10_10 := lv_neT (a := 10) e10_10 (by decide)
  have ne11_11 := lv_neT (a := 11) e11_11 (by decide)
  have ne12_12 := lv_neT (a := 12) e12_12 (by decide)
  have ne13_13 := lv_neT (a := 13) e13_13 (by decide)
  have ne14_14 := lv_neT (a := 14) e14_14 (by decide)
  have ne15_15 := lv_neT (a := 15) e15_15 (by decide)
  have ne16_16 := lv_neT (a := 16) e16_16 (by decide)
  have ne17_17 := lv_neT (a := 17) e17_17 (by decide)
  have ne18_18 := lv_neT (a := 18) e18_18 (by decide)
  refine ww_tabOut C 241 (dq dk_Flags_reckon 6 rfl) (by omega) (by decide) ?_
  exact ww_lv [2, 3, 4, 5] rfl (t_Flags_reckon_B241 C hR hRm hnL v0 v1 v2 v3 ho_v0 σ h)
abbrev y_Flags_isUnknownTo : MethodName := ⟨"BundleHouse$Flags", "isUnknownTo", "(I)Z"⟩
def dl_Flags_isUnknownTo : List (Nat × Instr × Nat) := [(0, .iload_n 1, 1), (1, .iconst 1, 1), (2, .ishr, 1), (3, .tableswitch 141 0 6 #[41, 55, 69, 83, 105, 141, 119], 41), (44, .aload_n 0, 1), (45, .getfield 21, 3), (48, .iconst 2, 1), (49, .if_icmp .ne 7, 3), (52, .iconst 1, 1), (53, .goto 4, 3), (56, .iconst 0, 1), (57, .ireturn, 1), (58, .aload_n 0, 1), (59, .getfield 9, 3), (62, .iconst 2, 1), (63, .if_icmp .ne 7, 3), (66, .iconst 1, 1), (67, .goto 4, 3), (70, .iconst 0, 1), (71, .ireturn, 1), (72, .aload_n 0, 1), (73, .getfield 15, 3), (76, .iconst 2, 1), (77, .if_icmp .ne 7, 3), (80, .iconst 1, 1), (81, .goto 4, 3), (84, .iconst 0, 1), (85, .ireturn, 1), (86, .aload_n 0, 1), (87, .getfield 9, 3), (90, .iconst 2, 1), (91, .if_icmp .eq 11, 3), (94, .aload_n 0, 1), (95, .getfield 15, 3), (98, .iconst 2, 1), (99, .if_icmp .ne 7, 3), (102, .iconst 1, 1), (103, .goto 4, 3), (106, .iconst 0, 1), (107, .ireturn, 1), (108, .aload_n 0, 1), (109, .getfield 18, 3), (112, .iconst 2, 1), (113, .if_icmp .ne 7, 3), (116, .iconst 1, 1), (117, .goto 4, 3), (120, .iconst 0, 1), (121, .ireturn, 1), (122, .aload_n 0, 1), (123, .getfield 18, 3), (126, .iconst 2, 1), (127, .if_icmp .eq 11, 3), (130, .aload_n 0, 1), (131, .getfield 21, 3), (134, .iconst 2, 1), (135, .if_icmp .ne 7, 3), (138, .iconst 1, 1), (139, .goto 4, 3), (142, .iconst 0, 1), (143, .ireturn, 1), (144, .aload_n 0, 1), (145, .getfield 15, 3), (148, .iconst 2, 1), (149, .if_icmp .eq 19, 3), (152, .aload_n 0, 1), (153, .getfield 18, 3), (156, .iconst 2, 1), (157, .if_icmp .eq 11, 3), (160, .aload_n 0, 1), (161, .getfield 21, 3), (164, .iconst 2, 1), (165, .if_icmp .ne 7, 3), (168, .iconst 1, 1), (169, .goto 4, 3), (172, .iconst 0, 1), (173, .ireturn, 1)]
set_option maxRecDepth 100000 in
theorem dk_Flags_isUnknownTo : ∀ q ∈ dl_Flags_isUnknownTo, decode prog_3_method_10_code q.1 = .ok q.2 := by decide +kernel
abbrev rm_Flags_isUnknownTo : Room := { frames := 0, cells := 0, slots := 0, locals := 0 }
theorem cw_Flags_isUnknownTo : CWV y_Flags_isUnknownTo prog_3_method_10_code 2 (some .boolean) 1 := ⟨⟨g_5_229, g_1_10, by decide, by decide, by decide +kernel⟩, g_5_227, g_5_228⟩
set_option maxHeartbeats 4000000 in
set_option maxRecDepth 100000 in
theorem t_Flags_isUnknownTo_B144 {k : Cfg} {res : Int32 × St} (C : Cx k prog_3_method_10_code "BundleHouse$Flags") (hR : RI k .boolean res) (hRm : k.2.2.2.1 = rm_Flags_isUnknownTo) (hnL : k.2.2.2.2.2.2.2.2.2.2.2.1 = 2) (v0 : Nat) (ho_v0 : kd v0 = 9) (σ : St) (h : Flags_isUnknownTo_B144 v0 σ = some res) : WW k 144 [(0, .ref (ad k v0))] [] σ := by
  unfold Flags_isUnknownTo_B144 at h
  refine ww_aload_n C 0 rfl rfl (dq dk_Flags_isUnknownTo 60 rfl) ?_
  refine ww_geti C ko_Flags 1 ho_v0 (lt_ rfl) g_2_49 rfl rfl (dq dk_Flags_isUnknownTo 61 rfl) ?_
  refine ww_iconst C (dq dk_Flags_isUnknownTo 62 rfl) ic_2 ?_
  refine ww_icmp_eq C 168 (dq dk_Flags_isUnknownTo 63 rfl) (by decide) h (fun h => ?_) (fun h => ?_)
  · refine ww_iconst C (dq dk_Flags_isUnknownTo 72 rfl) ic_1 ?_
    refine ww_goto C 173 (dq dk_Flags_isUnknownTo 73 rfl) (by decide) ?_
    exact ww_zretL C hR (dq dk_Flags_isUnknownTo 75 rfl) (Or.inr rfl) h
  · refine ww_aload_n C 0 rfl rfl (dq dk_Flags_isUnknownTo 64 rfl) ?_
    refine ww_geti C ko_Flags 2 ho_v0 (lt_ rfl) g_2_51 rfl rfl (dq dk_Flags_isUnknownTo 65 rfl) ?_
    refine ww_iconst C (dq dk_Flags_isUnknownTo 66 rfl) ic_2 ?_
    refine ww_icmp_eq C 168 (dq dk_Flags_isUnknownTo 67 rfl) (by decide) h (fun h => ?_) (fun h => ?_)
    · refine ww_iconst C (dq dk_Flags_isUnknownTo 72 rfl) ic_1 ?_
      refine ww_goto C 173 (dq dk_Flags_isUnknownTo 73 rfl) (by decide) ?_
      exact ww_zretL C hR (dq dk_Flags_isUnknownTo 75 rfl) (Or.inr rfl) h
    · refine ww_aload_n C 0 rfl rfl (dq dk_Flags_isUnknownTo 68 rfl) ?_
      refine ww_geti C ko_Flags 3 ho_v0 (lt_ rfl) g_2_53 rfl rfl (dq dk_Flags_isUnknownTo 69 rfl) ?_
      refine ww_iconst C (dq dk_Flags_isUnknownTo 70 rfl) ic_2 ?_
      refine ww_icmp_ne C 172 (dq dk_Flags_isUnknownTo 71 rfl) (by decide) h (fun h => ?_) (fun h => ?_)
      · refine ww_iconst C (dq dk_Flags_isUnknownTo 74 rfl) ic_0 ?_
        exact ww_zretL C hR (dq dk_Flags_isUnknownTo 75 rfl) (Or.inl rfl) h
      · refine ww_iconst C (dq dk_Flags_isUnknownTo 72 rfl) ic_1 ?_
        refine ww_goto C 173 (dq dk_Flags_isUnknownTo 73 rfl) (by decide) ?_
        exact ww_zretL C hR (dq dk_Flags_isUnknownTo 75 rfl) (Or.inr rfl) h
set_option maxHeartbeats 4000000 in
set_option maxRecDepth 100000 in
theorem c_Flags_isUnknownTo (v0 : Nat) (ho_v0 : kd v0 = 9) (v1 : Int32) : MI y_Flags_isUnknownTo rm_Flags_isUnknownTo prog_3_method_10_code 2 .boolean (fun a => [.ref (a v0), .int v1]) (Flags_isUnknownTo v0 v1) := by
  refine mi_of (by decide) (fun _ => le_ rfl) ?_
  intro k res σ C hR hRm hnL h
  unfold Flags_isUnknownTo at h
  show WW k 0 [(0, .ref (ad k v0)), (1, .int v1)] [] σ
  refine ww_iload_n C 1 rfl rfl (dq dk_Flags_isUnknownTo 0 rfl) ?_
  refine ww_iconst C (dq dk_Flags_isUnknownTo 1 rfl) ic_1 ?_
  refine ww_ishr C (dq dk_Flags_isUnknownTo 2 rfl) ?_
  refine ww_nmi h (fun x1 h => ?_)
  by_cases e0_0 : x1 = 0
  · rw [if_pos e0_0] at h
    refine ww_tabIn C 44 (dq dk_Flags_isUnknownTo 3 rfl) (by rw [e0_0]; decide) (by rw [e0_0]; decide) (by rw [e0_0]; rfl) (by decide) ?_
    refine ww_aload_n C 0 rfl rfl (dq dk_Flags_isUnknownTo 4 rfl) ?_
    refine ww_geti C ko_Flags 3 ho_v0 (lt_ rfl) g_2_53 rfl rfl (dq dk_Flags_isUnknownTo 5 rfl) ?_
    refine ww_iconst C (dq dk_Flags_isUnknownTo 6 rfl) ic_2 ?_
    refine ww_icmp_ne C 56 (dq dk_Flags_isUnknownTo 7 rfl) (by decide) h (fun h => ?_) (fun h => ?_)
    · refine ww_iconst C (dq dk_Flags_isUnknownTo 10 rfl) ic_0 ?_
      exact ww_zretL C hR (dq dk_Flags_isUnknownTo 11 rfl) (Or.inl rfl) h
    · refine ww_iconst C (dq dk_Flags_isUnknownTo 8 rfl) ic_1 ?_
      refine ww_goto C 57 (dq dk_Flags_isUnknownTo 9 rfl) (by decide) ?_
      exact ww_zretL C hR (dq dk_Flags_isUnknownTo 11 rfl) (Or.inr rfl) h
  rw [if_neg e0_0] at h
  by_cases e1_1 : x1 = 1
  · rw [if_pos e1_1] at h
    refine ww_tabIn C 58 (dq dk_Flags_isUnknownTo 3 rfl) (by rw [e1_1]; decide) (by rw [e1_1]; decide) (by rw [e1_1]; rfl) (by decide) ?_
    refine ww_aload_n C 0 rfl rfl (dq dk_Flags_isUnknownTo 12 rfl) ?_
    refine ww_geti C ko_Flags 0 ho_v0 (lt_ rfl) g_2_47 rfl rfl (dq dk_Flags_isUnknownTo 13 rfl) ?_
    refine ww_iconst C (dq dk_Flags_isUnknownTo 14 rfl) ic_2 ?_
    refine ww_icmp_ne C 70 (dq dk_Flags_isUnknownTo 15 rfl) (by decide) h (fun h => ?_) (fun h => ?_)
    · refine ww_iconst C (dq dk_Flags_isUnknownTo 18 rfl) ic_0 ?_
      exact ww_zretL C hR (dq dk_Flags_isUnknownTo 19 rfl) (Or.inl rfl) h
    · refine ww_iconst C (dq dk_Flags_isUnknownTo 16 rfl) ic_1 ?_
      refine ww_goto C 71 (dq dk_Flags_isUnknownTo 17 rfl) (by decide) ?_
      exact ww_zretL C hR (dq dk_Flags_isUnknownTo 19 rfl) (Or.inr rfl) h
  rw [if_neg e1_1] at h
  by_cases e2_2 : x1 = 2
  · rw [if_pos e2_2] at h
    refine ww_tabIn C 72 (dq dk_Flags_isUnknownTo 3 rfl) (by rw [e2_2]; decide) (by rw [e2_2]; decide) (by rw [e2_2]; rfl) (by decide) ?_
    refine ww_aload_n C 0 rfl rfl (dq dk_Flags_isUnknownTo 20 rfl) ?_
    refine ww_geti C ko_Flags 1 ho_v0 (lt_ rfl) g_2_49 rfl rfl (dq dk_Flags_isUnknownTo 21 rfl) ?_
    refine ww_iconst C (dq dk_Flags_isUnknownTo 22 rfl) ic_2 ?_
    refine ww_icmp_ne C 84 (dq dk_Flags_isUnknownTo 23 rfl) (by decide) h (fun h => ?_) (fun h => ?_)
    · refine ww_iconst C (dq dk_Flags_isUnknownTo 26 rfl) ic_0 ?_
      exact ww_zretL C hR (dq dk_Flags_isUnknownTo 27 rfl) (Or.inl rfl) h
    · refine ww_iconst C (dq dk_Flags_isUnknownTo 24 rfl) ic_1 ?_
      refine ww_goto C 85 (dq dk_Flags_isUnknownTo 25 rfl) (by decide) ?_
      exact ww_zretL C hR (dq dk_Flags_isUnknownTo 27 rfl) (Or.inr rfl) h
  rw [if_neg e2_2] at h
  by_cases e3_3 : x1 = 3
  · rw [if_pos e3_3] at h
    refine ww_tabIn C 86 (dq dk_Flags_isUnknownTo 3 rfl) (by rw [e3_3]; decide) (by rw [e3_3]; decide) (by rw [e3_3]; rfl) (by decide) ?_
    refine ww_aload_n C 0 rfl rfl (dq dk_Flags_isUnknownTo 28 rfl) ?_
    refine ww_geti C ko_Flags 0 ho_v0 (lt_ rfl) g_2_47 rfl rfl (dq dk_Flags_isUnknownTo 29 rfl) ?_
    refine ww_iconst C (dq dk_Flags_isUnknownTo 30 rfl) ic_2 ?_
    refine ww_icmp_eq C 102 (dq dk_Flags_isUnknownTo 31 rfl) (by decide) h (fun h => ?_) (fun h => ?_)
    · refine ww_iconst C (dq dk_Flags_isUnknownTo 36 rfl) ic_1 ?_
      refine ww_goto C 107 (dq dk_Flags_isUnknownTo 37 rfl) (by decide) ?_
      exact ww_zretL C hR (dq dk_Flags_isUnknownTo 39 rfl) (Or.inr rfl) h
    · refine ww_aload_n C 0 rfl rfl (dq dk_Flags_isUnknownTo 32 rfl) ?_
      refine ww_geti C ko_Flags 1 ho_v0 (lt_ rfl) g_2_49 rfl rfl (dq dk_Flags_isUnknownTo 33 rfl) ?_
      refine ww_iconst C (dq dk_Flags_isUnknownTo 34 rfl) ic_2 ?_
      refine ww_icmp_ne C 106 (dq dk_Flags_isUnknownTo 35 rfl) (by decide) h (fun h => ?_) (fun h => ?_)
      · refine ww_iconst C (dq dk_Flags_isUnknownTo 38 rfl) ic_0 ?_
        exact ww_zretL C hR (dq dk_Flags_isUnknownTo 39 rfl) (Or.inl rfl) h
      · refine ww_iconst C (dq dk_Flags_isUnknownTo 36 rfl) ic_1 ?_
        refine ww_goto C 107 (dq dk_Flags_isUnknownTo 37 rfl) (by decide) ?_
        exact ww_zretL C hR (dq dk_Flags_isUnknownTo 39 rfl) (Or.inr rfl) h
  rw [if_neg e3_3] at h
  by_cases e4_4 : x1 = 4
  · rw [if_pos e4_4] at h
    refine ww_tabIn C 108 (dq dk_Flags_isUnknownTo 3 rfl) (by rw [e4_4]; decide) (by rw [e4_4]; decide) (by rw [e4_4]; rfl) (by decide) ?_
    refine ww_aload_n C 0 rfl rfl (dq dk_Flags_isUnknownTo 40 rfl) ?_
    refine ww_geti C ko_Flags 2 ho_v0 (lt_ rfl) g_2_51 rfl rfl (dq dk_Flags_isUnknownTo 41 rfl) ?_
    refine ww_iconst C (dq dk_Flags_isUnknownTo 42 rfl) ic_2 ?_
    refine ww_icmp_ne C 120 (dq dk_Flags_isUnknownTo 43 rfl) (by decide) h (fun h => ?_) (fun h => ?_)
    · refine ww_iconst C (dq dk_Flags_isUnknownTo 46 rfl) ic_0 ?_
      exact ww_zretL C hR (dq dk_Flags_isUnknownTo 47 rfl) (Or.inl rfl) h
    · refine ww_iconst C (dq dk_Flags_isUnknownTo 44 rfl) ic_1 ?_
      refine ww_goto C 121 (dq dk_Flags_isUnknownTo 45 rfl) (by decide) ?_
      exact ww_zretL C hR (dq dk_Flags_isUnknownTo 47 rfl) (Or.inr rfl) h
  rw [if_neg e4_4] at h
  by_cases e5_5 : x1 = 5
  · rw [if_pos e5_5] at h
    refine ww_tabIn C 144 (dq dk_Flags_isUnknownTo 3 rfl) (by rw [e5_5]; decide) (by rw [e5_5]; decide) (by rw [e5_5]; rfl) (by decide) ?_
    exact ww_lv [0] rfl (t_Flags_isUnknownTo_B144 C hR hRm hnL v0 ho_v0 σ h)
  rw [if_neg e5_5] at h
  by_cases e6_6 : x1 = 6
  · rw [if_pos e6_6] at h
    refine ww_tabIn C 122 (dq dk_Flags_isUnknownTo 3 rfl) (by rw [e6_6]; decide) (by rw [e6_6]; decide) (by rw [e6_6]; rfl) (by decide) ?_
    refine ww_aload_n C 0 rfl rfl (dq dk_Flags_isUnknownTo 48 rfl) ?_
    refine ww_geti C ko_Flags 2 ho_v0 (lt_ rfl) g_2_51 rfl rfl (dq dk_Flags_isUnknownTo 49 rfl) ?_
    refine ww_iconst C (dq dk_Flags_isUnknownTo 50 rfl) ic_2 ?_
    refine ww_icmp_eq C 138 (dq dk_Flags_isUnknownTo 51 rfl) (by decide) h (fun h => ?_) (fun h => ?_)
    · refine ww_iconst C (dq dk_Flags_isUnknownTo 56 rfl) ic_1 ?_
      refine ww_goto C 143 (dq dk_Flags_isUnknownTo 57 rfl) (by decide) ?_
      exact ww_zretL C hR (dq dk_Flags_isUnknownTo 59 rfl) (Or.inr rfl) h
    · refine ww_aload_n C 0 rfl rfl (dq dk_Flags_isUnknownTo 52 rfl) ?_
      refine ww_geti C ko_Flags 3 ho_v0 (lt_ rfl) g_2_53 rfl rfl (dq dk_Flags_isUnknownTo 53 rfl) ?_
      refine ww_iconst C (dq dk_Flags_isUnknownTo 54 rfl) ic_2 ?_
      refine ww_icmp_ne C 142 (dq dk_Flags_isUnknownTo 55 rfl) (by decide) h (fun h => ?_) (fun h => ?_)
      · refine ww_iconst C (dq dk_Flags_isUnknownTo 58 rfl) ic_0 ?_
        exact ww_zretL C hR (dq dk_Flags_isUnknownTo 59 rfl) (Or.inl rfl) h
      · refine ww_iconst C (dq dk_Flags_isUnknownTo 56 rfl) ic_1 ?_
        refine ww_goto C 143 (dq dk_Flags_isUnknownTo 57 rfl) (by decide) ?_
        exact ww_zretL C hR (dq dk_Flags_isUnknownTo 59 rfl) (Or.inr rfl) h
  rw [if_neg e6_6] at h
  have ne0_0 := lv_neT (a := 0) e0_0 (by decide)
  have ne1_1 := lv_neT (a := 1) e1_1 (by decide)
  have ne2_2 := lv_neT (a := 2) e2_2 (by decide)
  have ne3_3 := lv_neT (a := 3) e3_3 (by decide)
  have ne4_4 := lv_neT (a := 4) e4_4 (by decide)
  have ne5_5 := lv_neT (a := 5) e5_5 (by decide)
  have ne6_6 := lv_neT (a := 6) e6_6 (by decide)
  refine ww_tabOut C 144 (dq dk_Flags_isUnknownTo 3 rfl) (by omega) (by decide) ?_
  exact ww_lv [0] rfl (t_Flags_isUnknownTo_B144 C hR hRm hnL v0 ho_v0 σ h)
abbrev y_Flags_holds : MethodName := ⟨"BundleHouse$Flags", "holds", "(I)Z"⟩
def dl_Flags_holds : List (Nat × Instr × Nat) := [(0, .iload_n 1, 1), (1, .iconst 1, 1), (2, .iand, 1), (3, .ifCond .ne 7, 3), (6, .iconst 1, 1), (7, .goto 4, 3), (10, .iconst 0, 1), (11, .istore_n 2, 1), (12, .iload_n 1, 1), (13, .iconst 1, 1), (14, .ishr, 1), (15, .tableswitch 190 0 6 #[41, 64, 87, 110, 141, 190, 164], 41), (56, .iload_n 2, 1), (57, .aload_n 0, 1), (58, .getfield 21, 3), (61, .iconst 1, 1), (62, .if_icmp .ne 7, 3), (65, .iconst 1, 1), (66, .goto 4, 3), (69, .iconst 0, 1), (70, .if_icmp .ne 7, 3), (73, .iconst 1, 1), (74, .goto 4, 3), (77, .iconst 0, 1), (78, .ireturn, 1), (79, .iload_n 2, 1), (80, .aload_n 0, 1), (81, .getfield 9, 3), (84, .iconst 1, 1), (85, .if_icmp .ne 7, 3), (88, .iconst 1, 1), (89, .goto 4, 3), (92, .iconst 0, 1), (93, .if_icmp .ne 7, 3), (96, .iconst 1, 1), (97, .goto 4, 3), (100, .iconst 0, 1), (101, .ireturn, 1), (102, .iload_n 2, 1), (103, .aload_n 0, 1), (104, .getfield 15, 3), (107, .iconst 1, 1), (108, .if_icmp .ne 7, 3), (111, .iconst 1, 1), (112, .goto 4, 3), (115, .iconst 0, 1), (116, .if_icmp .ne 7, 3), (119, .iconst 1, 1), (120, .goto 4, 3), (123, .iconst 0, 1), (124, .ireturn, 1), (125, .iload_n 2, 1), (126, .aload_n 0, 1), (127, .getfield 9, 3), (130, .iconst 1, 1), (131, .if_icmp .eq 11, 3), (134, .aload_n 0, 1), (135, .getfield 15, 3), (138, .iconst 1, 1), (139, .if_icmp .ne 7, 3), (142, .iconst 1, 1), (143, .goto 4, 3), (146, .iconst 0, 1), (147, .if_icmp .ne 7, 3), (150, .iconst 1, 1), (151, .goto 4, 3), (154, .iconst 0, 1), (155, .ireturn, 1), (156, .iload_n 2, 1), (157, .aload_n 0, 1), (158, .getfield 18, 3), (161, .iconst 1, 1), (162, .if_icmp .ne 7, 3), (165, .iconst 1, 1), (166, .goto 4, 3), (169, .iconst 0, 1), (170, .if_icmp .ne 7, 3), (173, .iconst 1, 1), (174, .goto 4, 3), (177, .iconst 0, 1), (178, .ireturn, 1), (179, .iload_n 2, 1), (180, .aload_n 0, 1), (181, .getfield 18, 3), (184, .aload_n 0, 1), (185, .getfield 21, 3), (188, .if_icmp .eq 7, 3), (191, .iconst 1, 1), (192, .goto 4, 3), (195, .iconst 0, 1), (196, .if_icmp .ne 7, 3), (199, .iconst 1, 1), (200, .goto 4, 3), (203, .iconst 0, 1), (204, .ireturn, 1), (205, .iload_n 2, 1), (206, .aload_n 0, 1), (207, .getfield 15, 3), (210, .iconst 1, 1), (211, .if_icmp .eq 14, 3), (214, .aload_n 0, 1), (215, .getfield 18, 3), (218, .aload_n 0, 1), (219, .getfield 21, 3), (222, .if_icmp .eq 7, 3), (225, .iconst 1, 1), (226, .goto 4, 3), (229, .iconst 0, 1), (230, .if_icmp .ne 7, 3), (233, .iconst 1, 1), (234, .goto 4, 3), (237, .iconst 0, 1), (238, .ireturn, 1)]
set_option maxRecDepth 100000 in
theorem dk_Flags_holds : ∀ q ∈ dl_Flags_holds, decode prog_3_method_11_code q.1 = .ok q.2 := by decide +kernel
abbrev rm_Flags_holds : Room := { frames := 0, cells := 0, slots := 0, locals := 0 }
theorem cw_Flags_holds : CWV y_Flags_holds prog_3_method_11_code 3 (some .boolean) 1 := ⟨⟨g_5_102, g_1_10, by decide, by decide, by decide +kernel⟩, g_5_100, g_5_101⟩
set_option maxHeartbeats 4000000 in
set_option maxRecDepth 100000 in
theorem t_Flags_holds_B205 {k : Cfg} {res : Int32 × St} (C : Cx k prog_3_method_11_code "BundleHouse$Flags") (hR : RI k .boolean res) (hRm : k.2.2.2.1 = rm_Flags_holds) (hnL : k.2.2.2.2.2.2.2.2.2.2.2.1 = 3) (v0 : Nat) (v2 : Int32) (ho_v0 : kd v0 = 9) (σ : St) (h : Flags_holds_B205 v0 v2 σ = some res) : WW k 205 [(0, .ref (ad k v0)), (2, .int v2)] [] σ := by
  unfold Flags_holds_B205 at h
  refine ww_iload_n C 1 rfl rfl (dq dk_Flags_holds 95 rfl) ?_
  refine ww_aload_n C 0 rfl rfl (dq dk_Flags_holds 96 rfl) ?_
  refine ww_geti C ko_Flags 1 ho_v0 (lt_ rfl) g_2_49 rfl rfl (dq dk_Flags_holds 97 rfl) ?_
  refine ww_iconst C (dq dk_Flags_holds 98 rfl) ic_1 ?_
  refine ww_icmp_eq C 225 (dq dk_Flags_holds 99 rfl) (by decide) h (fun h => ?_) (fun h => ?_)
  · refine ww_iconst C (dq dk_Flags_holds 105 rfl) ic_1 ?_
    refine ww_goto C 230 (dq dk_Flags_holds 106 rfl) (by decide) ?_
    refine ww_icmp_ne C 237 (dq dk_Flags_holds 108 rfl) (by decide) h (fun h => ?_) (fun h => ?_)
    · refine ww_iconst C (dq dk_Flags_holds 111 rfl) ic_0 ?_
      exact ww_zretL C hR (dq dk_Flags_holds 112 rfl) (Or.inl rfl) h
    · refine ww_iconst C (dq dk_Flags_holds 109 rfl) ic_1 ?_
      refine ww_goto C 238 (dq dk_Flags_holds 110 rfl) (by decide) ?_
      exact ww_zretL C hR (dq dk_Flags_holds 112 rfl) (Or.inr rfl) h
  · refine ww_aload_n C 0 rfl rfl (dq dk_Flags_holds 100 rfl) ?_
    refine ww_geti C ko_Flags 2 ho_v0 (lt_ rfl) g_2_51 rfl rfl (dq dk_Flags_holds 101 rfl) ?_
    refine ww_aload_n C 0 rfl rfl (dq dk_Flags_holds 102 rfl) ?_
    refine ww_geti C ko_Flags 3 ho_v0 (lt_ rfl) g_2_53 rfl rfl (dq dk_Flags_holds 103 rfl) ?_
    refine ww_icmp_eq C 229 (dq dk_Flags_holds 104 rfl) (by decide) h (fun h => ?_) (fun h => ?_)
    · refine ww_iconst C (dq dk_Flags_holds 107 rfl) ic_0 ?_
      refine ww_icmp_ne C 237 (dq dk_Flags_holds 108 rfl) (by decide) h (fun h => ?_) (fun h => ?_)
      · refine ww_iconst C (dq dk_Flags_holds 111 rfl) ic_0 ?_
        exact ww_zretL C hR (dq dk_Flags_holds 112 rfl) (Or.inl rfl) h
      · refine ww_iconst C (dq dk_Flags_holds 109 rfl) ic_1 ?_
        refine ww_goto C 238 (dq dk_Flags_holds 110 rfl) (by decide) ?_
        exact ww_zretL C hR (dq dk_Flags_holds 112 rfl) (Or.inr rfl) h
    · refine ww_iconst C (dq dk_Flags_holds 105 rfl) ic_1 ?_
      refine ww_goto C 230 (dq dk_Flags_holds 106 rfl) (by decide) ?_
      refine ww_icmp_ne C 237 (dq dk_Flags_holds 108 rfl) (by decide) h (fun h => ?_) (fun h => ?_)
      · refine ww_iconst C (dq dk_Flags_holds 111 rfl) ic_0 ?_
        exact ww_zretL C hR (dq dk_Flags_holds 112 rfl) (Or.inl rfl) h
      · refine ww_iconst C (dq dk_Flags_holds 109 rfl) ic_1 ?_
        refine ww_goto C 238 (dq dk_Flags_holds 110 rfl) (by decide) ?_
        exact ww_zretL C hR (dq dk_Flags_holds 112 rfl) (Or.inr rfl) h
set_option maxHeartbeats 4000000 in
set_option maxRecDepth 100000 in
theorem t_Flags_holds_B11 {k : Cfg} {res : Int32 × St} (C : Cx k prog_3_method_11_code "BundleHouse$Flags") (hR : RI k .boolean res) (hRm : k.2.2.2.1 = rm_Flags_holds) (hnL : k.2.2.2.2.2.2.2.2.2.2.2.1 = 3) (v0 : Nat) (v1 : Int32) (t0 : Int32) (ho_v0 : kd v0 = 9) (σ : St) (h : Flags_holds_B11 v0 v1 t0 σ = some res) : WW k 11 [(0, .ref (ad k v0)), (1, .int v1)] [.int t0] σ := by
  unfold Flags_holds_B11 at h
  refine ww_istore_n C [(2, .int t0), (0, .ref (ad k v0)), (1, .int v1)] rfl hnL (lt_ rfl) rfl (dq dk_Flags_holds 7 rfl) ?_
  refine ww_iload_n C 2 rfl rfl (dq dk_Flags_holds 8 rfl) ?_
  refine ww_iconst C (dq dk_Flags_holds 9 rfl) ic_1 ?_
  refine ww_ishr C (dq dk_Flags_holds 10 rfl) ?_
  refine ww_nmi h (fun x1 h => ?_)
  by_cases e0_0 : x1 = 0
  · rw [if_pos e0_0] at h
    refine ww_tabIn C 56 (dq dk_Flags_holds 11 rfl) (by rw [e0_0]; decide) (by rw [e0_0]; decide) (by rw [e0_0]; rfl) (by decide) ?_
    refine ww_iload_n C 0 rfl rfl (dq dk_Flags_holds 12 rfl) ?_
    refine ww_aload_n C 1 rfl rfl (dq dk_Flags_holds 13 rfl) ?_
    refine ww_geti C ko_Flags 3 ho_v0 (lt_ rfl) g_2_53 rfl rfl (dq dk_Flags_holds 14 rfl) ?_
    refine ww_iconst C (dq dk_Flags_holds 15 rfl) ic_1 ?_
    refine ww_icmp_ne C 69 (dq dk_Flags_holds 16 rfl) (by decide) h (fun h => ?_) (fun h => ?_)
    · refine ww_iconst C (dq dk_Flags_holds 19 rfl) ic_0 ?_
      refine ww_icmp_ne C 77 (dq dk_Flags_holds 20 rfl) (by decide) h (fun h => ?_) (fun h => ?_)
      · refine ww_iconst C (dq dk_Flags_holds 23 rfl) ic_0 ?_
        exact ww_zretL C hR (dq dk_Flags_holds 24 rfl) (Or.inl rfl) h
      · refine ww_iconst C (dq dk_Flags_holds 21 rfl) ic_1 ?_
        refine ww_goto C 78 (dq dk_Flags_holds 22 rfl) (by decide) ?_
        exact ww_zretL C hR (dq dk_Flags_holds 24 rfl) (Or.inr rfl) h
    · refine ww_iconst C (dq dk_Flags_holds 17 rfl) ic_1 ?_
      refine ww_goto C 70 (dq dk_Flags_holds 18 rfl) (by decide) ?_
      refine ww_icmp_ne C 77 (dq dk_Flags_holds 20 rfl) (by decide) h (fun h => ?_) (fun h => ?_)
      · refine ww_iconst C (dq dk_Flags_holds 23 rfl) ic_0 ?_
        exact ww_zretL C hR (dq dk_Flags_holds 24 rfl) (Or.inl rfl) h
      · refine ww_iconst C (dq dk_Flags_holds 21 rfl) ic_1 ?_
        refine ww_goto C 78 (dq dk_Flags_holds 22 rfl) (by decide) ?_
        exact ww_zretL C hR (dq dk_Flags_holds 24 rfl) (Or.inr rfl) h
  rw [if_neg e0_0] at h
  by_cases e1_1 : x1 = 1
  · rw [if_pos e1_1] at h
    refine ww_tabIn C 79 (dq dk_Flags_holds 11 rfl) (by rw [e1_1]; decide) (by rw [e1_1]; decide) (by rw [e1_1]; rfl) (by decide) ?_
    refine ww_iload_n C 0 rfl rfl (dq dk_Flags_holds 25 rfl) ?_
    refine ww_aload_n C 1 rfl rfl (dq dk_Flags_holds 26 rfl) ?_
    refine ww_geti C ko_Flags 0 ho_v0 (lt_ rfl) g_2_47 rfl rfl (dq dk_Flags_holds 27 rfl) ?_
    refine ww_iconst C (dq dk_Flags_holds 28 rfl) ic_1 ?_
    refine ww_icmp_ne C 92 (dq dk_Flags_holds 29 rfl) (by decide) h (fun h => ?_) (fun h => ?_)
    · refine ww_iconst C (dq dk_Flags_holds 32 rfl) ic_0 ?_
      refine ww_icmp_ne C 100 (dq dk_Flags_holds 33 rfl) (by decide) h (fun h => ?_) (fun h => ?_)
      · refine ww_iconst C (dq dk_Flags_holds 36 rfl) ic_0 ?_
        exact ww_zretL C hR (dq dk_Flags_holds 37 rfl) (Or.inl rfl) h
      · refine ww_iconst C (dq dk_Flags_holds 34 rfl) ic_1 ?_
        refine ww_goto C 101 (dq dk_Flags_holds 35 rfl) (by decide) ?_
        exact ww_zretL C hR (dq dk_Flags_holds 37 rfl) (Or.inr rfl) h
    · refine ww_iconst C (dq dk_Flags_holds 30 rfl) ic_1 ?_
      refine ww_goto C 93 (dq dk_Flags_holds 31 rfl) (by decide) ?_
      refine ww_icmp_ne C 100 (dq dk_Flags_holds 33 rfl) (by decide) h (fun h => ?_) (fun h => ?_)
      · refine ww_iconst C (dq dk_Flags_holds 36 rfl) ic_0 ?_
        exact ww_zretL C hR (dq dk_Flags_holds 37 rfl) (Or.inl rfl) h
      · refine ww_iconst C (dq dk_Flags_holds 34 rfl) ic_1 ?_
        refine ww_goto C 101 (dq dk_Flags_holds 35 rfl) (by decide) ?_
        exact ww_zretL C hR (dq dk_Flags_holds 37 rfl) (Or.inr rfl) h
  rw [if_neg e1_1] at h
  by_cases e2_2 : x1 = 2
  · rw [if_pos e2_2] at h
    refine ww_tabIn C 102 (dq dk_Flags_holds 11 rfl) (by rw [e2_2]; decide) (by rw [e2_2]; decide) (by rw [e2_2]; rfl) (by decide) ?_
    refine ww_iload_n C 0 rfl rfl (dq dk_Flags_holds 38 rfl) ?_
    refine ww_aload_n C 1 rfl rfl (dq dk_Flags_holds 39 rfl) ?_
    refine ww_geti C ko_Flags 1 ho_v0 (lt_ rfl) g_2_49 rfl rfl (dq dk_Flags_holds 40 rfl) ?_
    refine ww_iconst C (dq dk_Flags_holds 41 rfl) ic_1 ?_
    refine ww_icmp_ne C 115 (dq dk_Flags_holds 42 rfl) (by decide) h (fun h => ?_) (fun h => ?_)
    · refine ww_iconst C (dq dk_Flags_holds 45 rfl) ic_0 ?_
      refine ww_icmp_ne C 123 (dq dk_Flags_holds 46 rfl) (by decide) h (fun h => ?_) (fun h => ?_)
      · refine ww_iconst C (dq dk_Flags_holds 49 rfl) ic_0 ?_
        exact ww_zretL C hR (dq dk_Flags_holds 50 rfl) (Or.inl rfl) h
      · refine ww_iconst C (dq dk_Flags_holds 47 rfl) ic_1 ?_
        refine ww_goto C 124 (dq dk_Flags_holds 48 rfl) (by decide) ?_
        exact ww_zretL C hR (dq dk_Flags_holds 50 rfl) (Or.inr rfl) h
    · refine ww_iconst C (dq dk_Flags_holds 43 rfl) ic_1 ?_
      refine ww_goto C 116 (dq dk_Flags_holds 44 rfl) (by decide) ?_
      refine ww_icmp_ne C 123 (dq dk_Flags_holds 46 rfl) (by decide) h (fun h => ?_) (fun h => ?_)
      · refine ww_iconst C (dq dk_Flags_holds 49 rfl) ic_0 ?_
        exact ww_zretL C hR (dq dk_Flags_holds 50 rfl) (Or.inl rfl) h
      · refine ww_iconst C (dq dk_Flags_holds 47 rfl) ic_1 ?_
        refine ww_goto C 124 (dq dk_Flags_holds 48 rfl) (by decide) ?_
        exact ww_zretL C hR (dq dk_Flags_holds 50 rfl) (Or.inr rfl) h
  rw [if_neg e2_2] at h
  by_cases e3_3 : x1 = 3
  · rw [if_pos e3_3] at h
    refine ww_tabIn C 125 (dq dk_Flags_holds 11 rfl) (by rw [e3_3]; decide) (by rw [e3_3]; decide) (by rw [e3_3]; rfl) (by decide) ?_
    refine ww_iload_n C 0 rfl rfl (dq dk_Flags_holds 51 rfl) ?_
    refine ww_aload_n C 1 rfl rfl (dq dk_Flags_holds 52 rfl) ?_
    refine ww_geti C ko_Flags 0 ho_v0 (lt_ rfl) g_2_47 rfl rfl (dq dk_Flags_holds 53 rfl) ?_
    refine ww_iconst C (dq dk_Flags_holds 54 rfl) ic_1 ?_
    refine ww_icmp_eq C 142 (dq dk_Flags_holds 55 rfl) (by decide) h (fun h => ?_) (fun h => ?_)
    · refine ww_iconst C (dq dk_Flags_holds 60 rfl) ic_1 ?_
      refine ww_goto C 147 (dq dk_Flags_holds 61 rfl) (by decide) ?_
      refine ww_icmp_ne C 154 (dq dk_Flags_holds 63 rfl) (by decide) h (fun h => ?_) (fun h => ?_)
      · refine ww_iconst C (dq dk_Flags_holds 66 rfl) ic_0 ?_
        exact ww_zretL C hR (dq dk_Flags_holds 67 rfl) (Or.inl rfl) h
      · refine ww_iconst C (dq dk_Flags_holds 64 rfl) ic_1 ?_
        refine ww_goto C 155 (dq dk_Flags_holds 65 rfl) (by decide) ?_
        exact ww_zretL C hR (dq dk_Flags_holds 67 rfl) (Or.inr rfl) h
    · refine ww_aload_n C 1 rfl rfl (dq dk_Flags_holds 56 rfl) ?_
      refine ww_geti C ko_Flags 1 ho_v0 (lt_ rfl) g_2_49 rfl rfl (dq dk_Flags_holds 57 rfl) ?_
      refine ww_iconst C (dq dk_Flags_holds 58 rfl) ic_1 ?_
      refine ww_icmp_ne C 146 (dq dk_Flags_holds 59 rfl) (by decide) h (fun h => ?_) (fun h => ?_)
      · refine ww_iconst C (dq dk_Flags_holds 62 rfl) ic_0 ?_
        refine ww_icmp_ne C 154 (dq dk_Flags_holds 63 rfl) (by decide) h (fun h => ?_) (fun h => ?_)
        · refine ww_iconst C (dq dk_Flags_holds 66 rfl) ic_0 ?_
          exact ww_zretL C hR (dq dk_Flags_holds 67 rfl) (Or.inl rfl) h
        · refine ww_iconst C (dq dk_Flags_holds 64 rfl) ic_1 ?_
          refine ww_goto C 155 (dq dk_Flags_holds 65 rfl) (by decide) ?_
          exact ww_zretL C hR (dq dk_Flags_holds 67 rfl) (Or.inr rfl) h
      · refine ww_iconst C (dq dk_Flags_holds 60 rfl) ic_1 ?_
        refine ww_goto C 147 (dq dk_Flags_holds 61 rfl) (by decide) ?_
        refine ww_icmp_ne C 154 (dq dk_Flags_holds 63 rfl) (by decide) h (fun h => ?_) (fun h => ?_)
        · refine ww_iconst C (dq dk_Flags_holds 66 rfl) ic_0 ?_
          exact ww_zretL C hR (dq dk_Flags_holds 67 rfl) (Or.inl rfl) h
        · refine ww_iconst C (dq dk_Flags_holds 64 rfl) ic_1 ?_
          refine ww_goto C 155 (dq dk_Flags_holds 65 rfl) (by decide) ?_
          exact ww_zretL C hR (dq dk_Flags_holds 67 rfl) (Or.inr rfl) h
  rw [if_neg e3_3] at h
  by_cases e4_4 : x1 = 4
  · rw [if_pos e4_4] at h
    refine ww_tabIn C 156 (dq dk_Flags_holds 11 rfl) (by rw [e4_4]; decide) (by rw [e4_4]; decide) (by rw [e4_4]; rfl) (by decide) ?_
    refine ww_iload_n C 0 rfl rfl (dq dk_Flags_holds 68 rfl) ?_
    refine ww_aload_n C 1 rfl rfl (dq dk_Flags_holds 69 rfl) ?_
    refine ww_geti C ko_Flags 2 ho_v0 (lt_ rfl) g_2_51 rfl rfl (dq dk_Flags_holds 70 rfl) ?_
    refine ww_iconst C (dq dk_Flags_holds 71 rfl) ic_1 ?_
    refine ww_icmp_ne C 169 (dq dk_Flags_holds 72 rfl) (by decide) h (fun h => ?_) (fun h => ?_)
    · refine ww_iconst C (dq dk_Flags_holds 75 rfl) ic_0 ?_
      refine ww_icmp_ne C 177 (dq dk_Flags_holds 76 rfl) (by decide) h (fun h => ?_) (fun h => ?_)
      · refine ww_iconst C (dq dk_Flags_holds 79 rfl) ic_0 ?_
        exact ww_zretL C hR (dq dk_Flags_holds 80 rfl) (Or.inl rfl) h
      · refine ww_iconst C (dq dk_Flags_holds 77 rfl) ic_1 ?_
        refine ww_goto C 178 (dq dk_Flags_holds 78 rfl) (by decide) ?_
        exact ww_zretL C hR (dq dk_Flags_holds 80 rfl) (Or.inr rfl) h
    · refine ww_iconst C (dq dk_Flags_holds 73 rfl) ic_1 ?_
      refine ww_goto C 170 (dq dk_Flags_holds 74 rfl) (by decide) ?_
      refine ww_icmp_ne C 177 (dq dk_Flags_holds 76 rfl) (by decide) h (fun h => ?_) (fun h => ?_)
      · refine ww_iconst C (dq dk_Flags_holds 79 rfl) ic_0 ?_
        exact ww_zretL C hR (dq dk_Flags_holds 80 rfl) (Or.inl rfl) h
      · refine ww_iconst C (dq dk_Flags_holds 77 rfl) ic_1 ?_
        refine ww_goto C 178 (dq dk_Flags_holds 78 rfl) (by decide) ?_
        exact ww_zretL C hR (dq dk_Flags_holds 80 rfl) (Or.inr rfl) h
  rw [if_neg e4_4] at h
  by_cases e5_5 : x1 = 5
  · rw [if_pos e5_5] at h
    refine ww_tabIn C 205 (dq dk_Flags_holds 11 rfl) (by rw [e5_5]; decide) (by rw [e5_5]; decide) (by rw [e5_5]; rfl) (by decide) ?_
    exact ww_lv [1, 0] rfl (t_Flags_holds_B205 C hR hRm hnL v0 t0 ho_v0 σ h)
  rw [if_neg e5_5] at h
  by_cases e6_6 : x1 = 6
  · rw [if_pos e6_6] at h
    refine ww_tabIn C 179 (dq dk_Flags_holds 11 rfl) (by rw [e6_6]; decide) (by rw [e6_6]; decide) (by rw [e6_6]; rfl) (by decide) ?_
    refine ww_iload_n C 0 rfl rfl (dq dk_Flags_holds 81 rfl) ?_
    refine ww_aload_n C 1 rfl rfl (dq dk_Flags_holds 82 rfl) ?_
    refine ww_geti C ko_Flags 2 ho_v0 (lt_ rfl) g_2_51 rfl rfl (dq dk_Flags_holds 83 rfl) ?_
    refine ww_aload_n C 1 rfl rfl (dq dk_Flags_holds 84 rfl) ?_
    refine ww_geti C ko_Flags 3 ho_v0 (lt_ rfl) g_2_53 rfl rfl (dq dk_Flags_holds 85 rfl) ?_
    refine ww_icmp_eq C 195 (dq dk_Flags_holds 86 rfl) (by decide) h (fun h => ?_) (fun h => ?_)
    · refine ww_iconst C (dq dk_Flags_holds 89 rfl) ic_0 ?_
      refine ww_icmp_ne C 203 (dq dk_Flags_holds 90 rfl) (by decide) h (fun h => ?_) (fun h => ?_)
      · refine ww_iconst C (dq dk_Flags_holds 93 rfl) ic_0 ?_
        exact ww_zretL C hR (dq dk_Flags_holds 94 rfl) (Or.inl rfl) h
      · refine ww_iconst C (dq dk_Flags_holds 91 rfl) ic_1 ?_
        refine ww_goto C 204 (dq dk_Flags_holds 92 rfl) (by decide) ?_
        exact ww_zretL C hR (dq dk_Flags_holds 94 rfl) (Or.inr rfl) h
    · refine ww_iconst C (dq dk_Flags_holds 87 rfl) ic_1 ?_
      refine ww_goto C 196 (dq dk_Flags_holds 88 rfl) (by decide) ?_
      refine ww_icmp_ne C 203 (dq dk_Flags_holds 90 rfl) (by decide) h (fun h => ?_) (fun h => ?_)
      · refine ww_iconst C (dq dk_Flags_holds 93 rfl) ic_0 ?_
        exact ww_zretL C hR (dq dk_Flags_holds 94 rfl) (Or.inl rfl) h
      · refine ww_iconst C (dq dk_Flags_holds 91 rfl) ic_1 ?_
        refine ww_goto C 204 (dq dk_Flags_holds 92 rfl) (by decide) ?_
        exact ww_zretL C hR (dq dk_Flags_holds 94 rfl) (Or.inr rfl) h
  rw [if_neg e6_6] at h
  have ne0_0 := lv_neT (a := 0) e0_0 (by decide)
  have ne1_1 := lv_neT (a := 1) e1_1 (by decide)
  have ne2_2 := lv_neT (a := 2) e2_2 (by decide)
  have ne3_3 := lv_neT (a := 3) e3_3 (by decide)
  have ne4_4 := lv_neT (a := 4) e4_4 (by decide)
  have ne5_5 := lv_neT (a := 5) e5_5 (by decide)
  have ne6_6 := lv_neT (a := 6) e6_6 (by decide)
  refine ww_tabOut C 205 (dq dk_Flags_holds 11 rfl) (by omega) (by decide) ?_
  exact ww_lv [1, 0] rfl (t_Flags_holds_B205 C hR hRm hnL v0 t0 ho_v0 σ h)
set_option maxHeartbeats 4000000 in
set_option maxRecDepth 100000 in
theorem c_Flags_holds (v0 : Nat) (ho_v0 : kd v0 = 9) (v1 : Int32) : MI y_Flags_holds rm_Flags_holds prog_3_method_11_code 3 .boolean (fun a => [.ref (a v0), .int v1]) (Flags_holds v0 v1) := by
  refine mi_of (by decide) (fun _ => le_ rfl) ?_
  intro k res σ C hR hRm hnL h
  unfold Flags_holds at h
  show WW k 0 [(0, .ref (ad k v0)), (1, .int v1)] [] σ
  refine ww_iload_n C 1 rfl rfl (dq dk_Flags_holds 0 rfl) ?_
  refine ww_iconst C (dq dk_Flags_holds 1 rfl) ic_1 ?_
  refine ww_iand C (dq dk_Flags_holds 2 rfl) ?_
  refine ww_if_ne C 10 (dq dk_Flags_holds 3 rfl) (by decide) h (fun h => ?_) (fun h => ?_)
  · refine ww_iconst C (dq dk_Flags_holds 6 rfl) ic_0 ?_
    exact ww_lv [0, 1] rfl (t_Flags_holds_B11 C hR hRm hnL v0 v1 0 ho_v0 σ h)
  · refine ww_iconst C (dq dk_Flags_holds 4 rfl) ic_1 ?_
    refine ww_goto C 11 (dq dk_Flags_holds 5 rfl) (by decide) ?_
    exact ww_lv [0, 1] rfl (t_Flags_holds_B11 C hR hRm hnL v0 v1 1 ho_v0 σ h)
abbrev y_Machine_forget : MethodName := ⟨"BundleHouse$Machine", "forget", "()V"⟩
def dl_Machine_forget : List (Nat × Instr × Nat) := [(0, .iconst 0, 1), (1, .istore_n 1, 1), (2, .iload_n 1, 1), (3, .bipush 8, 2), (5, .if_icmp .ge 16, 3), (8, .aload_n 0, 1), (9, .getfield 18, 3), (12, .iload_n 1, 1), (13, .iconst 0, 1), (14, .iastore, 1), (15, .iinc 1 1, 3), (18, .goto (-16), 3), (21, .iconst 0, 1), (22, .istore_n 1, 1), (23, .iload_n 1, 1), (24, .sipush 1024, 3), (27, .if_icmp .ge 16, 3), (30, .aload_n 0, 1), (31, .getfield 22, 3), (34, .iload_n 1, 1), (35, .iconst 0, 1), (36, .iastore, 1), (37, .iinc 1 1, 3), (40, .goto (-17), 3), (43, .aload_n 0, 1), (44, .iconst 0, 1), (45, .putfield 31, 3), (48, .return_, 1)]
set_option maxRecDepth 100000 in
theorem dk_Machine_forget : ∀ q ∈ dl_Machine_forget, decode prog_5_method_2_code q.1 = .ok q.2 := by decide +kernel
abbrev rm_Machine_forget : Room := { frames := 0, cells := 0, slots := 0, locals := 0 }
theorem cw_Machine_forget : CWV y_Machine_forget prog_5_method_2_code 2 none 0 := ⟨⟨g_4_146, g_1_9, by decide, by decide, by decide +kernel⟩, g_4_144, g_4_145⟩
set_option maxHeartbeats 4000000 in
set_option maxRecDepth 100000 in
theorem t_Machine_forget_B23 {k : Cfg} {res : St} (C : Cx k prog_5_method_2_code "BundleHouse$Machine") (hR : RV k res) (hRm : k.2.2.2.1 = rm_Machine_forget) (hnL : k.2.2.2.2.2.2.2.2.2.2.2.1 = 2) : ∀ (n : Nat) (v0 : Nat) (v1 : Int32) (ho_v0 : kd v0 = 8) (σ : St), Machine_forget_B23 n v0 v1 σ = some res → WW k 23 [(0, .ref (ad k v0)), (1, .int v1)] [] σ := by
  intro n
  induction n with
  | zero =>
    intro v0 v1 ho_v0 σ h
    have h : (none : Option (St)) = some res := h
    cases h
  | succ n ih =>
    intro v0 v1 ho_v0 σ h
    unfold Machine_forget_B23 at h
    refine ww_iload_n C 1 rfl rfl (dq dk_Machine_forget 14 rfl) ?_
    refine ww_sipush C (dq dk_Machine_forget 15 rfl) sp_1024 ?_
    refine ww_icmp_ge C 43 (dq dk_Machine_forget 16 rfl) (by decide) h (fun h => ?_) (fun h => ?_)
    · refine ww_aload_n C 0 rfl rfl (dq dk_Machine_forget 24 rfl) ?_
      refine ww_iconst C (dq dk_Machine_forget 25 rfl) ic_0 ?_
      refine ww_puti C ko_Machine 10 ho_v0 (lt_ rfl) g_2_85 rfl rfl rfl rfl (dq dk_Machine_forget 26 rfl) h (fun σ1 h => ?_)
      exact ww_vret C hR (dq dk_Machine_forget 27 rfl) h
    · refine ww_aload_n C 0 rfl rfl (dq dk_Machine_forget 17 rfl) ?_
      refine ww_getr C ko_Machine 8 ho_v0 (lt_ rfl) g_2_83 rfl rfl (dq dk_Machine_forget 18 rfl) ?_
      refine ww_iload_n C 1 rfl rfl (dq dk_Machine_forget 19 rfl) ?_
      refine ww_iconst C (dq dk_Machine_forget 20 rfl) ic_0 ?_
      refine ww_iast C (kc_Machine_8 _ ho_v0).1 (kc_Machine_8 _ ho_v0).2 (dq dk_Machine_forget 21 rfl) h (fun σ2 h => ?_)
      refine ww_iinc C 1 (fun z => [(1, .int z), (0, .ref (ad k v0))]) rfl ic_1 hnL (lt_ rfl) (fun _ => rfl) (dq dk_Machine_forget 22 rfl) h (fun x3 h => ?_)
      refine ww_goto C 23 (dq dk_Machine_forget 23 rfl) (by decide) ?_
      exact ww_lv [1, 0] rfl (ih v0 x3 ho_v0 σ2 h)
set_option maxHeartbeats 4000000 in
set_option maxRecDepth 100000 in
theorem t_Machine_forget_B2 {k : Cfg} {res : St} (C : Cx k prog_5_method_2_code "BundleHouse$Machine") (hR : RV k res) (hRm : k.2.2.2.1 = rm_Machine_forget) (hnL : k.2.2.2.2.2.2.2.2.2.2.2.1 = 2) : ∀ (n : Nat) (v0 : Nat) (v1 : Int32) (ho_v0 : kd v0 = 8) (σ : St), Machine_forget_B2 n v0 v1 σ = some res → WW k 2 [(0, .ref (ad k v0)), (1, .int v1)] [] σ := by
  intro n
  induction n with
  | zero =>
    intro v0 v1 ho_v0 σ h
    have h : (none : Option (St)) = some res := h
    cases h
  | succ n ih =>
    intro v0 v1 ho_v0 σ h
    unfold Machine_forget_B2 at h
    refine ww_iload_n C 1 rfl rfl (dq dk_Machine_forget 2 rfl) ?_
    refine ww_bipush C (dq dk_Machine_forget 3 rfl) bp_8 ?_
    refine ww_icmp_ge C 21 (dq dk_Machine_forget 4 rfl) (by decide) h (fun h => ?_) (fun h => ?_)
    · refine ww_iconst C (dq dk_Machine_forget 12 rfl) ic_0 ?_
      refine ww_istore_n C [(1, .int 0), (0, .ref (ad k v0))] rfl hnL (lt_ rfl) rfl (dq dk_Machine_forget 13 rfl) ?_
      exact ww_lv [1, 0] rfl (t_Machine_forget_B23 C hR hRm hnL FU v0 0 ho_v0 σ h)
    · refine ww_aload_n C 0 rfl rfl (dq dk_Machine_forget 5 rfl) ?_
      refine ww_getr C ko_Machine 7 ho_v0 (lt_ rfl) g_2_82 rfl rfl (dq dk_Machine_forget 6 rfl) ?_
      refine ww_iload_n C 1 rfl rfl (dq dk_Machine_forget 7 rfl) ?_
      refine ww_iconst C (dq dk_Machine_forget 8 rfl) ic_0 ?_
      refine ww_iast C (kc_Machine_7 _ ho_v0).1 (kc_Machine_7 _ ho_v0).2 (dq dk_Machine_forget 9 rfl) h (fun σ1 h => ?_)
      refine ww_iinc C 1 (fun z => [(1, .int z), (0, .ref (ad k v0))]) rfl ic_1 hnL (lt_ rfl) (fun _ => rfl) (dq dk_Machine_forget 10 rfl) h (fun x2 h => ?_)
      refine ww_goto C 2 (dq dk_Machine_forget 11 rfl) (by decide) ?_
      exact ww_lv [1, 0] rfl (ih v0 x2 ho_v0 σ1 h)
set_option maxHeartbeats 4000000 in
set_option maxRecDepth 100000 in
theorem c_Machine_forget (v0 : Nat) (ho_v0 : kd v0 = 8) : MV y_Machine_forget rm_Machine_forget prog_5_method_2_code 2 (fun a => [.ref (a v0)]) (Machine_forget v0) := by
  refine mv_of (by decide) (fun _ => le_ rfl) ?_
  intro k res σ C hR hRm hnL h
  unfold Machine_forget at h
  show WW k 0 [(0, .ref (ad k v0))] [] σ
  refine ww_iconst C (dq dk_Machine_forget 0 rfl) ic_0 ?_
  refine ww_istore_n C [(1, .int 0), (0, .ref (ad k v0))] rfl hnL (lt_ rfl) rfl (dq dk_Machine_forget 1 rfl) ?_
  exact ww_lv [1, 0] rfl (t_Machine_forget_B2 C hR hRm hnL FU v0 0 ho_v0 σ h)
abbrev y_Machine_beginAs : MethodName := ⟨"BundleHouse$Machine", "beginAs", "(LBundleHouse$Machine;)V"⟩
def dl_Machine_beginAs : List (Nat × Instr × Nat) := [(0, .aload_n 1, 1), (1, .getfield 18, 3), (4, .iconst 0, 1), (5, .aload_n 0, 1), (6, .getfield 18, 3), (9, .iconst 0, 1), (10, .bipush 8, 2), (12, .invokestatic 35, 3), (15, .aload_n 1, 1), (16, .getfield 22, 3), (19, .iconst 0, 1), (20, .aload_n 0, 1), (21, .getfield 22, 3), (24, .iconst 0, 1), (25, .sipush 1024, 3), (28, .invokestatic 35, 3), (31, .aload_n 1, 1), (32, .getfield 25, 3), (35, .iconst 0, 1), (36, .aload_n 0, 1), (37, .getfield 25, 3), (40, .iconst 0, 1), (41, .bipush 50, 2), (43, .invokestatic 35, 3), (46, .aload_n 0, 1), (47, .aload_n 1, 1), (48, .getfield 31, 3), (51, .putfield 31, 3), (54, .aload_n 0, 1), (55, .iconst 0, 1), (56, .putfield 41, 3), (59, .aload_n 0, 1), (60, .iconst 0, 1), (61, .putfield 44, 3), (64, .aload_n 0, 1), (65, .getfield 12, 3), (68, .iconst 0, 1), (69, .invokevirtual 47, 3), (72, .aload_n 0, 1), (73, .iconst 0, 1), (74, .putfield 51, 3), (77, .aload_n 0, 1), (78, .sipush 256, 3), (81, .putfield 55, 3), (84, .aload_n 0, 1), (85, .iconst 0, 1), (86, .putfield 58, 3), (89, .aload_n 0, 1), (90, .iconst 0, 1), (91, .putfield 61, 3), (94, .aload_n 0, 1), (95, .iconst 0, 1), (96, .putfield 64, 3), (99, .aload_n 0, 1), (100, .iconst 1, 1), (101, .putfield 67, 3), (104, .return_, 1)]
set_option maxRecDepth 100000 in
theorem dk_Machine_beginAs : ∀ q ∈ dl_Machine_beginAs, decode prog_5_method_3_code q.1 = .ok q.2 := by decide +kernel
abbrev rm_Machine_beginAs : Room := { frames := 1, cells := 0, slots := 0, locals := 26 }
theorem cw_Machine_beginAs : CWV y_Machine_beginAs prog_5_method_3_code 2 none 1 := ⟨⟨g_5_42, g_1_9, by decide, by decide, by decide +kernel⟩, g_5_40, g_5_41⟩
set_option maxHeartbeats 4000000 in
set_option maxRecDepth 100000 in
theorem c_Machine_beginAs (v0 : Nat) (ho_v0 : kd v0 = 8) (v1 : Nat) (ho_v1 : kd v1 = 8) : MV y_Machine_beginAs rm_Machine_beginAs prog_5_method_3_code 2 (fun a => [.ref (a v0), .ref (a v1)]) (Machine_beginAs v0 v1) := by
  refine mv_of (by decide) (fun _ => le_ rfl) ?_
  intro k res σ C hR hRm hnL h
  unfold Machine_beginAs at h
  show WW k 0 [(0, .ref (ad k v0)), (1, .ref (ad k v1))] [] σ
  refine ww_aload_n C 1 rfl rfl (dq dk_Machine_beginAs 0 rfl) ?_
  refine ww_getr C ko_Machine 7 ho_v1 (lt_ rfl) g_2_82 rfl rfl (dq dk_Machine_beginAs 1 rfl) ?_
  refine ww_iconst C (dq dk_Machine_beginAs 2 rfl) ic_0 ?_
  refine ww_aload_n C 0 rfl rfl (dq dk_Machine_beginAs 3 rfl) ?_
  refine ww_getr C ko_Machine 7 ho_v0 (lt_ rfl) g_2_82 rfl rfl (dq dk_Machine_beginAs 4 rfl) ?_
  refine ww_iconst C (dq dk_Machine_beginAs 5 rfl) ic_0 ?_
  refine ww_bipush C (dq dk_Machine_beginAs 6 rfl) bp_8 ?_
  refine ww_copy C (kc_Machine_7 _ ho_v1).1 (kc_Machine_7 _ ho_v1).2 (kc_Machine_7 _ ho_v0).1 (kc_Machine_7 _ ho_v0).2 g_5_43 g_3_88 g_3_87 g_1_14 (by rw [hRm]; exact ⟨le_ rfl, le_ rfl⟩) (dq dk_Machine_beginAs 7 rfl) h (fun σ1 h => ?_)
  refine ww_aload_n C 1 rfl rfl (dq dk_Machine_beginAs 8 rfl) ?_
  refine ww_getr C ko_Machine 8 ho_v1 (lt_ rfl) g_2_83 rfl rfl (dq dk_Machine_beginAs 9 rfl) ?_
  refine ww_iconst C (dq dk_Machine_beginAs 10 rfl) ic_0 ?_
  refine ww_aload_n C 0 rfl rfl (dq dk_Machine_beginAs 11 rfl) ?_
  refine ww_getr C ko_Machine 8 ho_v0 (lt_ rfl) g_2_83 rfl rfl (dq dk_Machine_beginAs 12 rfl) ?_
  refine ww_iconst C (dq dk_Machine_beginAs 13 rfl) ic_0 ?_
  refine ww_sipush C (dq dk_Machine_beginAs 14 rfl) sp_1024 ?_
  refine ww_copy C (kc_Machine_8 _ ho_v1).1 (kc_Machine_8 _ ho_v1).2 (kc_Machine_8 _ ho_v0).1 (kc_Machine_8 _ ho_v0).2 g_5_43 g_3_88 g_3_87 g_1_14 (by rw [hRm]; exact ⟨le_ rfl, le_ rfl⟩) (dq dk_Machine_beginAs 15 rfl) h (fun σ2 h => ?_)
  refine ww_aload_n C 1 rfl rfl (dq dk_Machine_beginAs 16 rfl) ?_
  refine ww_getr C ko_Machine 9 ho_v1 (lt_ rfl) g_2_84 rfl rfl (dq dk_Machine_beginAs 17 rfl) ?_
  refine ww_iconst C (dq dk_Machine_beginAs 18 rfl) ic_0 ?_
  refine ww_aload_n C 0 rfl rfl (dq dk_Machine_beginAs 19 rfl) ?_
  refine ww_getr C ko_Machine 9 ho_v0 (lt_ rfl) g_2_84 rfl rfl (dq dk_Machine_beginAs 20 rfl) ?_
  refine ww_iconst C (dq dk_Machine_beginAs 21 rfl) ic_0 ?_
  refine ww_bipush C (dq dk_Machine_beginAs 22 rfl) bp_50 ?_
  refine ww_copy C (kc_Machine_9 _ ho_v1).1 (kc_Machine_9 _ ho_v1).2 (kc_Machine_9 _ ho_v0).1 (kc_Machine_9 _ ho_v0).2 g_5_43 g_3_88 g_3_87 g_1_14 (by rw [hRm]; exact ⟨le_ rfl, le_ rfl⟩) (dq dk_Machine_beginAs 23 rfl) h (fun σ3 h => ?_)
  refine ww_aload_n C 0 rfl rfl (dq dk_Machine_beginAs 24 rfl) ?_
  refine ww_aload_n C 1 rfl rfl (dq dk_Machine_beginAs 25 rfl) ?_
  refine ww_geti C ko_Machine 10 ho_v1 (lt_ rfl) g_2_85 rfl rfl (dq dk_Machine_beginAs 26 rfl) ?_
  refine ww_puti C ko_Machine 10 ho_v0 (lt_ rfl) g_2_85 rfl rfl rfl rfl (dq dk_Machine_beginAs 27 rfl) h (fun σ4 h => ?_)
  refine ww_aload_n C 0 rfl rfl (dq dk_Machine_beginAs 28 rfl) ?_
  refine ww_iconst C (dq dk_Machine_beginAs 29 rfl) ic_0 ?_
  refine ww_puti C ko_Machine 11 ho_v0 (lt_ rfl) g_2_86 rfl rfl rfl rfl (dq dk_Machine_beginAs 30 rfl) h (fun σ5 h => ?_)
  refine ww_aload_n C 0 rfl rfl (dq dk_Machine_beginAs 31 rfl) ?_
  refine ww_iconst C (dq dk_Machine_beginAs 32 rfl) ic_0 ?_
  refine ww_puti C ko_Machine 13 ho_v0 (lt_ rfl) g_2_88 rfl rfl rfl rfl (dq dk_Machine_beginAs 33 rfl) h (fun σ6 h => ?_)
  refine ww_aload_n C 0 rfl rfl (dq dk_Machine_beginAs 34 rfl) ?_
  refine ww_getr C ko_Machine 0 ho_v0 (lt_ rfl) g_2_64 rfl rfl (dq dk_Machine_beginAs 35 rfl) ?_
  refine ww_iconst C (dq dk_Machine_beginAs 36 rfl) ic_0 ?_
  refine ww_cVv (st := []) C (c_Flags_setAll (ch v0 0) (kc_Machine_0 _ ho_v0) 0) cw_Flags_setAll (kc_Machine_0 _ ho_v0) (lt_ rfl) rfl g_5_44 hRm ⟨⟨rfl, rfl⟩, le_ rfl, le_ rfl⟩ rfl rfl rfl (le_ rfl) (dq dk_Machine_beginAs 37 rfl) h (fun σ7 h => ?_)
  refine ww_aload_n C 0 rfl rfl (dq dk_Machine_beginAs 38 rfl) ?_
  refine ww_iconst C (dq dk_Machine_beginAs 39 rfl) ic_0 ?_
  refine ww_putZ C ko_Machine 5 ho_v0 (lt_ rfl) g_2_78 rfl rfl rfl rfl (Or.inl rfl) (dq dk_Machine_beginAs 40 rfl) h (fun σ8 h => ?_)
  refine ww_aload_n C 0 rfl rfl (dq dk_Machine_beginAs 41 rfl) ?_
  refine ww_sipush C (dq dk_Machine_beginAs 42 rfl) sp_256 ?_
  refine ww_puti C ko_Machine 1 ho_v0 (lt_ rfl) g_2_69 rfl rfl rfl rfl (dq dk_Machine_beginAs 43 rfl) h (fun σ9 h => ?_)
  refine ww_aload_n C 0 rfl rfl (dq dk_Machine_beginAs 44 rfl) ?_
  refine ww_iconst C (dq dk_Machine_beginAs 45 rfl) ic_0 ?_
  refine ww_puti C ko_Machine 2 ho_v0 (lt_ rfl) g_2_72 rfl rfl rfl rfl (dq dk_Machine_beginAs 46 rfl) h (fun σ10 h => ?_)
  refine ww_aload_n C 0 rfl rfl (dq dk_Machine_beginAs 47 rfl) ?_
  refine ww_iconst C (dq dk_Machine_beginAs 48 rfl) ic_0 ?_
  refine ww_puti C ko_Machine 3 ho_v0 (lt_ rfl) g_2_75 rfl rfl rfl rfl (dq dk_Machine_beginAs 49 rfl) h (fun σ11 h => ?_)
  refine ww_aload_n C 0 rfl rfl (dq dk_Machine_beginAs 50 rfl) ?_
  refine ww_iconst C (dq dk_Machine_beginAs 51 rfl) ic_0 ?_
  refine ww_puti C ko_Machine 4 ho_v0 (lt_ rfl) g_2_76 rfl rfl rfl rfl (dq dk_Machine_beginAs 52 rfl) h (fun σ12 h => ?_)
  refine ww_aload_n C 0 rfl rfl (dq dk_Machine_beginAs 53 rfl) ?_
  refine ww_iconst C (dq dk_Machine_beginAs 54 rfl) ic_1 ?_
  refine ww_putZ C ko_Machine 6 ho_v0 (lt_ rfl) g_2_80 rfl rfl rfl rfl (Or.inr rfl) (dq dk_Machine_beginAs 55 rfl) h (fun σ13 h => ?_)
  exact ww_vret C hR (dq dk_Machine_beginAs 56 rfl) h
abbrev y_Machine_addInput : MethodName := ⟨"BundleHouse$Machine", "addInput", "(I)Z"⟩
def dl_Machine_addInput : List (Nat × Instr × Nat) := [(0, .aload_n 0, 1), (1, .getfield 31, 3), (4, .bipush 50, 2), (6, .if_icmp .lt 5, 3), (9, .iconst 0, 1), (10, .ireturn, 1), (11, .aload_n 0, 1), (12, .getfield 25, 3), (15, .aload_n 0, 1), (16, .getfield 31, 3), (19, .iload_n 1, 1), (20, .iastore, 1), (21, .aload_n 0, 1), (22, .dup, 1), (23, .getfield 31, 3), (26, .iconst 1, 1), (27, .iadd, 1), (28, .putfield 31, 3), (31, .iconst 1, 1), (32, .ireturn, 1)]
set_option maxRecDepth 100000 in
theorem dk_Machine_addInput : ∀ q ∈ dl_Machine_addInput, decode prog_5_method_4_code q.1 = .ok q.2 := by decide +kernel
abbrev rm_Machine_addInput : Room := { frames := 0, cells := 0, slots := 0, locals := 0 }
theorem cw_Machine_addInput : CWV y_Machine_addInput prog_5_method_4_code 2 (some .boolean) 1 := ⟨⟨g_4_142, g_1_9, by decide, by decide, by decide +kernel⟩, g_4_140, g_4_141⟩
set_option maxHeartbeats 4000000 in
set_option maxRecDepth 100000 in
theorem c_Machine_addInput (v0 : Nat) (ho_v0 : kd v0 = 8) (v1 : Int32) : MI y_Machine_addInput rm_Machine_addInput prog_5_method_4_code 2 .boolean (fun a => [.ref (a v0), .int v1]) (Machine_addInput v0 v1) := by
  refine mi_of (by decide) (fun _ => le_ rfl) ?_
  intro k res σ C hR hRm hnL h
  unfold Machine_addInput at h
  show WW k 0 [(0, .ref (ad k v0)), (1, .int v1)] [] σ
  refine ww_aload_n C 0 rfl rfl (dq dk_Machine_addInput 0 rfl) ?_
  refine ww_geti C ko_Machine 10 ho_v0 (lt_ rfl) g_2_85 rfl rfl (dq dk_Machine_addInput 1 rfl) ?_
  refine ww_bipush C (dq dk_Machine_addInput 2 rfl) bp_50 ?_
  refine ww_icmp_lt C 11 (dq dk_Machine_addInput 3 rfl) (by decide) h (fun h => ?_) (fun h => ?_)
  · refine ww_aload_n C 0 rfl rfl (dq dk_Machine_addInput 6 rfl) ?_
    refine ww_getr C ko_Machine 9 ho_v0 (lt_ rfl) g_2_84 rfl rfl (dq dk_Machine_addInput 7 rfl) ?_
    refine ww_aload_n C 0 rfl rfl (dq dk_Machine_addInput 8 rfl) ?_
    refine ww_geti C ko_Machine 10 ho_v0 (lt_ rfl) g_2_85 rfl rfl (dq dk_Machine_addInput 9 rfl) ?_
    refine ww_iload_n C 1 rfl rfl (dq dk_Machine_addInput 10 rfl) ?_
    refine ww_iast C (kc_Machine_9 _ ho_v0).1 (kc_Machine_9 _ ho_v0).2 (dq dk_Machine_addInput 11 rfl) h (fun σ1 h => ?_)
    refine ww_aload_n C 0 rfl rfl (dq dk_Machine_addInput 12 rfl) ?_
    refine ww_dup C rfl (dq dk_Machine_addInput 13 rfl) ?_
    refine ww_geti C ko_Machine 10 ho_v0 (lt_ rfl) g_2_85 rfl rfl (dq dk_Machine_addInput 14 rfl) ?_
    refine ww_iconst C (dq dk_Machine_addInput 15 rfl) ic_1 ?_
    refine ww_iadd C (dq dk_Machine_addInput 16 rfl) ?_
    refine ww_puti C ko_Machine 10 ho_v0 (lt_ rfl) g_2_85 rfl rfl rfl rfl (dq dk_Machine_addInput 17 rfl) h (fun σ2 h => ?_)
    refine ww_iconst C (dq dk_Machine_addInput 18 rfl) ic_1 ?_
    exact ww_zretL C hR (dq dk_Machine_addInput 19 rfl) (Or.inr rfl) h
  · refine ww_iconst C (dq dk_Machine_addInput 4 rfl) ic_0 ?_
    exact ww_zretL C hR (dq dk_Machine_addInput 5 rfl) (Or.inl rfl) h
abbrev y_House_isRegister : MethodName := ⟨"BundleHouse", "isRegister", "(I)Z"⟩
def dl_House_isRegister : List (Nat × Instr × Nat) := [(0, .iload_n 0, 1), (1, .ifCond .lt 13, 3), (4, .iload_n 0, 1), (5, .bipush 8, 2), (7, .if_icmp .ge 7, 3), (10, .iconst 1, 1), (11, .goto 4, 3), (14, .iconst 0, 1), (15, .ireturn, 1)]
set_option maxRecDepth 100000 in
theorem dk_House_isRegister : ∀ q ∈ dl_House_isRegister, decode prog_1_method_23_code q.1 = .ok q.2 := by decide +kernel
abbrev rm_House_isRegister : Room := { frames := 0, cells := 0, slots := 0, locals := 0 }
theorem cw_House_isRegister : CWS y_House_isRegister prog_1_method_23_code 1 (some .boolean) 1 := ⟨⟨g_3_112, g_1_1, by decide, by decide, by decide +kernel⟩, g_3_111⟩
set_option maxHeartbeats 4000000 in
set_option maxRecDepth 100000 in
theorem c_House_isRegister (v0 : Int32) : MI y_House_isRegister rm_House_isRegister prog_1_method_23_code 1 .boolean (fun a => [.int v0]) (House_isRegister v0) := by
  refine mi_of (by decide) (fun _ => le_ rfl) ?_
  intro k res σ C hR hRm hnL h
  unfold House_isRegister at h
  show WW k 0 [(0, .int v0)] [] σ
  refine ww_iload_n C 0 rfl rfl (dq dk_House_isRegister 0 rfl) ?_
  refine ww_if_lt C 14 (dq dk_House_isRegister 1 rfl) (by decide) h (fun h => ?_) (fun h => ?_)
  · refine ww_iconst C (dq dk_House_isRegister 7 rfl) ic_0 ?_
    exact ww_zretL C hR (dq dk_House_isRegister 8 rfl) (Or.inl rfl) h
  · refine ww_iload_n C 0 rfl rfl (dq dk_House_isRegister 2 rfl) ?_
    refine ww_bipush C (dq dk_House_isRegister 3 rfl) bp_8 ?_
    refine ww_icmp_ge C 14 (dq dk_House_isRegister 4 rfl) (by decide) h (fun h => ?_) (fun h => ?_)
    · refine ww_iconst C (dq dk_House_isRegister 7 rfl) ic_0 ?_
      exact ww_zretL C hR (dq dk_House_isRegister 8 rfl) (Or.inl rfl) h
    · refine ww_iconst C (dq dk_House_isRegister 5 rfl) ic_1 ?_
      refine ww_goto C 15 (dq dk_House_isRegister 6 rfl) (by decide) ?_
      exact ww_zretL C hR (dq dk_House_isRegister 8 rfl) (Or.inr rfl) h
abbrev y_Machine_registerAt : MethodName := ⟨"BundleHouse$Machine", "registerAt", "(I)I"⟩
def dl_Machine_registerAt : List (Nat × Instr × Nat) := [(0, .iload_n 1, 1), (1, .invokestatic 90, 3), (4, .ifCond .eq 12, 3), (7, .aload_n 0, 1), (8, .getfield 18, 3), (11, .iload_n 1, 1), (12, .iaload, 1), (13, .goto 4, 3), (16, .iconst 0, 1), (17, .ireturn, 1)]
set_option maxRecDepth 100000 in
theorem dk_Machine_registerAt : ∀ q ∈ dl_Machine_registerAt, decode prog_5_method_9_code q.1 = .ok q.2 := by decide +kernel
abbrev rm_Machine_registerAt : Room := { frames := 1, cells := 0, slots := 0, locals := 20 }
theorem cw_Machine_registerAt : CWV y_Machine_registerAt prog_5_method_9_code 2 (some .int) 1 := ⟨⟨g_5_93, g_1_9, by decide, by decide, by decide +kernel⟩, g_5_91, g_5_92⟩
set_option maxHeartbeats 4000000 in
set_option maxRecDepth 100000 in
theorem c_Machine_registerAt (v0 : Nat) (ho_v0 : kd v0 = 8) (v1 : Int32) : MI y_Machine_registerAt rm_Machine_registerAt prog_5_method_9_code 2 .int (fun a => [.ref (a v0), .int v1]) (Machine_registerAt v0 v1) := by
  refine mi_of (by decide) (fun _ => le_ rfl) ?_
  intro k res σ C hR hRm hnL h
  unfold Machine_registerAt at h
  show WW k 0 [(0, .ref (ad k v0)), (1, .int v1)] [] σ
  refine ww_iload_n C 1 rfl rfl (dq dk_Machine_registerAt 0 rfl) ?_
  refine ww_cNi (st := []) C (c_House_isRegister v1) cw_House_isRegister nw_15 hRm ⟨⟨rfl, rfl⟩, le_ rfl, le_ rfl⟩ rfl rfl rfl (le_ rfl) (dq dk_Machine_registerAt 1 rfl) h (fun x2 σ1 h => ?_)
  refine ww_if_eq C 16 (dq dk_Machine_registerAt 2 rfl) (by decide) h (fun h => ?_) (fun h => ?_)
  · refine ww_iconst C (dq dk_Machine_registerAt 8 rfl) ic_0 ?_
    exact ww_iret C hR (dq dk_Machine_registerAt 9 rfl) h
  · refine ww_aload_n C 0 rfl rfl (dq dk_Machine_registerAt 3 rfl) ?_
    refine ww_getr C ko_Machine 7 ho_v0 (lt_ rfl) g_2_82 rfl rfl (dq dk_Machine_registerAt 4 rfl) ?_
    refine ww_iload_n C 1 rfl rfl (dq dk_Machine_registerAt 5 rfl) ?_
    refine ww_iald C (kc_Machine_7 _ ho_v0).1 (kc_Machine_7 _ ho_v0).2 (dq dk_Machine_registerAt 6 rfl) h (fun x3 h => ?_)
    refine ww_goto C 17 (dq dk_Machine_registerAt 7 rfl) (by decide) ?_
    exact ww_iret C hR (dq dk_Machine_registerAt 9 rfl) h
