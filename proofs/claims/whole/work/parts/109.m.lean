abbrev y_Mo_keepProgram : MethodName := ⟨"BundleHouseModel", "keepProgram", "()V"⟩
def dl_Mo_keepProgram : List (Nat × Instr × Nat) := [(0, .aload_n 0, 1), (1, .iconst 1, 1), (2, .putfield 202, 3), (5, .aload_n 0, 1), (6, .aload_n 0, 1), (7, .getfield 208, 3), (10, .putfield 300, 3), (13, .iconst 0, 1), (14, .istore_n 1, 1), (15, .iload_n 1, 1), (16, .aload_n 0, 1), (17, .getfield 208, 3), (20, .if_icmp .ge 129, 3), (23, .aload_n 0, 1), (24, .getfield 23, 3), (27, .bipush 120, 2), (29, .iload_n 1, 1), (30, .iadd, 1), (31, .aload_n 0, 1), (32, .getfield 23, 3), (35, .iload_n 1, 1), (36, .iaload, 1), (37, .iastore, 1), (38, .aload_n 0, 1), (39, .getfield 26, 3), (42, .bipush 120, 2), (44, .iload_n 1, 1), (45, .iadd, 1), (46, .aload_n 0, 1), (47, .getfield 26, 3), (50, .iload_n 1, 1), (51, .iaload, 1), (52, .iastore, 1), (53, .aload_n 0, 1), (54, .getfield 29, 3), (57, .bipush 120, 2), (59, .iload_n 1, 1), (60, .iadd, 1), (61, .aload_n 0, 1), (62, .getfield 29, 3), (65, .iload_n 1, 1), (66, .iaload, 1), (67, .iastore, 1), (68, .aload_n 0, 1), (69, .getfield 32, 3), (72, .bipush 120, 2), (74, .iload_n 1, 1), (75, .iadd, 1), (76, .aload_n 0, 1), (77, .getfield 32, 3), (80, .iload_n 1, 1), (81, .iaload, 1), (82, .iastore, 1), (83, .aload_n 0, 1), (84, .getfield 35, 3), (87, .bipush 120, 2), (89, .iload_n 1, 1), (90, .iadd, 1), (91, .aload_n 0, 1), (92, .getfield 35, 3), (95, .iload_n 1, 1), (96, .iaload, 1), (97, .iastore, 1), (98, .aload_n 0, 1), (99, .getfield 38, 3), (102, .bipush 120, 2), (104, .iload_n 1, 1), (105, .iadd, 1), (106, .aload_n 0, 1), (107, .getfield 38, 3), (110, .iload_n 1, 1), (111, .iaload, 1), (112, .iastore, 1), (113, .aload_n 0, 1), (114, .getfield 41, 3), (117, .bipush 120, 2), (119, .iload_n 1, 1), (120, .iadd, 1), (121, .aload_n 0, 1), (122, .getfield 41, 3), (125, .iload_n 1, 1), (126, .iaload, 1), (127, .iastore, 1), (128, .aload_n 0, 1), (129, .getfield 44, 3), (132, .bipush 120, 2), (134, .iload_n 1, 1), (135, .iadd, 1), (136, .aload_n 0, 1), (137, .getfield 44, 3), (140, .iload_n 1, 1), (141, .iaload, 1), (142, .iastore, 1), (143, .iinc 1 1, 3), (146, .goto (-131), 3), (149, .iconst 0, 1), (150, .istore_n 1, 1), (151, .iload_n 1, 1), (152, .bipush 40, 2), (154, .if_icmp .ge 39, 3), (157, .aload_n 0, 1), (158, .getfield 50, 3), (161, .bipush 40, 2), (163, .iload_n 1, 1), (164, .iadd, 1), (165, .aload_n 0, 1), (166, .getfield 50, 3), (169, .iload_n 1, 1), (170, .iaload, 1), (171, .iastore, 1), (172, .aload_n 0, 1), (173, .getfield 47, 3), (176, .bipush 40, 2), (178, .iload_n 1, 1), (179, .iadd, 1), (180, .aload_n 0, 1), (181, .getfield 47, 3), (184, .iload_n 1, 1), (185, .iaload, 1), (186, .iastore, 1), (187, .iinc 1 1, 3), (190, .goto (-39), 3), (193, .aload_n 0, 1), (194, .aload_n 0, 1), (195, .getfield 257, 3), (198, .putfield 303, 3), (201, .return_, 1)]
set_option maxRecDepth 100000 in
theorem dk_Mo_keepProgram : ∀ q ∈ dl_Mo_keepProgram, decode prog_14_method_53_code q.1 = .ok q.2 := by decide +kernel
abbrev rm_Mo_keepProgram : Room := { frames := 0, cells := 0, slots := 0, locals := 0 }
theorem cw_Mo_keepProgram : CWV y_Mo_keepProgram prog_14_method_53_code 2 none 0 := ⟨⟨g_7_195, g_1_13, by decide, by decide, by decide +kernel⟩, g_7_194, gs_6_14⟩
set_option maxHeartbeats 4000000 in
set_option maxRecDepth 100000 in
theorem t_Mo_keepProgram_B151 {k : Cfg} {res : St} (C : Cx k prog_14_method_53_code "BundleHouseModel") (hR : RV k res) (hRm : k.2.2.2.1 = rm_Mo_keepProgram) (hnL : k.2.2.2.2.2.2.2.2.2.2.2.1 = 2) : ∀ (n : Nat) (v0 : Nat) (v1 : Int32) (ho_v0 : kd v0 = 12) (σ : St), Mo_keepProgram_B151 n v0 v1 σ = some res → WW k 151 [(0, .ref (ad k v0)), (1, .int v1)] [] σ := by
  intro n
  induction n with
  | zero =>
    intro v0 v1 ho_v0 σ h
    have h : (none : Option (St)) = some res := h
    cases h
  | succ n ih =>
    intro v0 v1 ho_v0 σ h
    unfold Mo_keepProgram_B151 at h
    refine ww_iload_n C 1 rfl rfl (dq dk_Mo_keepProgram 97 rfl) ?_
    refine ww_bipush C (dq dk_Mo_keepProgram 98 rfl) bp_40 ?_
    refine ww_icmp_ge C 193 (dq dk_Mo_keepProgram 99 rfl) (by decide) h (fun h => ?_) (fun h => ?_)
    · refine ww_aload_n C 0 rfl rfl (dq dk_Mo_keepProgram 122 rfl) ?_
      refine ww_aload_n C 0 rfl rfl (dq dk_Mo_keepProgram 123 rfl) ?_
      refine ww_geti C ko_Mo 22 ho_v0 (lt_ rfl) g_6_72 rfl rfl (dq dk_Mo_keepProgram 124 rfl) ?_
      refine ww_puti C ko_Mo 55 ho_v0 (lt_ rfl) g_6_105 rfl rfl rfl rfl (dq dk_Mo_keepProgram 125 rfl) h (fun σ1 h => ?_)
      exact ww_vret C hR (dq dk_Mo_keepProgram 126 rfl) h
    · refine ww_aload_n C 0 rfl rfl (dq dk_Mo_keepProgram 100 rfl) ?_
      refine ww_getr C ko_Mo 20 ho_v0 (lt_ rfl) g_6_70 rfl rfl (dq dk_Mo_keepProgram 101 rfl) ?_
      refine ww_bipush C (dq dk_Mo_keepProgram 102 rfl) bp_40 ?_
      refine ww_iload_n C 1 rfl rfl (dq dk_Mo_keepProgram 103 rfl) ?_
      refine ww_iadd C (dq dk_Mo_keepProgram 104 rfl) ?_
      refine ww_aload_n C 0 rfl rfl (dq dk_Mo_keepProgram 105 rfl) ?_
      refine ww_getr C ko_Mo 20 ho_v0 (lt_ rfl) g_6_70 rfl rfl (dq dk_Mo_keepProgram 106 rfl) ?_
      refine ww_iload_n C 1 rfl rfl (dq dk_Mo_keepProgram 107 rfl) ?_
      refine ww_iald C (kc_Mo_20 _ ho_v0).1 (kc_Mo_20 _ ho_v0).2 (dq dk_Mo_keepProgram 108 rfl) h (fun x2 h => ?_)
      refine ww_iast C (kc_Mo_20 _ ho_v0).1 (kc_Mo_20 _ ho_v0).2 (dq dk_Mo_keepProgram 109 rfl) h (fun σ3 h => ?_)
      refine ww_aload_n C 0 rfl rfl (dq dk_Mo_keepProgram 110 rfl) ?_
      refine ww_getr C ko_Mo 19 ho_v0 (lt_ rfl) g_6_69 rfl rfl (dq dk_Mo_keepProgram 111 rfl) ?_
      refine ww_bipush C (dq dk_Mo_keepProgram 112 rfl) bp_40 ?_
      refine ww_iload_n C 1 rfl rfl (dq dk_Mo_keepProgram 113 rfl) ?_
      refine ww_iadd C (dq dk_Mo_keepProgram 114 rfl) ?_
      refine ww_aload_n C 0 rfl rfl (dq dk_Mo_keepProgram 115 rfl) ?_
      refine ww_getr C ko_Mo 19 ho_v0 (lt_ rfl) g_6_69 rfl rfl (dq dk_Mo_keepProgram 116 rfl) ?_
      refine ww_iload_n C 1 rfl rfl (dq dk_Mo_keepProgram 117 rfl) ?_
      refine ww_iald C (kc_Mo_19 _ ho_v0).1 (kc_Mo_19 _ ho_v0).2 (dq dk_Mo_keepProgram 118 rfl) h (fun x4 h => ?_)
      refine ww_iast C (kc_Mo_19 _ ho_v0).1 (kc_Mo_19 _ ho_v0).2 (dq dk_Mo_keepProgram 119 rfl) h (fun σ5 h => ?_)
      refine ww_iinc C 1 (fun z => [(1, .int z), (0, .ref (ad k v0))]) rfl ic_1 hnL (lt_ rfl) (fun _ => rfl) (dq dk_Mo_keepProgram 120 rfl) h (fun x6 h => ?_)
      refine ww_goto C 151 (dq dk_Mo_keepProgram 121 rfl) (by decide) ?_
      exact ww_lv [1, 0] rfl (ih v0 x6 ho_v0 σ5 h)
set_option maxHeartbeats 4000000 in
set_option maxRecDepth 100000 in
theorem t_Mo_keepProgram_B15 {k : Cfg} {res : St} (C : Cx k prog_14_method_53_code "BundleHouseModel") (hR : RV k res) (hRm : k.2.2.2.1 = rm_Mo_keepProgram) (hnL : k.2.2.2.2.2.2.2.2.2.2.2.1 = 2) : ∀ (n : Nat) (v0 : Nat) (v1 : Int32) (ho_v0 : kd v0 = 12) (σ : St), Mo_keepProgram_B15 n v0 v1 σ = some res → WW k 15 [(0, .ref (ad k v0)), (1, .int v1)] [] σ := by
  intro n
  induction n with
  | zero =>
    intro v0 v1 ho_v0 σ h
    have h : (none : Option (St)) = some res := h
    cases h
  | succ n ih =>
    intro v0 v1 ho_v0 σ h
    unfold Mo_keepProgram_B15 at h
    refine ww_iload_n C 1 rfl rfl (dq dk_Mo_keepProgram 9 rfl) ?_
    refine ww_aload_n C 0 rfl rfl (dq dk_Mo_keepProgram 10 rfl) ?_
    refine ww_geti C ko_Mo 8 ho_v0 (lt_ rfl) g_6_58 rfl rfl (dq dk_Mo_keepProgram 11 rfl) ?_
    refine ww_icmp_ge C 149 (dq dk_Mo_keepProgram 12 rfl) (by decide) h (fun h => ?_) (fun h => ?_)
    · refine ww_iconst C (dq dk_Mo_keepProgram 95 rfl) ic_0 ?_
      refine ww_istore_n C [(1, .int 0), (0, .ref (ad k v0))] rfl hnL (lt_ rfl) rfl (dq dk_Mo_keepProgram 96 rfl) ?_
      exact ww_lv [1, 0] rfl (t_Mo_keepProgram_B151 C hR hRm hnL FU v0 0 ho_v0 σ h)
    · refine ww_aload_n C 0 rfl rfl (dq dk_Mo_keepProgram 13 rfl) ?_
      refine ww_getr C ko_Mo 11 ho_v0 (lt_ rfl) g_6_61 rfl rfl (dq dk_Mo_keepProgram 14 rfl) ?_
      refine ww_bipush C (dq dk_Mo_keepProgram 15 rfl) bp_120 ?_
      refine ww_iload_n C 1 rfl rfl (dq dk_Mo_keepProgram 16 rfl) ?_
      refine ww_iadd C (dq dk_Mo_keepProgram 17 rfl) ?_
      refine ww_aload_n C 0 rfl rfl (dq dk_Mo_keepProgram 18 rfl) ?_
      refine ww_getr C ko_Mo 11 ho_v0 (lt_ rfl) g_6_61 rfl rfl (dq dk_Mo_keepProgram 19 rfl) ?_
      refine ww_iload_n C 1 rfl rfl (dq dk_Mo_keepProgram 20 rfl) ?_
      refine ww_iald C (kc_Mo_11 _ ho_v0).1 (kc_Mo_11 _ ho_v0).2 (dq dk_Mo_keepProgram 21 rfl) h (fun x1 h => ?_)
      refine ww_iast C (kc_Mo_11 _ ho_v0).1 (kc_Mo_11 _ ho_v0).2 (dq dk_Mo_keepProgram 22 rfl) h (fun σ2 h => ?_)
      refine ww_aload_n C 0 rfl rfl (dq dk_Mo_keepProgram 23 rfl) ?_
      refine ww_getr C ko_Mo 12 ho_v0 (lt_ rfl) g_6_62 rfl rfl (dq dk_Mo_keepProgram 24 rfl) ?_
      refine ww_bipush C (dq dk_Mo_keepProgram 25 rfl) bp_120 ?_
      refine ww_iload_n C 1 rfl rfl (dq dk_Mo_keepProgram 26 rfl) ?_
      refine ww_iadd C (dq dk_Mo_keepProgram 27 rfl) ?_
      refine ww_aload_n C 0 rfl rfl (dq dk_Mo_keepProgram 28 rfl) ?_
      refine ww_getr C ko_Mo 12 ho_v0 (lt_ rfl) g_6_62 rfl rfl (dq dk_Mo_keepProgram 29 rfl) ?_
      refine ww_iload_n C 1 rfl rfl (dq dk_Mo_keepProgram 30 rfl) ?_
      refine ww_iald C (kc_Mo_12 _ ho_v0).1 (kc_Mo_12 _ ho_v0).2 (dq dk_Mo_keepProgram 31 rfl) h (fun x3 h => ?_)
      refine ww_iast C (kc_Mo_12 _ ho_v0).1 (kc_Mo_12 _ ho_v0).2 (dq dk_Mo_keepProgram 32 rfl) h (fun σ4 h => ?_)
      refine ww_aload_n C 0 rfl rfl (dq dk_Mo_keepProgram 33 rfl) ?_
      refine ww_getr C ko_Mo 13 ho_v0 (lt_ rfl) g_6_63 rfl rfl (dq dk_Mo_keepProgram 34 rfl) ?_
      refine ww_bipush C (dq dk_Mo_keepProgram 35 rfl) bp_120 ?_
      refine ww_iload_n C 1 rfl rfl (dq dk_Mo_keepProgram 36 rfl) ?_
      refine ww_iadd C (dq dk_Mo_keepProgram 37 rfl) ?_
      refine ww_aload_n C 0 rfl rfl (dq dk_Mo_keepProgram 38 rfl) ?_
      refine ww_getr C ko_Mo 13 ho_v0 (lt_ rfl) g_6_63 rfl rfl (dq dk_Mo_keepProgram 39 rfl) ?_
      refine ww_iload_n C 1 rfl rfl (dq dk_Mo_keepProgram 40 rfl) ?_
      refine ww_iald C (kc_Mo_13 _ ho_v0).1 (kc_Mo_13 _ ho_v0).2 (dq dk_Mo_keepProgram 41 rfl) h (fun x5 h => ?_)
      refine ww_iast C (kc_Mo_13 _ ho_v0).1 (kc_Mo_13 _ ho_v0).2 (dq dk_Mo_keepProgram 42 rfl) h (fun σ6 h => ?_)
      refine ww_aload_n C 0 rfl rfl (dq dk_Mo_keepProgram 43 rfl) ?_
      refine ww_getr C ko_Mo 14 ho_v0 (lt_ rfl) g_6_64 rfl rfl (dq dk_Mo_keepProgram 44 rfl) ?_
      refine ww_bipush C (dq dk_Mo_keepProgram 45 rfl) bp_120 ?_
      refine ww_iload_n C 1 rfl rfl (dq dk_Mo_keepProgram 46 rfl) ?_
      refine ww_iadd C (dq dk_Mo_keepProgram 47 rfl) ?_
      refine ww_aload_n C 0 rfl rfl (dq dk_Mo_keepProgram 48 rfl) ?_
      refine ww_getr C ko_Mo 14 ho_v0 (lt_ rfl) g_6_64 rfl rfl (dq dk_Mo_keepProgram 49 rfl) ?_
      refine ww_iload_n C 1 rfl rfl (dq dk_Mo_keepProgram 50 rfl) ?_
      refine ww_iald C (kc_Mo_14 _ ho_v0).1 (kc_Mo_14 _ ho_v0).2 (dq dk_Mo_keepProgram 51 rfl) h (fun x7 h => ?_)
      refine ww_iast C (kc_Mo_14 _ ho_v0).1 (kc_Mo_14 _ ho_v0).2 (dq dk_Mo_keepProgram 52 rfl) h (fun σ8 h => ?_)
      refine ww_aload_n C 0 rfl rfl (dq dk_Mo_keepProgram 53 rfl) ?_
      refine ww_getr C ko_Mo 15 ho_v0 (lt_ rfl) g_6_65 rfl rfl (dq dk_Mo_keepProgram 54 rfl) ?_
      refine ww_bipush C (dq dk_Mo_keepProgram 55 rfl) bp_120 ?_
      refine ww_iload_n C 1 rfl rfl (dq dk_Mo_keepProgram 56 rfl) ?_
      refine ww_iadd C (dq dk_Mo_keepProgram 57 rfl) ?_
      refine ww_aload_n C 0 rfl rfl (dq dk_Mo_keepProgram 58 rfl) ?_
      refine ww_getr C ko_Mo 15 ho_v0 (lt_ rfl) g_6_65 rfl rfl (dq dk_Mo_keepProgram 59 rfl) ?_
      refine ww_iload_n C 1 rfl rfl (dq dk_Mo_keepProgram 60 rfl) ?_
      refine ww_iald C (kc_Mo_15 _ ho_v0).1 (kc_Mo_15 _ ho_v0).2 (dq dk_Mo_keepProgram 61 rfl) h (fun x9 h => ?_)
      refine ww_iast C (kc_Mo_15 _ ho_v0).1 (kc_Mo_15 _ ho_v0).2 (dq dk_Mo_keepProgram 62 rfl) h (fun σ10 h => ?_)
      refine ww_aload_n C 0 rfl rfl (dq dk_Mo_keepProgram 63 rfl) ?_
      refine ww_getr C ko_Mo 16 ho_v0 (lt_ rfl) g_6_66 rfl rfl (dq dk_Mo_keepProgram 64 rfl) ?_
      refine ww_bipush C (dq dk_Mo_keepProgram 65 rfl) bp_120 ?_
      refine ww_iload_n C 1 rfl rfl (dq dk_Mo_keepProgram 66 rfl) ?_
      refine ww_iadd C (dq dk_Mo_keepProgram 67 rfl) ?_
      refine ww_aload_n C 0 rfl rfl (dq dk_Mo_keepProgram 68 rfl) ?_
      refine ww_getr C ko_Mo 16 ho_v0 (lt_ rfl) g_6_66 rfl rfl (dq dk_Mo_keepProgram 69 rfl) ?_
      refine ww_iload_n C 1 rfl rfl (dq dk_Mo_keepProgram 70 rfl) ?_
      refine ww_iald C (kc_Mo_16 _ ho_v0).1 (kc_Mo_16 _ ho_v0).2 (dq dk_Mo_keepProgram 71 rfl) h (fun x11 h => ?_)
      refine ww_iast C (kc_Mo_16 _ ho_v0).1 (kc_Mo_16 _ ho_v0).2 (dq dk_Mo_keepProgram 72 rfl) h (fun σ12 h => ?_)
      refine ww_aload_n C 0 rfl rfl (dq dk_Mo_keepProgram 73 rfl) ?_
      refine ww_getr C ko_Mo 17 ho_v0 (lt_ rfl) g_6_67 rfl rfl (dq dk_Mo_keepProgram 74 rfl) ?_
      refine ww_bipush C (dq dk_Mo_keepProgram 75 rfl) bp_120 ?_
      refine ww_iload_n C 1 rfl rfl (dq dk_Mo_keepProgram 76 rfl) ?_
      refine ww_iadd C (dq dk_Mo_keepProgram 77 rfl) ?_
      refine ww_aload_n C 0 rfl rfl (dq dk_Mo_keepProgram 78 rfl) ?_
      refine ww_getr C ko_Mo 17 ho_v0 (lt_ rfl) g_6_67 rfl rfl (dq dk_Mo_keepProgram 79 rfl) ?_
      refine ww_iload_n C 1 rfl rfl (dq dk_Mo_keepProgram 80 rfl) ?_
      refine ww_iald C (kc_Mo_17 _ ho_v0).1 (kc_Mo_17 _ ho_v0).2 (dq dk_Mo_keepProgram 81 rfl) h (fun x13 h => ?_)
      refine ww_iast C (kc_Mo_17 _ ho_v0).1 (kc_Mo_17 _ ho_v0).2 (dq dk_Mo_keepProgram 82 rfl) h (fun σ14 h => ?_)
      refine ww_aload_n C 0 rfl rfl (dq dk_Mo_keepProgram 83 rfl) ?_
      refine ww_getr C ko_Mo 18 ho_v0 (lt_ rfl) g_6_68 rfl rfl (dq dk_Mo_keepProgram 84 rfl) ?_
      refine ww_bipush C (dq dk_Mo_keepProgram 85 rfl) bp_120 ?_
      refine ww_iload_n C 1 rfl rfl (dq dk_Mo_keepProgram 86 rfl) ?_
      refine ww_iadd C (dq dk_Mo_keepProgram 87 rfl) ?_
      refine ww_aload_n C 0 rfl rfl (dq dk_Mo_keepProgram 88 rfl) ?_
      refine ww_getr C ko_Mo 18 ho_v0 (lt_ rfl) g_6_68 rfl rfl (dq dk_Mo_keepProgram 89 rfl) ?_
      refine ww_iload_n C 1 rfl rfl (dq dk_Mo_keepProgram 90 rfl) ?_
      refine ww_iald C (kc_Mo_18 _ ho_v0).1 (kc_Mo_18 _ ho_v0).2 (dq dk_Mo_keepProgram 91 rfl) h (fun x15 h => ?_)
      refine ww_iast C (kc_Mo_18 _ ho_v0).1 (kc_Mo_18 _ ho_v0).2 (dq dk_Mo_keepProgram 92 rfl) h (fun σ16 h => ?_)
      refine ww_iinc C 1 (fun z => [(1, .int z), (0, .ref (ad k v0))]) rfl ic_1 hnL (lt_ rfl) (fun _ => rfl) (dq dk_Mo_keepProgram 93 rfl) h (fun x17 h => ?_)
      refine ww_goto C 15 (dq dk_Mo_keepProgram 94 rfl) (by decide) ?_
      exact ww_lv [1, 0] rfl (ih v0 x17 ho_v0 σ16 h)
set_option maxHeartbeats 4000000 in
set_option maxRecDepth 100000 in
theorem c_Mo_keepProgram (v0 : Nat) (ho_v0 : kd v0 = 12) : MV y_Mo_keepProgram rm_Mo_keepProgram prog_14_method_53_code 2 (fun a => [.ref (a v0)]) (Mo_keepProgram v0) := by
  refine mv_of (by decide) (fun _ => le_ rfl) ?_
  intro k res σ C hR hRm hnL h
  unfold Mo_keepProgram at h
  show WW k 0 [(0, .ref (ad k v0))] [] σ
  refine ww_aload_n C 0 rfl rfl (dq dk_Mo_keepProgram 0 rfl) ?_
  refine ww_iconst C (dq dk_Mo_keepProgram 1 rfl) ic_1 ?_
  refine ww_putZ C ko_Mo 10 ho_v0 (lt_ rfl) g_6_60 rfl rfl rfl rfl (Or.inr rfl) (dq dk_Mo_keepProgram 2 rfl) h (fun σ1 h => ?_)
  refine ww_aload_n C 0 rfl rfl (dq dk_Mo_keepProgram 3 rfl) ?_
  refine ww_aload_n C 0 rfl rfl (dq dk_Mo_keepProgram 4 rfl) ?_
  refine ww_geti C ko_Mo 8 ho_v0 (lt_ rfl) g_6_58 rfl rfl (dq dk_Mo_keepProgram 5 rfl) ?_
  refine ww_puti C ko_Mo 9 ho_v0 (lt_ rfl) g_6_59 rfl rfl rfl rfl (dq dk_Mo_keepProgram 6 rfl) h (fun σ2 h => ?_)
  refine ww_iconst C (dq dk_Mo_keepProgram 7 rfl) ic_0 ?_
  refine ww_istore_n C [(1, .int 0), (0, .ref (ad k v0))] rfl hnL (lt_ rfl) rfl (dq dk_Mo_keepProgram 8 rfl) ?_
  exact ww_lv [1, 0] rfl (t_Mo_keepProgram_B15 C hR hRm hnL FU v0 0 ho_v0 σ2 h)
abbrev y_Mo_starting : MethodName := ⟨"BundleHouseModel", "starting", "(I)V"⟩
def dl_Mo_starting : List (Nat × Instr × Nat) := [(0, .aload_n 0, 1), (1, .aload_n 0, 1), (2, .getfield 57, 3), (5, .iload_n 1, 1), (6, .aload_n 0, 1), (7, .getfield 102, 3), (10, .invokevirtual 194, 3), (13, .istore_n 2, 1), (14, .return_, 1)]
set_option maxRecDepth 100000 in
theorem dk_Mo_starting : ∀ q ∈ dl_Mo_starting, decode prog_14_method_48_code q.1 = .ok q.2 := by decide +kernel
abbrev rm_Mo_starting : Room := { frames := 8, cells := 0, slots := 0, locals := 186 }
theorem cw_Mo_starting : CWV y_Mo_starting prog_14_method_48_code 3 none 1 := ⟨⟨g_7_191, g_1_13, by decide, by decide, by decide +kernel⟩, g_7_190, gs_6_13⟩
set_option maxHeartbeats 4000000 in
set_option maxRecDepth 100000 in
theorem c_Mo_starting (v0 : Nat) (ho_v0 : kd v0 = 12) (v1 : Int32) : MV y_Mo_starting rm_Mo_starting prog_14_method_48_code 3 (fun a => [.ref (a v0), .int v1]) (Mo_starting v0 v1) := by
  refine mv_of (by decide) (fun _ => le_ rfl) ?_
  intro k res σ C hR hRm hnL h
  unfold Mo_starting at h
  show WW k 0 [(0, .ref (ad k v0)), (1, .int v1)] [] σ
  refine ww_aload_n C 0 rfl rfl (dq dk_Mo_starting 0 rfl) ?_
  refine ww_aload_n C 0 rfl rfl (dq dk_Mo_starting 1 rfl) ?_
  refine ww_getr C ko_Mo 23 ho_v0 (lt_ rfl) g_6_73 rfl rfl (dq dk_Mo_starting 2 rfl) ?_
  refine ww_iload_n C 1 rfl rfl (dq dk_Mo_starting 3 rfl) ?_
  refine ww_aload_n C 0 rfl rfl (dq dk_Mo_starting 4 rfl) ?_
  refine ww_getr C ko_Mo 54 ho_v0 (lt_ rfl) g_6_104 rfl rfl (dq dk_Mo_starting 5 rfl) ?_
  refine ww_cVi (st := []) C (c_Mo_keeps v0 ho_v0 (ch v0 23) v1 (ch v0 54)) cw_Mo_keeps ho_v0 (lt_ rfl) rfl g_7_21 hRm ⟨⟨rfl, rfl⟩, le_ rfl, le_ rfl⟩ rfl rfl rfl (le_ rfl) (dq dk_Mo_starting 6 rfl) h (fun x2 σ1 h => ?_)
  refine ww_istore_n C [(2, .int x2), (0, .ref (ad k v0)), (1, .int v1)] rfl hnL (lt_ rfl) rfl (dq dk_Mo_starting 7 rfl) ?_
  exact ww_vret C hR (dq dk_Mo_starting 8 rfl) h
abbrev y_Mo_copyBytes : MethodName := ⟨"BundleHouseModel", "copyBytes", "(I)V"⟩
def dl_Mo_copyBytes : List (Nat × Instr × Nat) := [(0, .iconst 0, 1), (1, .istore_n 2, 1), (2, .iload_n 2, 1), (3, .aload_n 0, 1), (4, .getfield 229, 3), (7, .if_icmp .ge 23, 3), (10, .aload_n 0, 1), (11, .getfield 57, 3), (14, .iload_n 1, 1), (15, .iload_n 2, 1), (16, .iadd, 1), (17, .aload_n 0, 1), (18, .getfield 60, 3), (21, .iload_n 2, 1), (22, .iaload, 1), (23, .iastore, 1), (24, .iinc 2 1, 3), (27, .goto (-25), 3), (30, .return_, 1)]
set_option maxRecDepth 100000 in
theorem dk_Mo_copyBytes : ∀ q ∈ dl_Mo_copyBytes, decode prog_14_method_49_code q.1 = .ok q.2 := by decide +kernel
abbrev rm_Mo_copyBytes : Room := { frames := 0, cells := 0, slots := 0, locals := 0 }
theorem cw_Mo_copyBytes : CWV y_Mo_copyBytes prog_14_method_49_code 3 none 1 := ⟨⟨g_7_183, g_1_13, by decide, by decide, by decide +kernel⟩, g_7_182, gs_6_11⟩
set_option maxHeartbeats 4000000 in
set_option maxRecDepth 100000 in
theorem t_Mo_copyBytes_B2 {k : Cfg} {res : St} (C : Cx k prog_14_method_49_code "BundleHouseModel") (hR : RV k res) (hRm : k.2.2.2.1 = rm_Mo_copyBytes) (hnL : k.2.2.2.2.2.2.2.2.2.2.2.1 = 3) : ∀ (n : Nat) (v0 : Nat) (v1 : Int32) (v2 : Int32) (ho_v0 : kd v0 = 12) (σ : St), Mo_copyBytes_B2 n v0 v1 v2 σ = some res → WW k 2 [(0, .ref (ad k v0)), (1, .int v1), (2, .int v2)] [] σ := by
  intro n
  induction n with
  | zero =>
    intro v0 v1 v2 ho_v0 σ h
    have h : (none : Option (St)) = some res := h
    cases h
  | succ n ih =>
    intro v0 v1 v2 ho_v0 σ h
    unfold Mo_copyBytes_B2 at h
    refine ww_iload_n C 2 rfl rfl (dq dk_Mo_copyBytes 2 rfl) ?_
    refine ww_aload_n C 0 rfl rfl (dq dk_Mo_copyBytes 3 rfl) ?_
    refine ww_geti C ko_Mo 25 ho_v0 (lt_ rfl) g_6_75 rfl rfl (dq dk_Mo_copyBytes 4 rfl) ?_
    refine ww_icmp_ge C 30 (dq dk_Mo_copyBytes 5 rfl) (by decide) h (fun h => ?_) (fun h => ?_)
    · exact ww_vret C hR (dq dk_Mo_copyBytes 18 rfl) h
    · refine ww_aload_n C 0 rfl rfl (dq dk_Mo_copyBytes 6 rfl) ?_
      refine ww_getr C ko_Mo 23 ho_v0 (lt_ rfl) g_6_73 rfl rfl (dq dk_Mo_copyBytes 7 rfl) ?_
      refine ww_iload_n C 1 rfl rfl (dq dk_Mo_copyBytes 8 rfl) ?_
      refine ww_iload_n C 2 rfl rfl (dq dk_Mo_copyBytes 9 rfl) ?_
      refine ww_iadd C (dq dk_Mo_copyBytes 10 rfl) ?_
      refine ww_aload_n C 0 rfl rfl (dq dk_Mo_copyBytes 11 rfl) ?_
      refine ww_getr C ko_Mo 24 ho_v0 (lt_ rfl) g_6_74 rfl rfl (dq dk_Mo_copyBytes 12 rfl) ?_
      refine ww_iload_n C 2 rfl rfl (dq dk_Mo_copyBytes 13 rfl) ?_
      refine ww_iald C (kc_Mo_24 _ ho_v0).1 (kc_Mo_24 _ ho_v0).2 (dq dk_Mo_copyBytes 14 rfl) h (fun x1 h => ?_)
      refine ww_iast C (kc_Mo_23 _ ho_v0).1 (kc_Mo_23 _ ho_v0).2 (dq dk_Mo_copyBytes 15 rfl) h (fun σ2 h => ?_)
      refine ww_iinc C 2 (fun z => [(2, .int z), (0, .ref (ad k v0)), (1, .int v1)]) rfl ic_1 hnL (lt_ rfl) (fun _ => rfl) (dq dk_Mo_copyBytes 16 rfl) h (fun x3 h => ?_)
      refine ww_goto C 2 (dq dk_Mo_copyBytes 17 rfl) (by decide) ?_
      exact ww_lv [1, 2, 0] rfl (ih v0 v1 x3 ho_v0 σ2 h)
set_option maxHeartbeats 4000000 in
set_option maxRecDepth 100000 in
theorem c_Mo_copyBytes (v0 : Nat) (ho_v0 : kd v0 = 12) (v1 : Int32) : MV y_Mo_copyBytes rm_Mo_copyBytes prog_14_method_49_code 3 (fun a => [.ref (a v0), .int v1]) (Mo_copyBytes v0 v1) := by
  refine mv_of (by decide) (fun _ => le_ rfl) ?_
  intro k res σ C hR hRm hnL h
  unfold Mo_copyBytes at h
  show WW k 0 [(0, .ref (ad k v0)), (1, .int v1)] [] σ
  refine ww_iconst C (dq dk_Mo_copyBytes 0 rfl) ic_0 ?_
  refine ww_istore_n C [(2, .int 0), (0, .ref (ad k v0)), (1, .int v1)] rfl hnL (lt_ rfl) rfl (dq dk_Mo_copyBytes 1 rfl) ?_
  exact ww_lv [1, 2, 0] rfl (t_Mo_copyBytes_B2 C hR hRm hnL FU v0 v1 0 ho_v0 σ h)
abbrev y_Mo_putFar : MethodName := ⟨"BundleHouseModel", "putFar", "(I)V"⟩
def dl_Mo_putFar : List (Nat × Instr × Nat) := [(0, .aload_n 0, 1), (1, .getfield 47, 3), (4, .aload_n 0, 1), (5, .getfield 32, 3), (8, .iload_n 1, 1), (9, .iaload, 1), (10, .iaload, 1), (11, .aload_n 0, 1), (12, .getfield 44, 3), (15, .iload_n 1, 1), (16, .iaload, 1), (17, .isub, 1), (18, .aload_n 0, 1), (19, .getfield 23, 3), (22, .iload_n 1, 1), (23, .iaload, 1), (24, .iconst 1, 1), (25, .if_icmp .ne 20, 3), (28, .aload_n 0, 1), (29, .getfield 53, 3), (32, .iload_n 1, 1), (33, .baload, 1), (34, .ifCond .eq 7, 3), (37, .iconst 5, 1), (38, .goto 22, 3), (41, .iconst 2, 1), (42, .goto 18, 3), (45, .aload_n 0, 1), (46, .getfield 53, 3), (49, .iload_n 1, 1), (50, .baload, 1), (51, .ifCond .eq 8, 3), (54, .bipush 6, 2), (56, .goto 4, 3), (59, .iconst 2, 1), (60, .isub, 1), (61, .istore_n 2, 1), (62, .aload_n 0, 1), (63, .getfield 53, 3), (66, .iload_n 1, 1), (67, .baload, 1), (68, .ifCond .eq 11, 3), (71, .aload_n 0, 1), (72, .iload_n 2, 1), (73, .invokevirtual 235, 3), (76, .goto 8, 3), (79, .aload_n 0, 1), (80, .iload_n 2, 1), (81, .invokevirtual 232, 3), (84, .return_, 1)]
set_option maxRecDepth 100000 in
theorem dk_Mo_putFar : ∀ q ∈ dl_Mo_putFar, decode prog_14_method_51_code q.1 = .ok q.2 := by decide +kernel
abbrev rm_Mo_putFar : Room := { frames := 2, cells := 0, slots := 0, locals := 43 }
theorem cw_Mo_putFar : CWV y_Mo_putFar prog_14_method_51_code 3 none 1 := ⟨⟨g_7_179, g_1_13, by decide, by decide, by decide +kernel⟩, g_7_178, gs_6_10⟩
set_option maxHeartbeats 4000000 in
set_option maxRecDepth 100000 in
theorem t_Mo_putFar_B60 {k : Cfg} {res : St} (C : Cx k prog_14_method_51_code "BundleHouseModel") (hR : RV k res) (hRm : k.2.2.2.1 = rm_Mo_putFar) (hnL : k.2.2.2.2.2.2.2.2.2.2.2.1 = 3) (v0 : Nat) (v1 : Int32) (t0 : Int32) (t1 : Int32) (ho_v0 : kd v0 = 12) (σ : St) (h : Mo_putFar_B60 v0 v1 t0 t1 σ = some res) : WW k 60 [(0, .ref (ad k v0)), (1, .int v1)] [.int t1, .int t0] σ := by
  unfold Mo_putFar_B60 at h
  refine ww_isub C (dq dk_Mo_putFar 35 rfl) ?_
  refine ww_nmi h (fun x1 h => ?_)
  refine ww_istore_n C [(2, .int x1), (0, .ref (ad k v0)), (1, .int v1)] rfl hnL (lt_ rfl) rfl (dq dk_Mo_putFar 36 rfl) ?_
  refine ww_aload_n C 1 rfl rfl (dq dk_Mo_putFar 37 rfl) ?_
  refine ww_getr C ko_Mo 21 ho_v0 (lt_ rfl) g_6_71 rfl rfl (dq dk_Mo_putFar 38 rfl) ?_
  refine ww_iload_n C 2 rfl rfl (dq dk_Mo_putFar 39 rfl) ?_
  refine ww_zald C (kc_Mo_21 _ ho_v0).1 (kc_Mo_21 _ ho_v0).2 (dq dk_Mo_putFar 40 rfl) h (fun x2 h => ?_)
  refine ww_if_eq C 79 (dq dk_Mo_putFar 41 rfl) (by decide) h (fun h => ?_) (fun h => ?_)
  · refine ww_aload_n C 1 rfl rfl (dq dk_Mo_putFar 46 rfl) ?_
    refine ww_iload_n C 0 rfl rfl (dq dk_Mo_putFar 47 rfl) ?_
    refine ww_cVv (st := []) C (c_Mo_put v0 ho_v0 x1) cw_Mo_put ho_v0 (lt_ rfl) rfl g_7_138 hRm ⟨⟨rfl, rfl⟩, le_ rfl, le_ rfl⟩ rfl rfl rfl (le_ rfl) (dq dk_Mo_putFar 48 rfl) h (fun σ3 h => ?_)
    exact ww_vret C hR (dq dk_Mo_putFar 49 rfl) h
  · refine ww_aload_n C 1 rfl rfl (dq dk_Mo_putFar 42 rfl) ?_
    refine ww_iload_n C 0 rfl rfl (dq dk_Mo_putFar 43 rfl) ?_
    refine ww_cVv (st := []) C (c_Mo_putFour v0 ho_v0 x1) cw_Mo_putFour ho_v0 (lt_ rfl) rfl g_7_153 hRm ⟨⟨rfl, rfl⟩, le_ rfl, le_ rfl⟩ rfl rfl rfl (le_ rfl) (dq dk_Mo_putFar 44 rfl) h (fun σ4 h => ?_)
    refine ww_goto C 84 (dq dk_Mo_putFar 45 rfl) (by decide) ?_
    exact ww_vret C hR (dq dk_Mo_putFar 49 rfl) h
set_option maxHeartbeats 4000000 in
set_option maxRecDepth 100000 in
theorem c_Mo_putFar (v0 : Nat) (ho_v0 : kd v0 = 12) (v1 : Int32) : MV y_Mo_putFar rm_Mo_putFar prog_14_method_51_code 3 (fun a => [.ref (a v0), .int v1]) (Mo_putFar v0 v1) := by
  refine mv_of (by decide) (fun _ => le_ rfl) ?_
  intro k res σ C hR hRm hnL h
  unfold Mo_putFar at h
  show WW k 0 [(0, .ref (ad k v0)), (1, .int v1)] [] σ
  refine ww_aload_n C 0 rfl rfl (dq dk_Mo_putFar 0 rfl) ?_
  refine ww_getr C ko_Mo 19 ho_v0 (lt_ rfl) g_6_69 rfl rfl (dq dk_Mo_putFar 1 rfl) ?_
  refine ww_aload_n C 0 rfl rfl (dq dk_Mo_putFar 2 rfl) ?_
  refine ww_getr C ko_Mo 14 ho_v0 (lt_ rfl) g_6_64 rfl rfl (dq dk_Mo_putFar 3 rfl) ?_
  refine ww_iload_n C 1 rfl rfl (dq dk_Mo_putFar 4 rfl) ?_
  refine ww_iald C (kc_Mo_14 _ ho_v0).1 (kc_Mo_14 _ ho_v0).2 (dq dk_Mo_putFar 5 rfl) h (fun x1 h => ?_)
  refine ww_iald C (kc_Mo_19 _ ho_v0).1 (kc_Mo_19 _ ho_v0).2 (dq dk_Mo_putFar 6 rfl) h (fun x2 h => ?_)
  refine ww_aload_n C 0 rfl rfl (dq dk_Mo_putFar 7 rfl) ?_
  refine ww_getr C ko_Mo 18 ho_v0 (lt_ rfl) g_6_68 rfl rfl (dq dk_Mo_putFar 8 rfl) ?_
  refine ww_iload_n C 1 rfl rfl (dq dk_Mo_putFar 9 rfl) ?_
  refine ww_iald C (kc_Mo_18 _ ho_v0).1 (kc_Mo_18 _ ho_v0).2 (dq dk_Mo_putFar 10 rfl) h (fun x3 h => ?_)
  refine ww_isub C (dq dk_Mo_putFar 11 rfl) ?_
  refine ww_aload_n C 0 rfl rfl (dq dk_Mo_putFar 12 rfl) ?_
  refine ww_getr C ko_Mo 11 ho_v0 (lt_ rfl) g_6_61 rfl rfl (dq dk_Mo_putFar 13 rfl) ?_
  refine ww_iload_n C 1 rfl rfl (dq dk_Mo_putFar 14 rfl) ?_
  refine ww_iald C (kc_Mo_11 _ ho_v0).1 (kc_Mo_11 _ ho_v0).2 (dq dk_Mo_putFar 15 rfl) h (fun x4 h => ?_)
  refine ww_iconst C (dq dk_Mo_putFar 16 rfl) ic_1 ?_
  refine ww_icmp_ne C 45 (dq dk_Mo_putFar 17 rfl) (by decide) h (fun h => ?_) (fun h => ?_)
  · refine ww_aload_n C 0 rfl rfl (dq dk_Mo_putFar 27 rfl) ?_
    refine ww_getr C ko_Mo 21 ho_v0 (lt_ rfl) g_6_71 rfl rfl (dq dk_Mo_putFar 28 rfl) ?_
    refine ww_iload_n C 1 rfl rfl (dq dk_Mo_putFar 29 rfl) ?_
    refine ww_zald C (kc_Mo_21 _ ho_v0).1 (kc_Mo_21 _ ho_v0).2 (dq dk_Mo_putFar 30 rfl) h (fun x5 h => ?_)
    refine ww_if_eq C 59 (dq dk_Mo_putFar 31 rfl) (by decide) h (fun h => ?_) (fun h => ?_)
    · refine ww_iconst C (dq dk_Mo_putFar 34 rfl) ic_2 ?_
      exact ww_lv [0, 1] rfl (t_Mo_putFar_B60 C hR hRm hnL v0 v1 (x2 - x3) 2 ho_v0 σ h)
    · refine ww_bipush C (dq dk_Mo_putFar 32 rfl) bp_6 ?_
      refine ww_goto C 60 (dq dk_Mo_putFar 33 rfl) (by decide) ?_
      exact ww_lv [0, 1] rfl (t_Mo_putFar_B60 C hR hRm hnL v0 v1 (x2 - x3) 6 ho_v0 σ h)
  · refine ww_aload_n C 0 rfl rfl (dq dk_Mo_putFar 18 rfl) ?_
    refine ww_getr C ko_Mo 21 ho_v0 (lt_ rfl) g_6_71 rfl rfl (dq dk_Mo_putFar 19 rfl) ?_
    refine ww_iload_n C 1 rfl rfl (dq dk_Mo_putFar 20 rfl) ?_
    refine ww_zald C (kc_Mo_21 _ ho_v0).1 (kc_Mo_21 _ ho_v0).2 (dq dk_Mo_putFar 21 rfl) h (fun x6 h => ?_)
    refine ww_if_eq C 41 (dq dk_Mo_putFar 22 rfl) (by decide) h (fun h => ?_) (fun h => ?_)
    · refine ww_iconst C (dq dk_Mo_putFar 25 rfl) ic_2 ?_
      refine ww_goto C 60 (dq dk_Mo_putFar 26 rfl) (by decide) ?_
      exact ww_lv [0, 1] rfl (t_Mo_putFar_B60 C hR hRm hnL v0 v1 (x2 - x3) 2 ho_v0 σ h)
    · refine ww_iconst C (dq dk_Mo_putFar 23 rfl) ic_5 ?_
      refine ww_goto C 60 (dq dk_Mo_putFar 24 rfl) (by decide) ?_
      exact ww_lv [0, 1] rfl (t_Mo_putFar_B60 C hR hRm hnL v0 v1 (x2 - x3) 5 ho_v0 σ h)
abbrev y_Mo_putPair : MethodName := ⟨"BundleHouseModel", "putPair", "(II)V"⟩
def dl_Mo_putPair : List (Nat × Instr × Nat) := [(0, .aload_n 0, 1), (1, .sipush 131, 3), (4, .invokevirtual 232, 3), (7, .aload_n 0, 1), (8, .sipush 224, 3), (11, .iload_n 2, 1), (12, .iadd, 1), (13, .invokevirtual 232, 3), (16, .aload_n 0, 1), (17, .sipush 240, 3), (20, .invokevirtual 232, 3), (23, .aload_n 0, 1), (24, .sipush 255, 3), (27, .invokevirtual 232, 3), (30, .aload_n 0, 1), (31, .iload_n 1, 1), (32, .bipush 27, 2), (34, .if_icmp .ne 7, 3), (37, .iconst 4, 1), (38, .goto 4, 3), (41, .iconst 2, 1), (42, .iload_n 2, 1), (43, .invokevirtual 241, 3), (46, .return_, 1)]
set_option maxRecDepth 100000 in
theorem dk_Mo_putPair : ∀ q ∈ dl_Mo_putPair, decode prog_14_method_52_code q.1 = .ok q.2 := by decide +kernel
abbrev rm_Mo_putPair : Room := { frames := 2, cells := 0, slots := 0, locals := 43 }
theorem cw_Mo_putPair : CWV y_Mo_putPair prog_14_method_52_code 3 none 2 := ⟨⟨g_7_187, g_1_13, by decide, by decide, by decide +kernel⟩, g_7_186, gs_6_12⟩
set_option maxHeartbeats 4000000 in
set_option maxRecDepth 100000 in
theorem c_Mo_putPair (v0 : Nat) (ho_v0 : kd v0 = 12) (v1 : Int32) (v2 : Int32) : MV y_Mo_putPair rm_Mo_putPair prog_14_method_52_code 3 (fun a => [.ref (a v0), .int v1, .int v2]) (Mo_putPair v0 v1 v2) := by
  refine mv_of (by decide) (fun _ => le_ rfl) ?_
  intro k res σ C hR hRm hnL h
  unfold Mo_putPair at h
  show WW k 0 [(0, .ref (ad k v0)), (1, .int v1), (2, .int v2)] [] σ
  refine ww_aload_n C 0 rfl rfl (dq dk_Mo_putPair 0 rfl) ?_
  refine ww_sipush C (dq dk_Mo_putPair 1 rfl) sp_131 ?_
  refine ww_cVv (st := []) C (c_Mo_put v0 ho_v0 131) cw_Mo_put ho_v0 (lt_ rfl) rfl g_7_138 hRm ⟨⟨rfl, rfl⟩, le_ rfl, le_ rfl⟩ rfl rfl rfl (le_ rfl) (dq dk_Mo_putPair 2 rfl) h (fun σ1 h => ?_)
  refine ww_aload_n C 0 rfl rfl (dq dk_Mo_putPair 3 rfl) ?_
  refine ww_sipush C (dq dk_Mo_putPair 4 rfl) sp_224 ?_
  refine ww_iload_n C 2 rfl rfl (dq dk_Mo_putPair 5 rfl) ?_
  refine ww_iadd C (dq dk_Mo_putPair 6 rfl) ?_
  refine ww_cVv (st := []) C (c_Mo_put v0 ho_v0 (224 + v2)) cw_Mo_put ho_v0 (lt_ rfl) rfl g_7_138 hRm ⟨⟨rfl, rfl⟩, le_ rfl, le_ rfl⟩ rfl rfl rfl (le_ rfl) (dq dk_Mo_putPair 7 rfl) h (fun σ2 h => ?_)
  refine ww_aload_n C 0 rfl rfl (dq dk_Mo_putPair 8 rfl) ?_
  refine ww_sipush C (dq dk_Mo_putPair 9 rfl) sp_240 ?_
  refine ww_cVv (st := []) C (c_Mo_put v0 ho_v0 240) cw_Mo_put ho_v0 (lt_ rfl) rfl g_7_138 hRm ⟨⟨rfl, rfl⟩, le_ rfl, le_ rfl⟩ rfl rfl rfl (le_ rfl) (dq dk_Mo_putPair 10 rfl) h (fun σ3 h => ?_)
  refine ww_aload_n C 0 rfl rfl (dq dk_Mo_putPair 11 rfl) ?_
  refine ww_sipush C (dq dk_Mo_putPair 12 rfl) sp_255 ?_
  refine ww_cVv (st := []) C (c_Mo_put v0 ho_v0 255) cw_Mo_put ho_v0 (lt_ rfl) rfl g_7_138 hRm ⟨⟨rfl, rfl⟩, le_ rfl, le_ rfl⟩ rfl rfl rfl (le_ rfl) (dq dk_Mo_putPair 13 rfl) h (fun σ4 h => ?_)
  refine ww_aload_n C 0 rfl rfl (dq dk_Mo_putPair 14 rfl) ?_
  refine ww_iload_n C 1 rfl rfl (dq dk_Mo_putPair 15 rfl) ?_
  refine ww_bipush C (dq dk_Mo_putPair 16 rfl) bp_27 ?_
  refine ww_icmp_ne C 41 (dq dk_Mo_putPair 17 rfl) (by decide) h (fun h => ?_) (fun h => ?_)
  · refine ww_iconst C (dq dk_Mo_putPair 20 rfl) ic_2 ?_
    refine ww_iload_n C 2 rfl rfl (dq dk_Mo_putPair 21 rfl) ?_
    refine ww_cVv (st := []) C (c_Mo_putRegister v0 ho_v0 2 v2) cw_Mo_putRegister ho_v0 (lt_ rfl) rfl g_7_142 hRm ⟨⟨rfl, rfl⟩, le_ rfl, le_ rfl⟩ rfl rfl rfl (le_ rfl) (dq dk_Mo_putPair 22 rfl) h (fun σ5 h => ?_)
    exact ww_vret C hR (dq dk_Mo_putPair 23 rfl) h
  · refine ww_iconst C (dq dk_Mo_putPair 18 rfl) ic_4 ?_
    refine ww_goto C 42 (dq dk_Mo_putPair 19 rfl) (by decide) ?_
    refine ww_iload_n C 2 rfl rfl (dq dk_Mo_putPair 21 rfl) ?_
    refine ww_cVv (st := []) C (c_Mo_putRegister v0 ho_v0 4 v2) cw_Mo_putRegister ho_v0 (lt_ rfl) rfl g_7_142 hRm ⟨⟨rfl, rfl⟩, le_ rfl, le_ rfl⟩ rfl rfl rfl (le_ rfl) (dq dk_Mo_putPair 22 rfl) h (fun σ6 h => ?_)
    exact ww_vret C hR (dq dk_Mo_putPair 23 rfl) h
abbrev y_Mo_write : MethodName := ⟨"BundleHouseModel", "write", "(I)V"⟩
def dl_Mo_write : List (Nat × Instr × Nat) := [(0, .aload_n 0, 1), (1, .getfield 44, 3), (4, .iload_n 1, 1), (5, .iaload, 1), (6, .istore_n 2, 1), (7, .aload_n 0, 1), (8, .getfield 23, 3), (11, .iload_n 1, 1), (12, .iaload, 1), (13, .istore_n 3, 1), (14, .aload_n 0, 1), (15, .iconst 0, 1), (16, .putfield 229, 3), (19, .iload_n 3, 1), (20, .tableswitch 293 0 9 #[56, 67, 97, 148, 148, 293, 293, 238, 202, 59], 56), (76, .goto 259, 3), (79, .aload_n 0, 1), (80, .iload_n 1, 1), (81, .invokevirtual 260, 3), (84, .goto 251, 3), (87, .aload_n 0, 1), (88, .aload_n 0, 1), (89, .getfield 53, 3), (92, .iload_n 1, 1), (93, .baload, 1), (94, .ifCond .eq 9, 3), (97, .sipush 233, 3), (100, .goto 6, 3), (103, .sipush 235, 3), (106, .invokevirtual 232, 3), (109, .aload_n 0, 1), (110, .iload_n 1, 1), (111, .invokevirtual 291, 3), (114, .goto 221, 3), (117, .aload_n 0, 1), (118, .getfield 53, 3), (121, .iload_n 1, 1), (122, .baload, 1), (123, .ifCond .eq 9, 3), (126, .aload_n 0, 1), (127, .bipush 15, 2), (129, .invokevirtual 232, 3), (132, .aload_n 0, 1), (133, .aload_n 0, 1), (134, .getfield 53, 3), (137, .iload_n 1, 1), (138, .baload, 1), (139, .ifCond .eq 9, 3), (142, .sipush 128, 3), (145, .goto 5, 3), (148, .bipush 112, 2), (150, .aload_n 0, 1), (151, .getfield 35, 3), (154, .iload_n 1, 1), (155, .iaload, 1), (156, .iadd, 1), (157, .invokevirtual 232, 3), (160, .aload_n 0, 1), (161, .iload_n 1, 1), (162, .invokevirtual 291, 3), (165, .goto 170, 3), (168, .aload_n 0, 1), (169, .sipush 232, 3), (172, .invokevirtual 232, 3), (175, .aload_n 0, 1), (176, .iload_n 3, 1), (177, .iconst 3, 1), (178, .if_icmp .ne 21, 3), (181, .aload_n 0, 1), (182, .getfield 47, 3), (185, .aload_n 0, 1), (186, .getfield 32, 3), (189, .iload_n 1, 1), (190, .iaload, 1), (191, .iaload, 1), (192, .iload_n 2, 1), (193, .isub, 1), (194, .iconst 5, 1), (195, .isub, 1), (196, .goto 20, 3), (199, .bipush 16, 2), (201, .aload_n 0, 1), (202, .getfield 32, 3), (205, .iload_n 1, 1), (206, .iaload, 1), (207, .imul, 1), (208, .sipush 256, 3), (211, .isub, 1), (212, .iload_n 2, 1), (213, .isub, 1), (214, .iconst 5, 1), (215, .isub, 1), (216, .invokevirtual 235, 3), (219, .goto 116, 3), (222, .aload_n 0, 1), (223, .sipush 184, 3), (226, .aload_n 0, 1), (227, .getfield 35, 3), (230, .iload_n 1, 1), (231, .iaload, 1), (232, .iadd, 1), (233, .invokevirtual 232, 3), (236, .aload_n 0, 1), (237, .sipush 256, 3), (240, .aload_n 0, 1), (241, .getfield 47, 3), (244, .aload_n 0, 1), (245, .getfield 32, 3), (248, .iload_n 1, 1), (249, .iaload, 1), (250, .iaload, 1), (251, .iadd, 1), (252, .invokevirtual 235, 3), (255, .goto 80, 3), (258, .aload_n 0, 1), (259, .bipush 89, 2), (261, .invokevirtual 232, 3), (264, .aload_n 0, 1), (265, .iload_n 2, 1), (266, .invokevirtual 294, 3), (269, .iload_n 2, 1), (270, .bipush 16, 2), (272, .irem, 1), (273, .iconst 1, 1), (274, .iadd, 1), (275, .iconst 5, 1), (276, .iadd, 1), (277, .bipush 16, 2), (279, .if_icmp .le 15, 3), (282, .iload_n 2, 1), (283, .iload_n 2, 1), (284, .bipush 16, 2), (286, .irem, 1), (287, .isub, 1), (288, .bipush 16, 2), (290, .iadd, 1), (291, .goto 6, 3), (294, .iload_n 2, 1), (295, .iconst 1, 1), (296, .iadd, 1), (297, .istore_n 2, 1), (298, .aload_n 0, 1), (299, .iconst 0, 1), (300, .putfield 229, 3), (303, .aload_n 0, 1), (304, .bipush 27, 2), (306, .iconst 1, 1), (307, .invokevirtual 297, 3), (310, .goto 25, 3), (313, .aload_n 0, 1), (314, .iload_n 3, 1), (315, .iconst 5, 1), (316, .if_icmp .ne 8, 3), (319, .bipush 27, 2), (321, .goto 5, 3), (324, .bipush 28, 2), (326, .aload_n 0, 1), (327, .getfield 32, 3), (330, .iload_n 1, 1), (331, .iaload, 1), (332, .invokevirtual 297, 3), (335, .aload_n 0, 1), (336, .iload_n 2, 1), (337, .invokevirtual 294, 3), (340, .return_, 1)]
set_option maxRecDepth 100000 in
theorem dk_Mo_write : ∀ q ∈ dl_Mo_write, decode prog_14_method_50_code q.1 = .ok q.2 := by decide +kernel
abbrev rm_Mo_write : Room := { frames := 5, cells := 0, slots := 0, locals := 124 }
theorem cw_Mo_write : CWV y_Mo_write prog_14_method_50_code 4 none 1 := ⟨⟨g_7_175, g_1_13, by decide, by decide, by decide +kernel⟩, g_7_174, gs_6_9⟩
set_option maxHeartbeats 4000000 in
set_option maxRecDepth 100000 in
theorem t_Mo_write_B106 {k : Cfg} {res : St} (C : Cx k prog_14_method_50_code "BundleHouseModel") (hR : RV k res) (hRm : k.2.2.2.1 = rm_Mo_write) (hnL : k.2.2.2.2.2.2.2.2.2.2.2.1 = 4) (v0 : Nat) (v1 : Int32) (v2 : Int32) (t0 : Nat) (t1 : Int32) (ho_v0 : kd v0 = 12) (ho_t0 : kd t0 = 12) (σ : St) (h : Mo_write_B106 v0 v1 v2 t0 t1 σ = some res) : WW k 106 [(0, .ref (ad k v0)), (1, .int v1), (2, .int v2)] [.int t1, .ref (ad k t0)] σ := by
  unfold Mo_write_B106 at h
  refine ww_cVv (st := []) C (c_Mo_put t0 ho_t0 t1) cw_Mo_put ho_t0 (lt_ rfl) rfl g_7_138 hRm ⟨⟨rfl, rfl⟩, le_ rfl, le_ rfl⟩ rfl rfl rfl (le_ rfl) (dq dk_Mo_write 29 rfl) h (fun σ1 h => ?_)
  refine ww_aload_n C 0 rfl rfl (dq dk_Mo_write 30 rfl) ?_
  refine ww_iload_n C 1 rfl rfl (dq dk_Mo_write 31 rfl) ?_
  refine ww_cVv (st := []) C (c_Mo_putFar v0 ho_v0 v1) cw_Mo_putFar ho_v0 (lt_ rfl) rfl g_7_176 hRm ⟨⟨rfl, rfl⟩, le_ rfl, le_ rfl⟩ rfl rfl rfl (le_ rfl) (dq dk_Mo_write 32 rfl) h (fun σ2 h => ?_)
  refine ww_goto C 335 (dq dk_Mo_write 33 rfl) (by decide) ?_
  refine ww_aload_n C 0 rfl rfl (dq dk_Mo_write 161 rfl) ?_
  refine ww_iload_n C 2 rfl rfl (dq dk_Mo_write 162 rfl) ?_
  refine ww_cVv (st := []) C (c_Mo_copyBytes v0 ho_v0 v2) cw_Mo_copyBytes ho_v0 (lt_ rfl) rfl g_7_180 hRm ⟨⟨rfl, rfl⟩, le_ rfl, le_ rfl⟩ rfl rfl rfl (le_ rfl) (dq dk_Mo_write 163 rfl) h (fun σ3 h => ?_)
  exact ww_vret C hR (dq dk_Mo_write 164 rfl) h
set_option maxHeartbeats 4000000 in
set_option maxRecDepth 100000 in
theorem t_Mo_write_B150 {k : Cfg} {res : St} (C : Cx k prog_14_method_50_code "BundleHouseModel") (hR : RV k res) (hRm : k.2.2.2.1 = rm_Mo_write) (hnL : k.2.2.2.2.2.2.2.2.2.2.2.1 = 4) (v0 : Nat) (v1 : Int32) (v2 : Int32) (t0 : Nat) (t1 : Int32) (ho_v0 : kd v0 = 12) (ho_t0 : kd t0 = 12) (σ : St) (h : Mo_write_B150 v0 v1 v2 t0 t1 σ = some res) : WW k 150 [(0, .ref (ad k v0)), (1, .int v1), (2, .int v2)] [.int t1, .ref (ad k t0)] σ := by
  unfold Mo_write_B150 at h
  refine ww_aload_n C 0 rfl rfl (dq dk_Mo_write 51 rfl) ?_
  refine ww_getr C ko_Mo 15 ho_v0 (lt_ rfl) g_6_65 rfl rfl (dq dk_Mo_write 52 rfl) ?_
  refine ww_iload_n C 1 rfl rfl (dq dk_Mo_write 53 rfl) ?_
  refine ww_iald C (kc_Mo_15 _ ho_v0).1 (kc_Mo_15 _ ho_v0).2 (dq dk_Mo_write 54 rfl) h (fun x1 h => ?_)
  refine ww_iadd C (dq dk_Mo_write 55 rfl) ?_
  refine ww_cVv (st := []) C (c_Mo_put t0 ho_t0 (t1 + x1)) cw_Mo_put ho_t0 (lt_ rfl) rfl g_7_138 hRm ⟨⟨rfl, rfl⟩, le_ rfl, le_ rfl⟩ rfl rfl rfl (le_ rfl) (dq dk_Mo_write 56 rfl) h (fun σ2 h => ?_)
  refine ww_aload_n C 0 rfl rfl (dq dk_Mo_write 57 rfl) ?_
  refine ww_iload_n C 1 rfl rfl (dq dk_Mo_write 58 rfl) ?_
  refine ww_cVv (st := []) C (c_Mo_putFar v0 ho_v0 v1) cw_Mo_putFar ho_v0 (lt_ rfl) rfl g_7_176 hRm ⟨⟨rfl, rfl⟩, le_ rfl, le_ rfl⟩ rfl rfl rfl (le_ rfl) (dq dk_Mo_write 59 rfl) h (fun σ3 h => ?_)
  refine ww_goto C 335 (dq dk_Mo_write 60 rfl) (by decide) ?_
  refine ww_aload_n C 0 rfl rfl (dq dk_Mo_write 161 rfl) ?_
  refine ww_iload_n C 2 rfl rfl (dq dk_Mo_write 162 rfl) ?_
  refine ww_cVv (st := []) C (c_Mo_copyBytes v0 ho_v0 v2) cw_Mo_copyBytes ho_v0 (lt_ rfl) rfl g_7_180 hRm ⟨⟨rfl, rfl⟩, le_ rfl, le_ rfl⟩ rfl rfl rfl (le_ rfl) (dq dk_Mo_write 163 rfl) h (fun σ4 h => ?_)
  exact ww_vret C hR (dq dk_Mo_write 164 rfl) h
set_option maxHeartbeats 4000000 in
set_option maxRecDepth 100000 in
theorem t_Mo_write_B132 {k : Cfg} {res : St} (C : Cx k prog_14_method_50_code "BundleHouseModel") (hR : RV k res) (hRm : k.2.2.2.1 = rm_Mo_write) (hnL : k.2.2.2.2.2.2.2.2.2.2.2.1 = 4) (v0 : Nat) (v1 : Int32) (v2 : Int32) (ho_v0 : kd v0 = 12) (σ : St) (h : Mo_write_B132 v0 v1 v2 σ = some res) : WW k 132 [(0, .ref (ad k v0)), (1, .int v1), (2, .int v2)] [] σ := by
  unfold Mo_write_B132 at h
  refine ww_aload_n C 0 rfl rfl (dq dk_Mo_write 42 rfl) ?_
  refine ww_aload_n C 0 rfl rfl (dq dk_Mo_write 43 rfl) ?_
  refine ww_getr C ko_Mo 21 ho_v0 (lt_ rfl) g_6_71 rfl rfl (dq dk_Mo_write 44 rfl) ?_
  refine ww_iload_n C 1 rfl rfl (dq dk_Mo_write 45 rfl) ?_
  refine ww_zald C (kc_Mo_21 _ ho_v0).1 (kc_Mo_21 _ ho_v0).2 (dq dk_Mo_write 46 rfl) h (fun x1 h => ?_)
  refine ww_if_eq C 148 (dq dk_Mo_write 47 rfl) (by decide) h (fun h => ?_) (fun h => ?_)
  · refine ww_bipush C (dq dk_Mo_write 50 rfl) bp_112 ?_
    exact ww_lv [0, 1, 2] rfl (t_Mo_write_B150 C hR hRm hnL v0 v1 v2 v0 112 ho_v0 ho_v0 σ h)
  · refine ww_sipush C (dq dk_Mo_write 48 rfl) sp_128 ?_
    refine ww_goto C 150 (dq dk_Mo_write 49 rfl) (by decide) ?_
    exact ww_lv [0, 1, 2] rfl (t_Mo_write_B150 C hR hRm hnL v0 v1 v2 v0 128 ho_v0 ho_v0 σ h)
set_option maxHeartbeats 4000000 in
set_option maxRecDepth 100000 in
theorem t_Mo_write_B168 {k : Cfg} {res : St} (C : Cx k prog_14_method_50_code "BundleHouseModel") (hR : RV k res) (hRm : k.2.2.2.1 = rm_Mo_write) (hnL : k.2.2.2.2.2.2.2.2.2.2.2.1 = 4) (v0 : Nat) (v1 : Int32) (v2 : Int32) (v3 : Int32) (ho_v0 : kd v0 = 12) (σ : St) (h : Mo_write_B168 v0 v1 v2 v3 σ = some res) : WW k 168 [(0, .ref (ad k v0)), (1, .int v1), (2, .int v2), (3, .int v3)] [] σ := by
  unfold Mo_write_B168 at h
  refine ww_aload_n C 0 rfl rfl (dq dk_Mo_write 61 rfl) ?_
  refine ww_sipush C (dq dk_Mo_write 62 rfl) sp_232 ?_
  refine ww_cVv (st := []) C (c_Mo_put v0 ho_v0 232) cw_Mo_put ho_v0 (lt_ rfl) rfl g_7_138 hRm ⟨⟨rfl, rfl⟩, le_ rfl, le_ rfl⟩ rfl rfl rfl (le_ rfl) (dq dk_Mo_write 63 rfl) h (fun σ1 h => ?_)
  refine ww_aload_n C 0 rfl rfl (dq dk_Mo_write 64 rfl) ?_
  refine ww_iload_n C 3 rfl rfl (dq dk_Mo_write 65 rfl) ?_
  refine ww_iconst C (dq dk_Mo_write 66 rfl) ic_3 ?_
  refine ww_icmp_ne C 199 (dq dk_Mo_write 67 rfl) (by decide) h (fun h => ?_) (fun h => ?_)
  · refine ww_bipush C (dq dk_Mo_write 80 rfl) bp_16 ?_
    refine ww_aload_n C 0 rfl rfl (dq dk_Mo_write 81 rfl) ?_
    refine ww_getr C ko_Mo 14 ho_v0 (lt_ rfl) g_6_64 rfl rfl (dq dk_Mo_write 82 rfl) ?_
    refine ww_iload_n C 1 rfl rfl (dq dk_Mo_write 83 rfl) ?_
    refine ww_iald C (kc_Mo_14 _ ho_v0).1 (kc_Mo_14 _ ho_v0).2 (dq dk_Mo_write 84 rfl) h (fun x2 h => ?_)
    refine ww_imul C (dq dk_Mo_write 85 rfl) ?_
    refine ww_sipush C (dq dk_Mo_write 86 rfl) sp_256 ?_
    refine ww_isub C (dq dk_Mo_write 87 rfl) ?_
    refine ww_iload_n C 2 rfl rfl (dq dk_Mo_write 88 rfl) ?_
    refine ww_isub C (dq dk_Mo_write 89 rfl) ?_
    refine ww_iconst C (dq dk_Mo_write 90 rfl) ic_5 ?_
    refine ww_isub C (dq dk_Mo_write 91 rfl) ?_
    refine ww_cVv (st := []) C (c_Mo_putFour v0 ho_v0 ((((16 * x2) - 256) - v2) - 5)) cw_Mo_putFour ho_v0 (lt_ rfl) rfl g_7_153 hRm ⟨⟨rfl, rfl⟩, le_ rfl, le_ rfl⟩ rfl rfl rfl (le_ rfl) (dq dk_Mo_write 92 rfl) h (fun σ3 h => ?_)
    refine ww_goto C 335 (dq dk_Mo_write 93 rfl) (by decide) ?_
    refine ww_aload_n C 0 rfl rfl (dq dk_Mo_write 161 rfl) ?_
    refine ww_iload_n C 2 rfl rfl (dq dk_Mo_write 162 rfl) ?_
    refine ww_cVv (st := []) C (c_Mo_copyBytes v0 ho_v0 v2) cw_Mo_copyBytes ho_v0 (lt_ rfl) rfl g_7_180 hRm ⟨⟨rfl, rfl⟩, le_ rfl, le_ rfl⟩ rfl rfl rfl (le_ rfl) (dq dk_Mo_write 163 rfl) h (fun σ4 h => ?_)
    exact ww_vret C hR (dq dk_Mo_write 164 rfl) h
  · refine ww_aload_n C 0 rfl rfl (dq dk_Mo_write 68 rfl) ?_
    refine ww_getr C ko_Mo 19 ho_v0 (lt_ rfl) g_6_69 rfl rfl (dq dk_Mo_write 69 rfl) ?_
    refine ww_aload_n C 0 rfl rfl (dq dk_Mo_write 70 rfl) ?_
    refine ww_getr C ko_Mo 14 ho_v0 (lt_ rfl) g_6_64 rfl rfl (dq dk_Mo_write 71 rfl) ?_
    refine ww_iload_n C 1 rfl rfl (dq dk_Mo_write 72 rfl) ?_
    refine ww_iald C (kc_Mo_14 _ ho_v0).1 (kc_Mo_14 _ ho_v0).2 (dq dk_Mo_write 73 rfl) h (fun x5 h => ?_)
    refine ww_iald C (kc_Mo_19 _ ho_v0).1 (kc_Mo_19 _ ho_v0).2 (dq dk_Mo_write 74 rfl) h (fun x6 h => ?_)
    refine ww_iload_n C 2 rfl rfl (dq dk_Mo_write 75 rfl) ?_
    refine ww_isub C (dq dk_Mo_write 76 rfl) ?_
    refine ww_iconst C (dq dk_Mo_write 77 rfl) ic_5 ?_
    refine ww_isub C (dq dk_Mo_write 78 rfl) ?_
    refine ww_goto C 216 (dq dk_Mo_write 79 rfl) (by decide) ?_
    refine ww_cVv (st := []) C (c_Mo_putFour v0 ho_v0 ((x6 - v2) - 5)) cw_Mo_putFour ho_v0 (lt_ rfl) rfl g_7_153 hRm ⟨⟨rfl, rfl⟩, le_ rfl, le_ rfl⟩ rfl rfl rfl (le_ rfl) (dq dk_Mo_write 92 rfl) h (fun σ7 h => ?_)
    refine ww_goto C 335 (dq dk_Mo_write 93 rfl) (by decide) ?_
    refine ww_aload_n C 0 rfl rfl (dq dk_Mo_write 161 rfl) ?_
    refine ww_iload_n C 2 rfl rfl (dq dk_Mo_write 162 rfl) ?_
    refine ww_cVv (st := []) C (c_Mo_copyBytes v0 ho_v0 v2) cw_Mo_copyBytes ho_v0 (lt_ rfl) rfl g_7_180 hRm ⟨⟨rfl, rfl⟩, le_ rfl, le_ rfl⟩ rfl rfl rfl (le_ rfl) (dq dk_Mo_write 163 rfl) h (fun σ8 h => ?_)
    exact ww_vret C hR (dq dk_Mo_write 164 rfl) h
set_option maxHeartbeats 4000000 in
set_option maxRecDepth 100000 in
theorem t_Mo_write_B297 {k : Cfg} {res : St} (C : Cx k prog_14_method_50_code "BundleHouseModel") (hR : RV k res) (hRm : k.2.2.2.1 = rm_Mo_write) (hnL : k.2.2.2.2.2.2.2.2.2.2.2.1 = 4) (v0 : Nat) (t0 : Int32) (ho_v0 : kd v0 = 12) (σ : St) (h : Mo_write_B297 v0 t0 σ = some res) : WW k 297 [(0, .ref (ad k v0))] [.int t0] σ := by
  unfold Mo_write_B297 at h
  refine ww_istore_n C [(2, .int t0), (0, .ref (ad k v0))] rfl hnL (lt_ rfl) rfl (dq dk_Mo_write 140 rfl) ?_
  refine ww_aload_n C 1 rfl rfl (dq dk_Mo_write 141 rfl) ?_
  refine ww_iconst C (dq dk_Mo_write 142 rfl) ic_0 ?_
  refine ww_puti C ko_Mo 25 ho_v0 (lt_ rfl) g_6_75 rfl rfl rfl rfl (dq dk_Mo_write 143 rfl) h (fun σ1 h => ?_)
  refine ww_aload_n C 1 rfl rfl (dq dk_Mo_write 144 rfl) ?_
  refine ww_bipush C (dq dk_Mo_write 145 rfl) bp_27 ?_
  refine ww_iconst C (dq dk_Mo_write 146 rfl) ic_1 ?_
  refine ww_cVv (st := []) C (c_Mo_putPair v0 ho_v0 27 1) cw_Mo_putPair ho_v0 (lt_ rfl) rfl g_7_184 hRm ⟨⟨rfl, rfl⟩, le_ rfl, le_ rfl⟩ rfl rfl rfl (le_ rfl) (dq dk_Mo_write 147 rfl) h (fun σ2 h => ?_)
  refine ww_goto C 335 (dq dk_Mo_write 148 rfl) (by decide) ?_
  refine ww_aload_n C 1 rfl rfl (dq dk_Mo_write 161 rfl) ?_
  refine ww_iload_n C 0 rfl rfl (dq dk_Mo_write 162 rfl) ?_
  refine ww_cVv (st := []) C (c_Mo_copyBytes v0 ho_v0 t0) cw_Mo_copyBytes ho_v0 (lt_ rfl) rfl g_7_180 hRm ⟨⟨rfl, rfl⟩, le_ rfl, le_ rfl⟩ rfl rfl rfl (le_ rfl) (dq dk_Mo_write 163 rfl) h (fun σ3 h => ?_)
  exact ww_vret C hR (dq dk_Mo_write 164 rfl) h
set_option maxHeartbeats 4000000 in
set_option maxRecDepth 100000 in
theorem c_Mo_write (v0 : Nat) (ho_v0 : kd v0 = 12) (v1 : Int32) : MV y_Mo_write rm_Mo_write prog_14_method_50_code 4 (fun a => [.ref (a v0), .int v1]) (Mo_write v0 v1) := by
  refine mv_of (by decide) (fun _ => le_ rfl) ?_
  intro k res σ C hR hRm hnL h
  unfold Mo_write at h
  show WW k 0 [(0, .ref (ad k v0)), (1, .int v1)] [] σ
  refine ww_aload_n C 0 rfl rfl (dq dk_Mo_write 0 rfl) ?_
  refine ww_getr C ko_Mo 18 ho_v0 (lt_ rfl) g_6_68 rfl rfl (dq dk_Mo_write 1 rfl) ?_
  refine ww_iload_n C 1 rfl rfl (dq dk_Mo_write 2 rfl) ?_
  refine ww_iald C (kc_Mo_18 _ ho_v0).1 (kc_Mo_18 _ ho_v0).2 (dq dk_Mo_write 3 rfl) h (fun x1 h => ?_)
  refine ww_istore_n C [(2, .int x1), (0, .ref (ad k v0)), (1, .int v1)] rfl hnL (lt_ rfl) rfl (dq dk_Mo_write 4 rfl) ?_
  refine ww_aload_n C 1 rfl rfl (dq dk_Mo_write 5 rfl) ?_
  refine ww_getr C ko_Mo 11 ho_v0 (lt_ rfl) g_6_61 rfl rfl (dq dk_Mo_write 6 rfl) ?_
  refine ww_iload_n C 2 rfl rfl (dq dk_Mo_write 7 rfl) ?_
  refine ww_iald C (kc_Mo_11 _ ho_v0).1 (kc_Mo_11 _ ho_v0).2 (dq dk_Mo_write 8 rfl) h (fun x2 h => ?_)
  refine ww_istore_n C [(3, .int x2), (2, .int x1), (0, .ref (ad k v0)), (1, .int v1)] rfl hnL (lt_ rfl) rfl (dq dk_Mo_write 9 rfl) ?_
  refine ww_aload_n C 2 rfl rfl (dq dk_Mo_write 10 rfl) ?_
  refine ww_iconst C (dq dk_Mo_write 11 rfl) ic_0 ?_
  refine ww_puti C ko_Mo 25 ho_v0 (lt_ rfl) g_6_75 rfl rfl rfl rfl (dq dk_Mo_write 12 rfl) h (fun σ3 h => ?_)
  refine ww_iload_n C 0 rfl rfl (dq dk_Mo_write 13 rfl) ?_
  by_cases e0_0 : x2 = 0
  · rw [if_pos e0_0] at h
    refine ww_tabIn C 76 (dq dk_Mo_write 14 rfl) (by rw [e0_0]; decide) (by rw [e0_0]; decide) (by rw [e0_0]; rfl) (by decide) ?_
    refine ww_goto C 335 (dq dk_Mo_write 15 rfl) (by decide) ?_
    refine ww_aload_n C 2 rfl rfl (dq dk_Mo_write 161 rfl) ?_
    refine ww_iload_n C 1 rfl rfl (dq dk_Mo_write 162 rfl) ?_
    refine ww_cVv (st := []) C (c_Mo_copyBytes v0 ho_v0 x1) cw_Mo_copyBytes ho_v0 (lt_ rfl) rfl g_7_180 hRm ⟨⟨rfl, rfl⟩, le_ rfl, le_ rfl⟩ rfl rfl rfl (le_ rfl) (dq dk_Mo_write 163 rfl) h (fun σ4 h => ?_)
    exact ww_vret C hR (dq dk_Mo_write 164 rfl) h
  rw [if_neg e0_0] at h
  by_cases e1_1 : x2 = 1
  · rw [if_pos e1_1] at h
    refine ww_tabIn C 87 (dq dk_Mo_write 14 rfl) (by rw [e1_1]; decide) (by rw [e1_1]; decide) (by rw [e1_1]; rfl) (by decide) ?_
    refine ww_aload_n C 2 rfl rfl (dq dk_Mo_write 20 rfl) ?_
    refine ww_aload_n C 2 rfl rfl (dq dk_Mo_write 21 rfl) ?_
    refine ww_getr C ko_Mo 21 ho_v0 (lt_ rfl) g_6_71 rfl rfl (dq dk_Mo_write 22 rfl) ?_
    refine ww_iload_n C 3 rfl rfl (dq dk_Mo_write 23 rfl) ?_
    refine ww_zald C (kc_Mo_21 _ ho_v0).1 (kc_Mo_21 _ ho_v0).2 (dq dk_Mo_write 24 rfl) h (fun x5 h => ?_)
    refine ww_if_eq C 103 (dq dk_Mo_write 25 rfl) (by decide) h (fun h => ?_) (fun h => ?_)
    · refine ww_sipush C (dq dk_Mo_write 28 rfl) sp_235 ?_
      exact ww_lv [2, 3, 1] rfl (t_Mo_write_B106 C hR hRm hnL v0 v1 x1 v0 235 ho_v0 ho_v0 σ3 h)
    · refine ww_sipush C (dq dk_Mo_write 26 rfl) sp_233 ?_
      refine ww_goto C 106 (dq dk_Mo_write 27 rfl) (by decide) ?_
      exact ww_lv [2, 3, 1] rfl (t_Mo_write_B106 C hR hRm hnL v0 v1 x1 v0 233 ho_v0 ho_v0 σ3 h)
  rw [if_neg e1_1] at h
  by_cases e2_2 : x2 = 2
  · rw [if_pos e2_2] at h
    refine ww_tabIn C 117 (dq dk_Mo_write 14 rfl) (by rw [e2_2]; decide) (by rw [e2_2]; decide) (by rw [e2_2]; rfl) (by decide) ?_
    refine ww_aload_n C 2 rfl rfl (dq dk_Mo_write 34 rfl) ?_
    refine ww_getr C ko_Mo 21 ho_v0 (lt_ rfl) g_6_71 rfl rfl (dq dk_Mo_write 35 rfl) ?_
    refine ww_iload_n C 3 rfl rfl (dq dk_Mo_write 36 rfl) ?_
    refine ww_zald C (kc_Mo_21 _ ho_v0).1 (kc_Mo_21 _ ho_v0).2 (dq dk_Mo_write 37 rfl) h (fun x6 h => ?_)
    refine ww_if_eq C 132 (dq dk_Mo_write 38 rfl) (by decide) h (fun h => ?_) (fun h => ?_)
    · exact ww_lv [2, 3, 1] rfl (t_Mo_write_B132 C hR hRm hnL v0 v1 x1 ho_v0 σ3 h)
    · refine ww_aload_n C 2 rfl rfl (dq dk_Mo_write 39 rfl) ?_
      refine ww_bipush C (dq dk_Mo_write 40 rfl) bp_15 ?_
      refine ww_cVv (st := []) C (c_Mo_put v0 ho_v0 15) cw_Mo_put ho_v0 (lt_ rfl) rfl g_7_138 hRm ⟨⟨rfl, rfl⟩, le_ rfl, le_ rfl⟩ rfl rfl rfl (le_ rfl) (dq dk_Mo_write 41 rfl) h (fun σ7 h => ?_)
      exact ww_lv [2, 3, 1] rfl (t_Mo_write_B132 C hR hRm hnL v0 v1 x1 ho_v0 σ7 h)
  rw [if_neg e2_2] at h
  by_cases e3_3 : x2 = 3
  · rw [if_pos e3_3] at h
    refine ww_tabIn C 168 (dq dk_Mo_write 14 rfl) (by rw [e3_3]; decide) (by rw [e3_3]; decide) (by rw [e3_3]; rfl) (by decide) ?_
    exact ww_lv [2, 3, 1, 0] rfl (t_Mo_write_B168 C hR hRm hnL v0 v1 x1 x2 ho_v0 σ3 h)
  rw [if_neg e3_3] at h
  by_cases e4_4 : x2 = 4
  · rw [if_pos e4_4] at h
    refine ww_tabIn C 168 (dq dk_Mo_write 14 rfl) (by rw [e4_4]; decide) (by rw [e4_4]; decide) (by rw [e4_4]; rfl) (by decide) ?_
    exact ww_lv [2, 3, 1, 0] rfl (t_Mo_write_B168 C hR hRm hnL v0 v1 x1 x2 ho_v0 σ3 h)
  rw [if_neg e4_4] at h
  by_cases e5_5 : x2 = 5
  · rw [if_pos e5_5] at h
    refine ww_tabIn C 313 (dq dk_Mo_write 14 rfl) (by rw [e5_5]; decide) (by rw [e5_5]; decide) (by rw [e5_5]; rfl) (by decide) ?_
    refine ww_aload_n C 2 rfl rfl (dq dk_Mo_write 149 rfl) ?_
    refine ww_iload_n C 0 rfl rfl (dq dk_Mo_write 150 rfl) ?_
    refine ww_iconst C (dq dk_Mo_write 151 rfl) ic_5 ?_
    refine ww_icmp_ne C 324 (dq dk_Mo_write 152 rfl) (by decide) h (fun h => ?_) (fun h => ?_)
    · refine ww_bipush C (dq dk_Mo_write 155 rfl) bp_28 ?_
      refine ww_aload_n C 2 rfl rfl (dq dk_Mo_write 156 rfl) ?_
      refine ww_getr C ko_Mo 14 ho_v0 (lt_ rfl) g_6_64 rfl rfl (dq dk_Mo_write 157 rfl) ?_
      refine ww_iload_n C 3 rfl rfl (dq dk_Mo_write 158 rfl) ?_
      refine ww_iald C (kc_Mo_14 _ ho_v0).1 (kc_Mo_14 _ ho_v0).2 (dq dk_Mo_write 159 rfl) h (fun x8 h => ?_)
      refine ww_cVv (st := []) C (c_Mo_putPair v0 ho_v0 28 x8) cw_Mo_putPair ho_v0 (lt_ rfl) rfl g_7_184 hRm ⟨⟨rfl, rfl⟩, le_ rfl, le_ rfl⟩ rfl rfl rfl (le_ rfl) (dq dk_Mo_write 160 rfl) h (fun σ9 h => ?_)
      refine ww_aload_n C 2 rfl rfl (dq dk_Mo_write 161 rfl) ?_
      refine ww_iload_n C 1 rfl rfl (dq dk_Mo_write 162 rfl) ?_
      refine ww_cVv (st := []) C (c_Mo_copyBytes v0 ho_v0 x1) cw_Mo_copyBytes ho_v0 (lt_ rfl) rfl g_7_180 hRm ⟨⟨rfl, rfl⟩, le_ rfl, le_ rfl⟩ rfl rfl rfl (le_ rfl) (dq dk_Mo_write 163 rfl) h (fun σ10 h => ?_)
      exact ww_vret C hR (dq dk_Mo_write 164 rfl) h
    · refine ww_bipush C (dq dk_Mo_write 153 rfl) bp_27 ?_
      refine ww_goto C 326 (dq dk_Mo_write 154 rfl) (by decide) ?_
      refine ww_aload_n C 2 rfl rfl (dq dk_Mo_write 156 rfl) ?_
      refine ww_getr C ko_Mo 14 ho_v0 (lt_ rfl) g_6_64 rfl rfl (dq dk_Mo_write 157 rfl) ?_
      refine ww_iload_n C 3 rfl rfl (dq dk_Mo_write 158 rfl) ?_
      refine ww_iald C (kc_Mo_14 _ ho_v0).1 (kc_Mo_14 _ ho_v0).2 (dq dk_Mo_write 159 rfl) h (fun x11 h => ?_)
      refine ww_cVv (st := []) C (c_Mo_putPair v0 ho_v0 27 x11) cw_Mo_putPair ho_v0 (lt_ rfl) rfl g_7_184 hRm ⟨⟨rfl, rfl⟩, le_ rfl, le_ rfl⟩ rfl rfl rfl (le_ rfl) (dq dk_Mo_write 160 rfl) h (fun σ12 h => ?_)
      refine ww_aload_n C 2 rfl rfl (dq dk_Mo_write 161 rfl) ?_
      refine ww_iload_n C 1 rfl rfl (dq dk_Mo_write 162 rfl) ?_
      refine ww_cVv (st := []) C (c_Mo_copyBytes v0 ho_v0 x1) cw_Mo_copyBytes ho_v0 (lt_ rfl) rfl g_7_180 hRm ⟨⟨rfl, rfl⟩, le_ rfl, le_ rfl⟩ rfl rfl rfl (le_ rfl) (dq dk_Mo_write 163 rfl) h (fun σ13 h => ?_)
      exact ww_vret C hR (dq dk_Mo_write 164 rfl) h
  rw [if_neg e5_5] at h
  by_cases e6_6 : x2 = 6
  · rw [if_pos e6_6] at h
    refine ww_tabIn C 313 (dq dk_Mo_write 14 rfl) (by rw [e6_6]; decide) (by rw [e6_6]; decide) (by rw [e6_6]; rfl) (by decide) ?_
    refine ww_aload_n C 2 rfl rfl (dq dk_Mo_write 149 rfl) ?_
    refine ww_iload_n C 0 rfl rfl (dq dk_Mo_write 150 rfl) ?_
    refine ww_iconst C (dq dk_Mo_write 151 rfl) ic_5 ?_
    refine ww_icmp_ne C 324 (dq dk_Mo_write 152 rfl) (by decide) h (fun h => ?_) (fun h => ?_)
    · refine ww_bipush C (dq dk_Mo_write 155 rfl) bp_28 ?_
      refine ww_aload_n C 2 rfl rfl (dq dk_Mo_write 156 rfl) ?_
      refine ww_getr C ko_Mo 14 ho_v0 (lt_ rfl) g_6_64 rfl rfl (dq dk_Mo_write 157 rfl) ?_
      refine ww_iload_n C 3 rfl rfl (dq dk_Mo_write 158 rfl) ?_
      refine ww_iald C (kc_Mo_14 _ ho_v0).1 (kc_Mo_14 _ ho_v0).2 (dq dk_Mo_write 159 rfl) h (fun x14 h => ?_)
      refine ww_cVv (st := []) C (c_Mo_putPair v0 ho_v0 28 x14) cw_Mo_putPair ho_v0 (lt_ rfl) rfl g_7_184 hRm ⟨⟨rfl, rfl⟩, le_ rfl, le_ rfl⟩ rfl rfl rfl (le_ rfl) (dq dk_Mo_write 160 rfl) h (fun σ15 h => ?_)
      refine ww_aload_n C 2 rfl rfl (dq dk_Mo_write 161 rfl) ?_
      refine ww_iload_n C 1 rfl rfl (dq dk_Mo_write 162 rfl) ?_
      refine ww_cVv (st := []) C (c_Mo_copyBytes v0 ho_v0 x1) cw_Mo_copyBytes ho_v0 (lt_ rfl) rfl g_7_180 hRm ⟨⟨rfl, rfl⟩, le_ rfl, le_ rfl⟩ rfl rfl rfl (le_ rfl) (dq dk_Mo_write 163 rfl) h (fun σ16 h => ?_)
      exact ww_vret C hR (dq dk_Mo_write 164 rfl) h
    · refine ww_bipush C (dq dk_Mo_write 153 rfl) bp_27 ?_
      refine ww_goto C 326 (dq dk_Mo_write 154 rfl) (by decide) ?_
      refine ww_aload_n C 2 rfl rfl (dq dk_Mo_write 156 rfl) ?_
      refine ww_getr C ko_Mo 14 ho_v0 (lt_ rfl) g_6_64 rfl rfl (dq dk_Mo_write 157 rfl) ?_
      refine ww_iload_n C 3 rfl rfl (dq dk_Mo_write 158 rfl) ?_
      refine ww_iald C (kc_Mo_14 _ ho_v0).1 (kc_Mo_14 _ ho_v0).2 (dq dk_Mo_write 159 rfl) h (fun x17 h => ?_)
      refine ww_cVv (st := []) C (c_Mo_putPair v0 ho_v0 27 x17) cw_Mo_putPair ho_v0 (lt_ rfl) rfl g_7_184 hRm ⟨⟨rfl, rfl⟩, le_ rfl, le_ rfl⟩ rfl rfl rfl (le_ rfl) (dq dk_Mo_write 160 rfl) h (fun σ18 h => ?_)
      refine ww_aload_n C 2 rfl rfl (dq dk_Mo_write 161 rfl) ?_
      refine ww_iload_n C 1 rfl rfl (dq dk_Mo_write 162 rfl) ?_
      refine ww_cVv (st := []) C (c_Mo_copyBytes v0 ho_v0 x1) cw_Mo_copyBytes ho_v0 (lt_ rfl) rfl g_7_180 hRm ⟨⟨rfl, rfl⟩, le_ rfl, le_ rfl⟩ rfl rfl rfl (le_ rfl) (dq dk_Mo_write 163 rfl) h (fun σ19 h => ?_)
      exact ww_vret C hR (dq dk_Mo_write 164 rfl) h
  rw [if_neg e6_6] at h
  by_cases e7_7 : x2 = 7
  · rw [if_pos e7_7] at h
    refine ww_tabIn C 258 (dq dk_Mo_write 14 rfl) (by rw [e7_7]; decide) (by rw [e7_7]; decide) (by rw [e7_7]; rfl) (by decide) ?_
    refine ww_aload_n C 2 rfl rfl (dq dk_Mo_write 114 rfl) ?_
    refine ww_bipush C (dq dk_Mo_write 115 rfl) bp_89 ?_
    refine ww_cVv (st := []) C (c_Mo_put v0 ho_v0 89) cw_Mo_put ho_v0 (lt_ rfl) rfl g_7_138 hRm ⟨⟨rfl, rfl⟩, le_ rfl, le_ rfl⟩ rfl rfl rfl (le_ rfl) (dq dk_Mo_write 116 rfl) h (fun σ20 h => ?_)
    refine ww_aload_n C 2 rfl rfl (dq dk_Mo_write 117 rfl) ?_
    refine ww_iload_n C 1 rfl rfl (dq dk_Mo_write 118 rfl) ?_
    refine ww_cVv (st := []) C (c_Mo_copyBytes v0 ho_v0 x1) cw_Mo_copyBytes ho_v0 (lt_ rfl) rfl g_7_180 hRm ⟨⟨rfl, rfl⟩, le_ rfl, le_ rfl⟩ rfl rfl rfl (le_ rfl) (dq dk_Mo_write 119 rfl) h (fun σ21 h => ?_)
    refine ww_iload_n C 1 rfl rfl (dq dk_Mo_write 120 rfl) ?_
    refine ww_bipush C (dq dk_Mo_write 121 rfl) bp_16 ?_
    refine ww_irem C (by decide) (dq dk_Mo_write 122 rfl) ?_
    refine ww_iconst C (dq dk_Mo_write 123 rfl) ic_1 ?_
    refine ww_iadd C (dq dk_Mo_write 124 rfl) ?_
    refine ww_iconst C (dq dk_Mo_write 125 rfl) ic_5 ?_
    refine ww_iadd C (dq dk_Mo_write 126 rfl) ?_
    refine ww_bipush C (dq dk_Mo_write 127 rfl) bp_16 ?_
    refine ww_icmp_le C 294 (dq dk_Mo_write 128 rfl) (by decide) h (fun h => ?_) (fun h => ?_)
    · refine ww_iload_n C 1 rfl rfl (dq dk_Mo_write 137 rfl) ?_
      refine ww_iconst C (dq dk_Mo_write 138 rfl) ic_1 ?_
      refine ww_iadd C (dq dk_Mo_write 139 rfl) ?_
      exact ww_lv [2] rfl (t_Mo_write_B297 C hR hRm hnL v0 (x1 + 1) ho_v0 σ21 h)
    · refine ww_iload_n C 1 rfl rfl (dq dk_Mo_write 129 rfl) ?_
      refine ww_iload_n C 1 rfl rfl (dq dk_Mo_write 130 rfl) ?_
      refine ww_bipush C (dq dk_Mo_write 131 rfl) bp_16 ?_
      refine ww_irem C (by decide) (dq dk_Mo_write 132 rfl) ?_
      refine ww_isub C (dq dk_Mo_write 133 rfl) ?_
      refine ww_bipush C (dq dk_Mo_write 134 rfl) bp_16 ?_
      refine ww_iadd C (dq dk_Mo_write 135 rfl) ?_
      refine ww_goto C 297 (dq dk_Mo_write 136 rfl) (by decide) ?_
      exact ww_lv [2] rfl (t_Mo_write_B297 C hR hRm hnL v0 ((x1 - (rem x1 16)) + 16) ho_v0 σ21 h)
  rw [if_neg e7_7] at h
  by_cases e8_8 : x2 = 8
  · rw [if_pos e8_8] at h
    refine ww_tabIn C 222 (dq dk_Mo_write 14 rfl) (by rw [e8_8]; decide) (by rw [e8_8]; decide) (by rw [e8_8]; rfl) (by decide) ?_
    refine ww_aload_n C 2 rfl rfl (dq dk_Mo_write 94 rfl) ?_
    refine ww_sipush C (dq dk_Mo_write 95 rfl) sp_184 ?_
    refine ww_aload_n C 2 rfl rfl (dq dk_Mo_write 96 rfl) ?_
    refine ww_getr C ko_Mo 15 ho_v0 (lt_ rfl) g_6_65 rfl rfl (dq dk_Mo_write 97 rfl) ?_
    refine ww_iload_n C 3 rfl rfl (dq dk_Mo_write 98 rfl) ?_
    refine ww_iald C (kc_Mo_15 _ ho_v0).1 (kc_Mo_15 _ ho_v0).2 (dq dk_Mo_write 99 rfl) h (fun x22 h => ?_)
    refine ww_iadd C (dq dk_Mo_write 100 rfl) ?_
    refine ww_cVv (st := []) C (c_Mo_put v0 ho_v0 (184 + x22)) cw_Mo_put ho_v0 (lt_ rfl) rfl g_7_138 hRm ⟨⟨rfl, rfl⟩, le_ rfl, le_ rfl⟩ rfl rfl rfl (le_ rfl) (dq dk_Mo_write 101 rfl) h (fun σ23 h => ?_)
    refine ww_aload_n C 2 rfl rfl (dq dk_Mo_write 102 rfl) ?_
    refine ww_sipush C (dq dk_Mo_write 103 rfl) sp_256 ?_
    refine ww_aload_n C 2 rfl rfl (dq dk_Mo_write 104 rfl) ?_
    refine ww_getr C ko_Mo 19 ho_v0 (lt_ rfl) g_6_69 rfl rfl (dq dk_Mo_write 105 rfl) ?_
    refine ww_aload_n C 2 rfl rfl (dq dk_Mo_write 106 rfl) ?_
    refine ww_getr C ko_Mo 14 ho_v0 (lt_ rfl) g_6_64 rfl rfl (dq dk_Mo_write 107 rfl) ?_
    refine ww_iload_n C 3 rfl rfl (dq dk_Mo_write 108 rfl) ?_
    refine ww_iald C (kc_Mo_14 _ ho_v0).1 (kc_Mo_14 _ ho_v0).2 (dq dk_Mo_write 109 rfl) h (fun x24 h => ?_)
    refine ww_iald C (kc_Mo_19 _ ho_v0).1 (kc_Mo_19 _ ho_v0).2 (dq dk_Mo_write 110 rfl) h (fun x25 h => ?_)
    refine ww_iadd C (dq dk_Mo_write 111 rfl) ?_
    refine ww_cVv (st := []) C (c_Mo_putFour v0 ho_v0 (256 + x25)) cw_Mo_putFour ho_v0 (lt_ rfl) rfl g_7_153 hRm ⟨⟨rfl, rfl⟩, le_ rfl, le_ rfl⟩ rfl rfl rfl (le_ rfl) (dq dk_Mo_write 112 rfl) h (fun σ26 h => ?_)
    refine ww_goto C 335 (dq dk_Mo_write 113 rfl) (by decide) ?_
    refine ww_aload_n C 2 rfl rfl (dq dk_Mo_write 161 rfl) ?_
    refine ww_iload_n C 1 rfl rfl (dq dk_Mo_write 162 rfl) ?_
    refine ww_cVv (st := []) C (c_Mo_copyBytes v0 ho_v0 x1) cw_Mo_copyBytes ho_v0 (lt_ rfl) rfl g_7_180 hRm ⟨⟨rfl, rfl⟩, le_ rfl, le_ rfl⟩ rfl rfl rfl (le_ rfl) (dq dk_Mo_write 163 rfl) h (fun σ27 h => ?_)
    exact ww_vret C hR (dq dk_Mo_write 164 rfl) h
  rw [if_neg e8_8] at h
  by_cases e9_9 : x2 = 9
  · rw [if_pos e9_9] at h
    refine ww_tabIn C 79 (dq dk_Mo_write 14 rfl) (by rw [e9_9]; decide) (by rw [e9_9]; decide) (by rw [e9_9]; rfl) (by decide) ?_
    refine ww_aload_n C 2 rfl rfl (dq dk_Mo_write 16 rfl) ?_
    refine ww_iload_n C 3 rfl rfl (dq dk_Mo_write 17 rfl) ?_
    refine ww_cVv (st := []) C (c_Mo_encode v0 ho_v0 v1) cw_Mo_encode ho_v0 (lt_ rfl) rfl g_7_134 hRm ⟨⟨rfl, rfl⟩, le_ rfl, le_ rfl⟩ rfl rfl rfl (le_ rfl) (dq dk_Mo_write 18 rfl) h (fun σ28 h => ?_)
    refine ww_goto C 335 (dq dk_Mo_write 19 rfl) (by decide) ?_
    refine ww_aload_n C 2 rfl rfl (dq dk_Mo_write 161 rfl) ?_
    refine ww_iload_n C 1 rfl rfl (dq dk_Mo_write 162 rfl) ?_
    refine ww_cVv (st := []) C (c_Mo_copyBytes v0 ho_v0 x1) cw_Mo_copyBytes ho_v0 (lt_ rfl) rfl g_7_180 hRm ⟨⟨rfl, rfl⟩, le_ rfl, le_ rfl⟩ rfl rfl rfl (le_ rfl) (dq dk_Mo_write 163 rfl) h (fun σ29 h => ?_)
    exact ww_vret C hR (dq dk_Mo_write 164 rfl) h
  rw [if_neg e9_9] at h
  have ne0_0 := lv_neT (a := 0) e0_0 (by decide)
  have ne1_1 := lv_neT (a := 1) e1_1 (by decide)
  have ne2_2 := lv_neT (a := 2) e2_2 (by decide)
  have ne3_3 := lv_neT (a := 3) e3_3 (by decide)
  have ne4_4 := lv_neT (a := 4) e4_4 (by decide)
  have ne5_5 := lv_neT (a := 5) e5_5 (by decide)
  have ne6_6 := lv_neT (a := 6) e6_6 (by decide)
  have ne7_7 := lv_neT (a := 7) e7_7 (by decide)
  have ne8_8 := lv_neT (a := 8) e8_8 (by decide)
  have ne9_9 := lv_neT (a := 9) e9_9 (by decide)
  refine ww_tabOut C 313 (dq dk_Mo_write 14 rfl) (by omega) (by decide) ?_
  refine ww_aload_n C 2 rfl rfl (dq dk_Mo_write 149 rfl) ?_
  refine ww_iload_n C 0 rfl rfl (dq dk_Mo_write 150 rfl) ?_
  refine ww_iconst C (dq dk_Mo_write 151 rfl) ic_5 ?_
  refine ww_icmp_ne C 324 (dq dk_Mo_write 152 rfl) (by decide) h (fun h => ?_) (fun h => ?_)
  · refine ww_bipush C (dq dk_Mo_write 155 rfl) bp_28 ?_
    refine ww_aload_n C 2 rfl rfl (dq dk_Mo_write 156 rfl) ?_
    refine ww_getr C ko_Mo 14 ho_v0 (lt_ rfl) g_6_64 rfl rfl (dq dk_Mo_write 157 rfl) ?_
    refine ww_iload_n C 3 rfl rfl (dq dk_Mo_write 158 rfl) ?_
    refine ww_iald C (kc_Mo_14 _ ho_v0).1 (kc_Mo_14 _ ho_v0).2 (dq dk_Mo_write 159 rfl) h (fun x30 h => ?_)
    refine ww_cVv (st := []) C (c_Mo_putPair v0 ho_v0 28 x30) cw_Mo_putPair ho_v0 (lt_ rfl) rfl g_7_184 hRm ⟨⟨rfl, rfl⟩, le_ rfl, le_ rfl⟩ rfl rfl rfl (le_ rfl) (dq dk_Mo_write 160 rfl) h (fun σ31 h => ?_)
    refine ww_aload_n C 2 rfl rfl (dq dk_Mo_write 161 rfl) ?_
    refine ww_iload_n C 1 rfl rfl (dq dk_Mo_write 162 rfl) ?_
    refine ww_cVv (st := []) C (c_Mo_copyBytes v0 ho_v0 x1) cw_Mo_copyBytes ho_v0 (lt_ rfl) rfl g_7_180 hRm ⟨⟨rfl, rfl⟩, le_ rfl, le_ rfl⟩ rfl rfl rfl (le_ rfl) (dq dk_Mo_write 163 rfl) h (fun σ32 h => ?_)
    exact ww_vret C hR (dq dk_Mo_write 164 rfl) h
  · refine ww_bipush C (dq dk_Mo_write 153 rfl) bp_27 ?_
    refine ww_goto C 326 (dq dk_Mo_write 154 rfl) (by decide) ?_
    refine ww_aload_n C 2 rfl rfl (dq dk_Mo_write 156 rfl) ?_
    refine ww_getr C ko_Mo 14 ho_v0 (lt_ rfl) g_6_64 rfl rfl (dq dk_Mo_write 157 rfl) ?_
    refine ww_iload_n C 3 rfl rfl (dq dk_Mo_write 158 rfl) ?_
    refine ww_iald C (kc_Mo_14 _ ho_v0).1 (kc_Mo_14 _ ho_v0).2 (dq dk_Mo_write 159 rfl) h (fun x33 h => ?_)
    refine ww_cVv (st := []) C (c_Mo_putPair v0 ho_v0 27 x33) cw_Mo_putPair ho_v0 (lt_ rfl) rfl g_7_184 hRm ⟨⟨rfl, rfl⟩, le_ rfl, le_ rfl⟩ rfl rfl rfl (le_ rfl) (dq dk_Mo_write 160 rfl) h (fun σ34 h => ?_)
    refine ww_aload_n C 2 rfl rfl (dq dk_Mo_write 161 rfl) ?_
    refine ww_iload_n C 1 rfl rfl (dq dk_Mo_write 162 rfl) ?_
    refine ww_cVv (st := []) C (c_Mo_copyBytes v0 ho_v0 x1) cw_Mo_copyBytes ho_v0 (lt_ rfl) rfl g_7_180 hRm ⟨⟨rfl, rfl⟩, le_ rfl, le_ rfl⟩ rfl rfl rfl (le_ rfl) (dq dk_Mo_write 163 rfl) h (fun σ35 h => ?_)
    exact ww_vret C hR (dq dk_Mo_write 164 rfl) h
abbrev y_Mo_build : MethodName := ⟨"BundleHouseModel", "build", "()I"⟩
def dl_Mo_build : List (Nat × Instr × Nat) := [(0, .aload_n 0, 1), (1, .iconst 0, 1), (2, .putfield 105, 3), (5, .aload_n 0, 1), (6, .invokevirtual 273, 3), (9, .istore_n 1, 1), (10, .iload_n 1, 1), (11, .ifCond .le 23, 3), (14, .aload_n 0, 1), (15, .iload_n 1, 1), (16, .sipush 1000, 3), (19, .idiv, 1), (20, .iload_n 1, 1), (21, .sipush 1000, 3), (24, .irem, 1), (25, .invokevirtual 184, 3), (28, .pop, 1), (29, .aload_n 0, 1), (30, .getfield 181, 3), (33, .ireturn, 1), (34, .iconst 0, 1), (35, .istore_n 2, 1), (36, .iload_n 2, 1), (37, .bipush 120, 2), (39, .if_icmp .ge 16, 3), (42, .aload_n 0, 1), (43, .getfield 53, 3), (46, .iload_n 2, 1), (47, .iconst 0, 1), (48, .bastore, 1), (49, .iinc 2 1, 3), (52, .goto (-16), 3), (55, .iconst 1, 1), (56, .istore_n 2, 1), (57, .iload_n 2, 1), (58, .ifCond .eq 36, 3), (61, .aload_n 0, 1), (62, .invokevirtual 276, 3), (65, .iconst 0, 1), (66, .istore_n 3, 1), (67, .iload_n 3, 1), (68, .bipush 120, 2), (70, .if_icmp .ge 16, 3), (73, .aload_n 0, 1), (74, .getfield 102, 3), (77, .iload_n 3, 1), (78, .iconst 0, 1), (79, .iastore, 1), (80, .iinc 3 1, 3), (83, .goto (-16), 3), (86, .aload_n 0, 1), (87, .invokevirtual 279, 3), (90, .istore_n 2, 1), (91, .goto (-34), 3), (94, .aload_n 0, 1), (95, .getfield 257, 3), (98, .aload_n 0, 1), (99, .getfield 257, 3), (102, .bipush 16, 2), (104, .irem, 1), (105, .isub, 1), (106, .bipush 16, 2), (108, .iadd, 1), (109, .istore_n 3, 1), (110, .iload_n 3, 1), (111, .sipush 1024, 3), (114, .if_icmp .le 15, 3), (117, .aload_n 0, 1), (118, .iconst 4, 1), (119, .iconst (-1), 1), (120, .invokevirtual 184, 3), (123, .pop, 1), (124, .aload_n 0, 1), (125, .getfield 181, 3), (128, .ireturn, 1), (129, .iconst 0, 1), (130, .istore 4, 2), (132, .iload 4, 2), (134, .iload_n 3, 1), (135, .if_icmp .ge 34, 3), (138, .aload_n 0, 1), (139, .getfield 57, 3), (142, .iload 4, 2), (144, .iload 4, 2), (146, .aload_n 0, 1), (147, .getfield 257, 3), (150, .if_icmp .ge 9, 3), (153, .sipush 144, 3), (156, .goto 6, 3), (159, .sipush 244, 3), (162, .iastore, 1), (163, .iinc 4 1, 3), (166, .goto (-34), 3), (169, .iconst 0, 1), (170, .istore 4, 2), (172, .iload 4, 2), (174, .aload_n 0, 1), (175, .getfield 208, 3), (178, .if_icmp .ge 15, 3), (181, .aload_n 0, 1), (182, .iload 4, 2), (184, .invokevirtual 282, 3), (187, .iinc 4 1, 3), (190, .goto (-18), 3), (193, .aload_n 0, 1), (194, .iload_n 3, 1), (195, .invokevirtual 285, 3), (198, .aload_n 0, 1), (199, .aload_n 0, 1), (200, .getfield 57, 3), (203, .iload_n 3, 1), (204, .invokevirtual 198, 3), (207, .aload_n 0, 1), (208, .invokevirtual 288, 3), (211, .aload_n 0, 1), (212, .iconst 0, 1), (213, .iconst (-1), 1), (214, .invokevirtual 184, 3), (217, .pop, 1), (218, .iconst 0, 1), (219, .ireturn, 1)]
set_option maxRecDepth 100000 in
theorem dk_Mo_build : ∀ q ∈ dl_Mo_build, decode prog_14_method_47_code q.1 = .ok q.2 := by decide +kernel
abbrev rm_Mo_build : Room := { frames := 9, cells := 0, slots := 0, locals := 208 }
theorem cw_Mo_build : CWV y_Mo_build prog_14_method_47_code 5 (some .int) 0 := ⟨⟨g_7_117, g_1_13, by decide, by decide, by decide +kernel⟩, g_7_115, g_7_116⟩
set_option maxHeartbeats 4000000 in
set_option maxRecDepth 100000 in
theorem t_Mo_build_B172 {k : Cfg} {res : Int32 × St} (C : Cx k prog_14_method_47_code "BundleHouseModel") (hR : RI k .int res) (hRm : k.2.2.2.1 = rm_Mo_build) (hnL : k.2.2.2.2.2.2.2.2.2.2.2.1 = 5) : ∀ (n : Nat) (v0 : Nat) (v3 : Int32) (v4 : Int32) (ho_v0 : kd v0 = 12) (σ : St), Mo_build_B172 n v0 v3 v4 σ = some res → WW k 172 [(0, .ref (ad k v0)), (3, .int v3), (4, .int v4)] [] σ := by
  intro n
  induction n with
  | zero =>
    intro v0 v3 v4 ho_v0 σ h
    have h : (none : Option (Int32 × St)) = some res := h
    cases h
  | succ n ih =>
    intro v0 v3 v4 ho_v0 σ h
    unfold Mo_build_B172 at h
    refine ww_iload C 2 rfl (dq dk_Mo_build 95 rfl) ?_
    refine ww_aload_n C 0 rfl rfl (dq dk_Mo_build 96 rfl) ?_
    refine ww_geti C ko_Mo 8 ho_v0 (lt_ rfl) g_6_58 rfl rfl (dq dk_Mo_build 97 rfl) ?_
    refine ww_icmp_ge C 193 (dq dk_Mo_build 98 rfl) (by decide) h (fun h => ?_) (fun h => ?_)
    · refine ww_aload_n C 0 rfl rfl (dq dk_Mo_build 104 rfl) ?_
      refine ww_iload_n C 1 rfl rfl (dq dk_Mo_build 105 rfl) ?_
      refine ww_cVv (st := []) C (c_Mo_starting v0 ho_v0 v3) cw_Mo_starting ho_v0 (lt_ rfl) rfl g_7_188 hRm ⟨⟨rfl, rfl⟩, le_ rfl, le_ rfl⟩ rfl rfl rfl (le_ rfl) (dq dk_Mo_build 106 rfl) h (fun σ1 h => ?_)
      refine ww_aload_n C 0 rfl rfl (dq dk_Mo_build 107 rfl) ?_
      refine ww_aload_n C 0 rfl rfl (dq dk_Mo_build 108 rfl) ?_
      refine ww_getr C ko_Mo 23 ho_v0 (lt_ rfl) g_6_73 rfl rfl (dq dk_Mo_build 109 rfl) ?_
      refine ww_iload_n C 1 rfl rfl (dq dk_Mo_build 110 rfl) ?_
      refine ww_cVv (st := []) C (c_Mo_becomes v0 ho_v0 (ch v0 23) v3) cw_Mo_becomes ho_v0 (lt_ rfl) rfl g_7_76 hRm ⟨⟨rfl, rfl⟩, le_ rfl, le_ rfl⟩ rfl rfl rfl (le_ rfl) (dq dk_Mo_build 111 rfl) h (fun σ2 h => ?_)
      refine ww_aload_n C 0 rfl rfl (dq dk_Mo_build 112 rfl) ?_
      refine ww_cVv (st := []) C (c_Mo_keepProgram v0 ho_v0) cw_Mo_keepProgram ho_v0 (lt_ rfl) rfl g_7_192 hRm ⟨⟨rfl, rfl⟩, le_ rfl, le_ rfl⟩ rfl rfl rfl (le_ rfl) (dq dk_Mo_build 113 rfl) h (fun σ3 h => ?_)
      refine ww_aload_n C 0 rfl rfl (dq dk_Mo_build 114 rfl) ?_
      refine ww_iconst C (dq dk_Mo_build 115 rfl) ic_0 ?_
      refine ww_iconst C (dq dk_Mo_build 116 rfl) ic_m1 ?_
      refine ww_cVi (st := []) C (c_Mo_faults v0 ho_v0 0 (-1)) cw_Mo_faults ho_v0 (lt_ rfl) rfl g_7_25 hRm ⟨⟨rfl, rfl⟩, le_ rfl, le_ rfl⟩ rfl rfl rfl (le_ rfl) (dq dk_Mo_build 117 rfl) h (fun x5 σ4 h => ?_)
      refine ww_pop C rfl (dq dk_Mo_build 118 rfl) ?_
      refine ww_iconst C (dq dk_Mo_build 119 rfl) ic_0 ?_
      exact ww_iret C hR (dq dk_Mo_build 120 rfl) h
    · refine ww_aload_n C 0 rfl rfl (dq dk_Mo_build 99 rfl) ?_
      refine ww_iload C 2 rfl (dq dk_Mo_build 100 rfl) ?_
      refine ww_cVv (st := []) C (c_Mo_write v0 ho_v0 v4) cw_Mo_write ho_v0 (lt_ rfl) rfl g_7_172 hRm ⟨⟨rfl, rfl⟩, le_ rfl, le_ rfl⟩ rfl rfl rfl (le_ rfl) (dq dk_Mo_build 101 rfl) h (fun σ6 h => ?_)
      refine ww_iinc C 2 (fun z => [(4, .int z), (0, .ref (ad k v0)), (3, .int v3)]) rfl ic_1 hnL (lt_ rfl) (fun _ => rfl) (dq dk_Mo_build 102 rfl) h (fun x7 h => ?_)
      refine ww_goto C 172 (dq dk_Mo_build 103 rfl) (by decide) ?_
      exact ww_lv [1, 2, 0] rfl (ih v0 v3 x7 ho_v0 σ6 h)
set_option maxHeartbeats 4000000 in
set_option maxRecDepth 100000 in
theorem t_Mo_build_B132 {k : Cfg} {res : Int32 × St} (C : Cx k prog_14_method_47_code "BundleHouseModel") (hR : RI k .int res) (hRm : k.2.2.2.1 = rm_Mo_build) (hnL : k.2.2.2.2.2.2.2.2.2.2.2.1 = 5) : ∀ (n : Nat) (v0 : Nat) (v3 : Int32) (v4 : Int32) (ho_v0 : kd v0 = 12) (σ : St), Mo_build_B132 n v0 v3 v4 σ = some res → WW k 132 [(0, .ref (ad k v0)), (3, .int v3), (4, .int v4)] [] σ := by
  intro n
  induction n with
  | zero =>
    intro v0 v3 v4 ho_v0 σ h
    have h : (none : Option (Int32 × St)) = some res := h
    cases h
  | succ n ih =>
    intro v0 v3 v4 ho_v0 σ h
    unfold Mo_build_B132 at h
    refine ww_iload C 2 rfl (dq dk_Mo_build 77 rfl) ?_
    refine ww_iload_n C 1 rfl rfl (dq dk_Mo_build 78 rfl) ?_
    refine ww_icmp_ge C 169 (dq dk_Mo_build 79 rfl) (by decide) h (fun h => ?_) (fun h => ?_)
    · refine ww_iconst C (dq dk_Mo_build 93 rfl) ic_0 ?_
      refine ww_istore C [(4, .int 0), (0, .ref (ad k v0)), (3, .int v3)] hnL (lt_ rfl) rfl (dq dk_Mo_build 94 rfl) ?_
      exact ww_lv [1, 2, 0] rfl (t_Mo_build_B172 C hR hRm hnL FU v0 v3 0 ho_v0 σ h)
    · refine ww_aload_n C 0 rfl rfl (dq dk_Mo_build 80 rfl) ?_
      refine ww_getr C ko_Mo 23 ho_v0 (lt_ rfl) g_6_73 rfl rfl (dq dk_Mo_build 81 rfl) ?_
      refine ww_iload C 2 rfl (dq dk_Mo_build 82 rfl) ?_
      refine ww_iload C 2 rfl (dq dk_Mo_build 83 rfl) ?_
      refine ww_aload_n C 0 rfl rfl (dq dk_Mo_build 84 rfl) ?_
      refine ww_geti C ko_Mo 22 ho_v0 (lt_ rfl) g_6_72 rfl rfl (dq dk_Mo_build 85 rfl) ?_
      refine ww_icmp_ge C 159 (dq dk_Mo_build 86 rfl) (by decide) h (fun h => ?_) (fun h => ?_)
      · refine ww_sipush C (dq dk_Mo_build 89 rfl) sp_244 ?_
        refine ww_iast C (kc_Mo_23 _ ho_v0).1 (kc_Mo_23 _ ho_v0).2 (dq dk_Mo_build 90 rfl) h (fun σ1 h => ?_)
        refine ww_iinc C 2 (fun z => [(4, .int z), (0, .ref (ad k v0)), (3, .int v3)]) rfl ic_1 hnL (lt_ rfl) (fun _ => rfl) (dq dk_Mo_build 91 rfl) h (fun x2 h => ?_)
        refine ww_goto C 132 (dq dk_Mo_build 92 rfl) (by decide) ?_
        exact ww_lv [1, 2, 0] rfl (ih v0 v3 x2 ho_v0 σ1 h)
      · refine ww_sipush C (dq dk_Mo_build 87 rfl) sp_144 ?_
        refine ww_goto C 162 (dq dk_Mo_build 88 rfl) (by decide) ?_
        refine ww_iast C (kc_Mo_23 _ ho_v0).1 (kc_Mo_23 _ ho_v0).2 (dq dk_Mo_build 90 rfl) h (fun σ3 h => ?_)
        refine ww_iinc C 2 (fun z => [(4, .int z), (0, .ref (ad k v0)), (3, .int v3)]) rfl ic_1 hnL (lt_ rfl) (fun _ => rfl) (dq dk_Mo_build 91 rfl) h (fun x4 h => ?_)
        refine ww_goto C 132 (dq dk_Mo_build 92 rfl) (by decide) ?_
        exact ww_lv [1, 2, 0] rfl (ih v0 v3 x4 ho_v0 σ3 h)
set_option maxHeartbeats 4000000 in
set_option maxRecDepth 100000 in
theorem t_Mo_build_B67 {k : Cfg} {res : Int32 × St} (C : Cx k prog_14_method_47_code "BundleHouseModel") (hR : RI k .int res) (hRm : k.2.2.2.1 = rm_Mo_build) (hnL : k.2.2.2.2.2.2.2.2.2.2.2.1 = 5) {K57 : Nat → Int32 → St → Option (Int32 × St)} (hK57 : ∀ (v0 : Nat) (v2 : Int32) (ho_v0 : kd v0 = 12) (σ : St), K57 v0 v2 σ = some res → WW k 57 [(0, .ref (ad k v0)), (2, .int v2)] [] σ) : ∀ (n : Nat) (v0 : Nat) (v3 : Int32) (ho_v0 : kd v0 = 12) (σ : St), Mo_build_B67 K57 n v0 v3 σ = some res → WW k 67 [(0, .ref (ad k v0)), (3, .int v3)] [] σ := by
  intro n
  induction n with
  | zero =>
    intro v0 v3 ho_v0 σ h
    have h : (none : Option (Int32 × St)) = some res := h
    cases h
  | succ n ih =>
    intro v0 v3 ho_v0 σ h
    unfold Mo_build_B67 at h
    refine ww_iload_n C 1 rfl rfl (dq dk_Mo_build 40 rfl) ?_
    refine ww_bipush C (dq dk_Mo_build 41 rfl) bp_120 ?_
    refine ww_icmp_ge C 86 (dq dk_Mo_build 42 rfl) (by decide) h (fun h => ?_) (fun h => ?_)
    · refine ww_aload_n C 0 rfl rfl (dq dk_Mo_build 50 rfl) ?_
      refine ww_cVi (st := []) C (c_Mo_lengthens v0 ho_v0) cw_Mo_lengthens ho_v0 (lt_ rfl) rfl g_7_164 hRm ⟨⟨rfl, rfl⟩, le_ rfl, le_ rfl⟩ rfl rfl rfl (le_ rfl) (dq dk_Mo_build 51 rfl) h (fun x2 σ1 h => ?_)
      refine ww_istore_n C [(2, .int x2), (0, .ref (ad k v0)), (3, .int v3)] rfl hnL (lt_ rfl) rfl (dq dk_Mo_build 52 rfl) ?_
      refine ww_goto C 57 (dq dk_Mo_build 53 rfl) (by decide) ?_
      exact ww_lv [1, 0] rfl (hK57 v0 x2 ho_v0 σ1 h)
    · refine ww_aload_n C 0 rfl rfl (dq dk_Mo_build 43 rfl) ?_
      refine ww_getr C ko_Mo 54 ho_v0 (lt_ rfl) g_6_104 rfl rfl (dq dk_Mo_build 44 rfl) ?_
      refine ww_iload_n C 1 rfl rfl (dq dk_Mo_build 45 rfl) ?_
      refine ww_iconst C (dq dk_Mo_build 46 rfl) ic_0 ?_
      refine ww_iast C (kc_Mo_54 _ ho_v0).1 (kc_Mo_54 _ ho_v0).2 (dq dk_Mo_build 47 rfl) h (fun σ3 h => ?_)
      refine ww_iinc C 1 (fun z => [(3, .int z), (0, .ref (ad k v0))]) rfl ic_1 hnL (lt_ rfl) (fun _ => rfl) (dq dk_Mo_build 48 rfl) h (fun x4 h => ?_)
      refine ww_goto C 67 (dq dk_Mo_build 49 rfl) (by decide) ?_
      exact ww_lv [1, 0] rfl (ih v0 x4 ho_v0 σ3 h)
set_option maxHeartbeats 4000000 in
set_option maxRecDepth 100000 in
theorem t_Mo_build_B57 {k : Cfg} {res : Int32 × St} (C : Cx k prog_14_method_47_code "BundleHouseModel") (hR : RI k .int res) (hRm : k.2.2.2.1 = rm_Mo_build) (hnL : k.2.2.2.2.2.2.2.2.2.2.2.1 = 5) : ∀ (n : Nat) (v0 : Nat) (v2 : Int32) (ho_v0 : kd v0 = 12) (σ : St), Mo_build_B57 n v0 v2 σ = some res → WW k 57 [(0, .ref (ad k v0)), (2, .int v2)] [] σ := by
  intro n
  induction n with
  | zero =>
    intro v0 v2 ho_v0 σ h
    have h : (none : Option (Int32 × St)) = some res := h
    cases h
  | succ n ih =>
    intro v0 v2 ho_v0 σ h
    unfold Mo_build_B57 at h
    refine ww_iload_n C 1 rfl rfl (dq dk_Mo_build 34 rfl) ?_
    refine ww_if_eq C 94 (dq dk_Mo_build 35 rfl) (by decide) h (fun h => ?_) (fun h => ?_)
    · refine ww_aload_n C 0 rfl rfl (dq dk_Mo_build 54 rfl) ?_
      refine ww_geti C ko_Mo 22 ho_v0 (lt_ rfl) g_6_72 rfl rfl (dq dk_Mo_build 55 rfl) ?_
      refine ww_aload_n C 0 rfl rfl (dq dk_Mo_build 56 rfl) ?_
      refine ww_geti C ko_Mo 22 ho_v0 (lt_ rfl) g_6_72 rfl rfl (dq dk_Mo_build 57 rfl) ?_
      refine ww_bipush C (dq dk_Mo_build 58 rfl) bp_16 ?_
      refine ww_irem C (by decide) (dq dk_Mo_build 59 rfl) ?_
      refine ww_isub C (dq dk_Mo_build 60 rfl) ?_
      refine ww_bipush C (dq dk_Mo_build 61 rfl) bp_16 ?_
      refine ww_iadd C (dq dk_Mo_build 62 rfl) ?_
      refine ww_nmi h (fun x1 h => ?_)
      refine ww_istore_n C [(3, .int x1), (0, .ref (ad k v0)), (2, .int v2)] rfl hnL (lt_ rfl) rfl (dq dk_Mo_build 63 rfl) ?_
      refine ww_iload_n C 0 rfl rfl (dq dk_Mo_build 64 rfl) ?_
      refine ww_sipush C (dq dk_Mo_build 65 rfl) sp_1024 ?_
      refine ww_icmp_le C 129 (dq dk_Mo_build 66 rfl) (by decide) h (fun h => ?_) (fun h => ?_)
      · refine ww_iconst C (dq dk_Mo_build 75 rfl) ic_0 ?_
        refine ww_istore C [(4, .int 0), (3, .int x1), (0, .ref (ad k v0)), (2, .int v2)] hnL (lt_ rfl) rfl (dq dk_Mo_build 76 rfl) ?_
        exact ww_lv [2, 1, 0] rfl (t_Mo_build_B132 C hR hRm hnL FU v0 x1 0 ho_v0 σ h)
      · refine ww_aload_n C 1 rfl rfl (dq dk_Mo_build 67 rfl) ?_
        refine ww_iconst C (dq dk_Mo_build 68 rfl) ic_4 ?_
        refine ww_iconst C (dq dk_Mo_build 69 rfl) ic_m1 ?_
        refine ww_cVi (st := []) C (c_Mo_faults v0 ho_v0 4 (-1)) cw_Mo_faults ho_v0 (lt_ rfl) rfl g_7_25 hRm ⟨⟨rfl, rfl⟩, le_ rfl, le_ rfl⟩ rfl rfl rfl (le_ rfl) (dq dk_Mo_build 70 rfl) h (fun x3 σ2 h => ?_)
        refine ww_pop C rfl (dq dk_Mo_build 71 rfl) ?_
        refine ww_aload_n C 1 rfl rfl (dq dk_Mo_build 72 rfl) ?_
        refine ww_geti C ko_Mo 3 ho_v0 (lt_ rfl) g_6_53 rfl rfl (dq dk_Mo_build 73 rfl) ?_
        exact ww_iret C hR (dq dk_Mo_build 74 rfl) h
    · refine ww_aload_n C 0 rfl rfl (dq dk_Mo_build 36 rfl) ?_
      refine ww_cVv (st := []) C (c_Mo_layAll v0 ho_v0) cw_Mo_layAll ho_v0 (lt_ rfl) rfl g_7_122 hRm ⟨⟨rfl, rfl⟩, le_ rfl, le_ rfl⟩ rfl rfl rfl (le_ rfl) (dq dk_Mo_build 37 rfl) h (fun σ4 h => ?_)
      refine ww_iconst C (dq dk_Mo_build 38 rfl) ic_0 ?_
      refine ww_istore_n C [(3, .int 0), (0, .ref (ad k v0)), (2, .int v2)] rfl hnL (lt_ rfl) rfl (dq dk_Mo_build 39 rfl) ?_
      exact ww_lv [1, 0] rfl (t_Mo_build_B67 C hR hRm hnL ih FU v0 0 ho_v0 σ4 h)
set_option maxHeartbeats 4000000 in
set_option maxRecDepth 100000 in
theorem t_Mo_build_B36 {k : Cfg} {res : Int32 × St} (C : Cx k prog_14_method_47_code "BundleHouseModel") (hR : RI k .int res) (hRm : k.2.2.2.1 = rm_Mo_build) (hnL : k.2.2.2.2.2.2.2.2.2.2.2.1 = 5) : ∀ (n : Nat) (v0 : Nat) (v2 : Int32) (ho_v0 : kd v0 = 12) (σ : St), Mo_build_B36 n v0 v2 σ = some res → WW k 36 [(0, .ref (ad k v0)), (2, .int v2)] [] σ := by
  intro n
  induction n with
  | zero =>
    intro v0 v2 ho_v0 σ h
    have h : (none : Option (Int32 × St)) = some res := h
    cases h
  | succ n ih =>
    intro v0 v2 ho_v0 σ h
    unfold Mo_build_B36 at h
    refine ww_iload_n C 1 rfl rfl (dq dk_Mo_build 22 rfl) ?_
    refine ww_bipush C (dq dk_Mo_build 23 rfl) bp_120 ?_
    refine ww_icmp_ge C 55 (dq dk_Mo_build 24 rfl) (by decide) h (fun h => ?_) (fun h => ?_)
    · refine ww_iconst C (dq dk_Mo_build 32 rfl) ic_1 ?_
      refine ww_istore_n C [(2, .int 1), (0, .ref (ad k v0))] rfl hnL (lt_ rfl) rfl (dq dk_Mo_build 33 rfl) ?_
      exact ww_lv [1, 0] rfl (t_Mo_build_B57 C hR hRm hnL FU v0 1 ho_v0 σ h)
    · refine ww_aload_n C 0 rfl rfl (dq dk_Mo_build 25 rfl) ?_
      refine ww_getr C ko_Mo 21 ho_v0 (lt_ rfl) g_6_71 rfl rfl (dq dk_Mo_build 26 rfl) ?_
      refine ww_iload_n C 1 rfl rfl (dq dk_Mo_build 27 rfl) ?_
      refine ww_iconst C (dq dk_Mo_build 28 rfl) ic_0 ?_
      refine ww_zastL C (kc_Mo_21 _ ho_v0).1 (kc_Mo_21 _ ho_v0).2 (Or.inl rfl) (dq dk_Mo_build 29 rfl) h (fun σ1 h => ?_)
      refine ww_iinc C 1 (fun z => [(2, .int z), (0, .ref (ad k v0))]) rfl ic_1 hnL (lt_ rfl) (fun _ => rfl) (dq dk_Mo_build 30 rfl) h (fun x2 h => ?_)
      refine ww_goto C 36 (dq dk_Mo_build 31 rfl) (by decide) ?_
      exact ww_lv [1, 0] rfl (ih v0 x2 ho_v0 σ1 h)
set_option maxHeartbeats 4000000 in
set_option maxRecDepth 100000 in
theorem c_Mo_build (v0 : Nat) (ho_v0 : kd v0 = 12) : MI y_Mo_build rm_Mo_build prog_14_method_47_code 5 .int (fun a => [.ref (a v0)]) (Mo_build v0) := by
  refine mi_of (by decide) (fun _ => le_ rfl) ?_
  intro k res σ C hR hRm hnL h
  unfold Mo_build at h
  show WW k 0 [(0, .ref (ad k v0))] [] σ
  refine ww_aload_n C 0 rfl rfl (dq dk_Mo_build 0 rfl) ?_
  refine ww_iconst C (dq dk_Mo_build 1 rfl) ic_0 ?_
  refine ww_puti C ko_Mo 0 ho_v0 (lt_ rfl) g_6_50 rfl rfl rfl rfl (dq dk_Mo_build 2 rfl) h (fun σ1 h => ?_)
  refine ww_aload_n C 0 rfl rfl (dq dk_Mo_build 3 rfl) ?_
  refine ww_cVi (st := []) C (c_Mo_firstWrong v0 ho_v0) cw_Mo_firstWrong ho_v0 (lt_ rfl) rfl g_7_118 hRm ⟨⟨rfl, rfl⟩, le_ rfl, le_ rfl⟩ rfl rfl rfl (le_ rfl) (dq dk_Mo_build 4 rfl) h (fun x3 σ2 h => ?_)
  refine ww_istore_n C [(1, .int x3), (0, .ref (ad k v0))] rfl hnL (lt_ rfl) rfl (dq dk_Mo_build 5 rfl) ?_
  refine ww_iload_n C 0 rfl rfl (dq dk_Mo_build 6 rfl) ?_
  refine ww_if_le C 34 (dq dk_Mo_build 7 rfl) (by decide) h (fun h => ?_) (fun h => ?_)
  · refine ww_iconst C (dq dk_Mo_build 20 rfl) ic_0 ?_
    refine ww_istore_n C [(2, .int 0), (1, .int x3), (0, .ref (ad k v0))] rfl hnL (lt_ rfl) rfl (dq dk_Mo_build 21 rfl) ?_
    exact ww_lv [2, 0] rfl (t_Mo_build_B36 C hR hRm hnL FU v0 0 ho_v0 σ2 h)
  · refine ww_aload_n C 1 rfl rfl (dq dk_Mo_build 8 rfl) ?_
    refine ww_iload_n C 0 rfl rfl (dq dk_Mo_build 9 rfl) ?_
    refine ww_sipush C (dq dk_Mo_build 10 rfl) sp_1000 ?_
    refine ww_idiv C (by decide) (dq dk_Mo_build 11 rfl) ?_
    refine ww_iload_n C 0 rfl rfl (dq dk_Mo_build 12 rfl) ?_
    refine ww_sipush C (dq dk_Mo_build 13 rfl) sp_1000 ?_
    refine ww_irem C (by decide) (dq dk_Mo_build 14 rfl) ?_
    refine ww_cVi (st := []) C (c_Mo_faults v0 ho_v0 (x3 / 1000) (rem x3 1000)) cw_Mo_faults ho_v0 (lt_ rfl) rfl g_7_25 hRm ⟨⟨rfl, rfl⟩, le_ rfl, le_ rfl⟩ rfl rfl rfl (le_ rfl) (dq dk_Mo_build 15 rfl) h (fun x5 σ4 h => ?_)
    refine ww_pop C rfl (dq dk_Mo_build 16 rfl) ?_
    refine ww_aload_n C 1 rfl rfl (dq dk_Mo_build 17 rfl) ?_
    refine ww_geti C ko_Mo 3 ho_v0 (lt_ rfl) g_6_53 rfl rfl (dq dk_Mo_build 18 rfl) ?_
    exact ww_iret C hR (dq dk_Mo_build 19 rfl) h
abbrev y_Mo_size : MethodName := ⟨"BundleHouseModel", "size", "()I"⟩
def dl_Mo_size : List (Nat × Instr × Nat) := [(0, .aload_n 0, 1), (1, .iconst 0, 1), (2, .putfield 105, 3), (5, .aload_n 0, 1), (6, .getfield 205, 3), (9, .ireturn, 1)]
set_option maxRecDepth 100000 in
theorem dk_Mo_size : ∀ q ∈ dl_Mo_size, decode prog_14_method_54_code q.1 = .ok q.2 := by decide +kernel
abbrev rm_Mo_size : Room := { frames := 0, cells := 0, slots := 0, locals := 0 }
theorem cw_Mo_size : CWV y_Mo_size prog_14_method_54_code 1 (some .int) 0 := ⟨⟨g_7_199, g_1_13, by decide, by decide, by decide +kernel⟩, g_7_197, g_7_198⟩
set_option maxHeartbeats 4000000 in
set_option maxRecDepth 100000 in
theorem c_Mo_size (v0 : Nat) (ho_v0 : kd v0 = 12) : MI y_Mo_size rm_Mo_size prog_14_method_54_code 1 .int (fun a => [.ref (a v0)]) (Mo_size v0) := by
  refine mi_of (by decide) (fun _ => le_ rfl) ?_
  intro k res σ C hR hRm hnL h
  unfold Mo_size at h
  show WW k 0 [(0, .ref (ad k v0))] [] σ
  refine ww_aload_n C 0 rfl rfl (dq dk_Mo_size 0 rfl) ?_
  refine ww_iconst C (dq dk_Mo_size 1 rfl) ic_0 ?_
  refine ww_puti C ko_Mo 0 ho_v0 (lt_ rfl) g_6_50 rfl rfl rfl rfl (dq dk_Mo_size 2 rfl) h (fun σ1 h => ?_)
  refine ww_aload_n C 0 rfl rfl (dq dk_Mo_size 3 rfl) ?_
  refine ww_geti C ko_Mo 6 ho_v0 (lt_ rfl) g_6_56 rfl rfl (dq dk_Mo_size 4 rfl) ?_
  exact ww_iret C hR (dq dk_Mo_size 5 rfl) h
abbrev y_Mo_code : MethodName := ⟨"BundleHouseModel", "code", "(I)I"⟩
def dl_Mo_code : List (Nat × Instr × Nat) := [(0, .aload_n 0, 1), (1, .iconst 0, 1), (2, .putfield 105, 3), (5, .iload_n 1, 1), (6, .ifCond .lt 20, 3), (9, .iload_n 1, 1), (10, .aload_n 0, 1), (11, .getfield 205, 3), (14, .if_icmp .ge 12, 3), (17, .aload_n 0, 1), (18, .getfield 17, 3), (21, .iload_n 1, 1), (22, .iaload, 1), (23, .goto 4, 3), (26, .iconst (-1), 1), (27, .ireturn, 1)]
set_option maxRecDepth 100000 in
theorem dk_Mo_code : ∀ q ∈ dl_Mo_code, decode prog_14_method_55_code q.1 = .ok q.2 := by decide +kernel
abbrev rm_Mo_code : Room := { frames := 0, cells := 0, slots := 0, locals := 0 }
theorem cw_Mo_code : CWV y_Mo_code prog_14_method_55_code 2 (some .int) 1 := ⟨⟨g_7_203, g_1_13, by decide, by decide, by decide +kernel⟩, g_7_201, g_7_202⟩
set_option maxHeartbeats 4000000 in
set_option maxRecDepth 100000 in
theorem c_Mo_code (v0 : Nat) (ho_v0 : kd v0 = 12) (v1 : Int32) : MI y_Mo_code rm_Mo_code prog_14_method_55_code 2 .int (fun a => [.ref (a v0), .int v1]) (Mo_code v0 v1) := by
  refine mi_of (by decide) (fun _ => le_ rfl) ?_
  intro k res σ C hR hRm hnL h
  unfold Mo_code at h
  show WW k 0 [(0, .ref (ad k v0)), (1, .int v1)] [] σ
  refine ww_aload_n C 0 rfl rfl (dq dk_Mo_code 0 rfl) ?_
  refine ww_iconst C (dq dk_Mo_code 1 rfl) ic_0 ?_
  refine ww_puti C ko_Mo 0 ho_v0 (lt_ rfl) g_6_50 rfl rfl rfl rfl (dq dk_Mo_code 2 rfl) h (fun σ1 h => ?_)
  refine ww_iload_n C 1 rfl rfl (dq dk_Mo_code 3 rfl) ?_
  refine ww_if_lt C 26 (dq dk_Mo_code 4 rfl) (by decide) h (fun h => ?_) (fun h => ?_)
  · refine ww_iconst C (dq dk_Mo_code 14 rfl) ic_m1 ?_
    exact ww_iret C hR (dq dk_Mo_code 15 rfl) h
  · refine ww_iload_n C 1 rfl rfl (dq dk_Mo_code 5 rfl) ?_
    refine ww_aload_n C 0 rfl rfl (dq dk_Mo_code 6 rfl) ?_
    refine ww_geti C ko_Mo 6 ho_v0 (lt_ rfl) g_6_56 rfl rfl (dq dk_Mo_code 7 rfl) ?_
    refine ww_icmp_ge C 26 (dq dk_Mo_code 8 rfl) (by decide) h (fun h => ?_) (fun h => ?_)
    · refine ww_iconst C (dq dk_Mo_code 14 rfl) ic_m1 ?_
      exact ww_iret C hR (dq dk_Mo_code 15 rfl) h
    · refine ww_aload_n C 0 rfl rfl (dq dk_Mo_code 9 rfl) ?_
      refine ww_getr C ko_Mo 5 ho_v0 (lt_ rfl) g_6_55 rfl rfl (dq dk_Mo_code 10 rfl) ?_
      refine ww_iload_n C 1 rfl rfl (dq dk_Mo_code 11 rfl) ?_
      refine ww_iald C (kc_Mo_5 _ ho_v0).1 (kc_Mo_5 _ ho_v0).2 (dq dk_Mo_code 12 rfl) h (fun x2 h => ?_)
      refine ww_goto C 27 (dq dk_Mo_code 13 rfl) (by decide) ?_
      exact ww_iret C hR (dq dk_Mo_code 15 rfl) h
abbrev y_Mo_decoded : MethodName := ⟨"BundleHouseModel", "decoded", "(II)I"⟩
def dl_Mo_decoded : List (Nat × Instr × Nat) := [(0, .iload_n 1, 1), (1, .ifCond .lt 27, 3), (4, .iload_n 1, 1), (5, .aload_n 0, 1), (6, .getfield 205, 3), (9, .if_icmp .ge 19, 3), (12, .aload_n 0, 1), (13, .aload_n 0, 1), (14, .getfield 17, 3), (17, .aload_n 0, 1), (18, .getfield 205, 3), (21, .iload_n 1, 1), (22, .invokevirtual 187, 3), (25, .goto 4, 3), (28, .iconst 0, 1), (29, .istore_n 3, 1), (30, .aload_n 0, 1), (31, .iload_n 3, 1), (32, .ifCond .eq 13, 3), (35, .iload_n 2, 1), (36, .ifCond .lt 9, 3), (39, .iload_n 2, 1), (40, .bipush 7, 2), (42, .if_icmp .le 7, 3), (45, .iconst 1, 1), (46, .goto 4, 3), (49, .iconst 0, 1), (50, .iconst 0, 1), (51, .invokevirtual 306, 3), (54, .ifCond .eq 5, 3), (57, .iconst 0, 1), (58, .ireturn, 1), (59, .iload_n 2, 1), (60, .tableswitch 76 0 6 #[44, 46, 51, 56, 61, 66, 71], 44), (104, .iload_n 3, 1), (105, .ireturn, 1), (106, .aload_n 0, 1), (107, .getfield 144, 3), (110, .ireturn, 1), (111, .aload_n 0, 1), (112, .getfield 147, 3), (115, .ireturn, 1), (116, .aload_n 0, 1), (117, .getfield 153, 3), (120, .ireturn, 1), (121, .aload_n 0, 1), (122, .getfield 132, 3), (125, .ireturn, 1), (126, .aload_n 0, 1), (127, .getfield 141, 3), (130, .ireturn, 1), (131, .aload_n 0, 1), (132, .getfield 160, 3), (135, .ireturn, 1), (136, .aload_n 0, 1), (137, .getfield 20, 3), (140, .iload_n 1, 1), (141, .iaload, 1), (142, .ireturn, 1)]
set_option maxRecDepth 100000 in
theorem dk_Mo_decoded : ∀ q ∈ dl_Mo_decoded, decode prog_14_method_56_code q.1 = .ok q.2 := by decide +kernel
abbrev rm_Mo_decoded : Room := { frames := 7, cells := 0, slots := 0, locals := 157 }
theorem cw_Mo_decoded : CWV y_Mo_decoded prog_14_method_56_code 4 (some .int) 2 := ⟨⟨g_7_207, g_1_13, by decide, by decide, by decide +kernel⟩, g_7_205, g_7_206⟩
set_option maxHeartbeats 4000000 in
set_option maxRecDepth 100000 in
theorem t_Mo_decoded_B50 {k : Cfg} {res : Int32 × St} (C : Cx k prog_14_method_56_code "BundleHouseModel") (hR : RI k .int res) (hRm : k.2.2.2.1 = rm_Mo_decoded) (hnL : k.2.2.2.2.2.2.2.2.2.2.2.1 = 4) (v0 : Nat) (v1 : Int32) (v2 : Int32) (v3 : Int32) (t0 : Nat) (t1 : Int32) (ho_v0 : kd v0 = 12) (ho_t0 : kd t0 = 12) (σ : St) (h : Mo_decoded_B50 v0 v1 v2 v3 t0 t1 σ = some res) : WW k 50 [(0, .ref (ad k v0)), (1, .int v1), (2, .int v2), (3, .int v3)] [.int t1, .ref (ad k t0)] σ := by
  unfold Mo_decoded_B50 at h
  refine ww_iconst C (dq dk_Mo_decoded 27 rfl) ic_0 ?_
  refine ww_cVi (st := []) C (c_Mo_throwing t0 ho_t0 t1 0) cw_Mo_throwing ho_t0 (lt_ rfl) rfl g_7_208 hRm ⟨⟨rfl, rfl⟩, le_ rfl, le_ rfl⟩ rfl rfl rfl (le_ rfl) (dq dk_Mo_decoded 28 rfl) h (fun x2 σ1 h => ?_)
  refine ww_if_eq C 59 (dq dk_Mo_decoded 29 rfl) (by decide) h (fun h => ?_) (fun h => ?_)
  · refine ww_iload_n C 2 rfl rfl (dq dk_Mo_decoded 32 rfl) ?_
    by_cases e0_0 : v2 = 0
    · rw [if_pos e0_0] at h
      refine ww_tabIn C 104 (dq dk_Mo_decoded 33 rfl) (by rw [e0_0]; decide) (by rw [e0_0]; decide) (by rw [e0_0]; rfl) (by decide) ?_
      refine ww_iload_n C 3 rfl rfl (dq dk_Mo_decoded 34 rfl) ?_
      exact ww_iret C hR (dq dk_Mo_decoded 35 rfl) h
    rw [if_neg e0_0] at h
    by_cases e1_1 : v2 = 1
    · rw [if_pos e1_1] at h
      refine ww_tabIn C 106 (dq dk_Mo_decoded 33 rfl) (by rw [e1_1]; decide) (by rw [e1_1]; decide) (by rw [e1_1]; rfl) (by decide) ?_
      refine ww_aload_n C 0 rfl rfl (dq dk_Mo_decoded 36 rfl) ?_
      refine ww_geti C ko_Mo 46 ho_v0 (lt_ rfl) g_6_96 rfl rfl (dq dk_Mo_decoded 37 rfl) ?_
      exact ww_iret C hR (dq dk_Mo_decoded 38 rfl) h
    rw [if_neg e1_1] at h
    by_cases e2_2 : v2 = 2
    · rw [if_pos e2_2] at h
      refine ww_tabIn C 111 (dq dk_Mo_decoded 33 rfl) (by rw [e2_2]; decide) (by rw [e2_2]; decide) (by rw [e2_2]; rfl) (by decide) ?_
      refine ww_aload_n C 0 rfl rfl (dq dk_Mo_decoded 39 rfl) ?_
      refine ww_geti C ko_Mo 47 ho_v0 (lt_ rfl) g_6_97 rfl rfl (dq dk_Mo_decoded 40 rfl) ?_
      exact ww_iret C hR (dq dk_Mo_decoded 41 rfl) h
    rw [if_neg e2_2] at h
    by_cases e3_3 : v2 = 3
    · rw [if_pos e3_3] at h
      refine ww_tabIn C 116 (dq dk_Mo_decoded 33 rfl) (by rw [e3_3]; decide) (by rw [e3_3]; decide) (by rw [e3_3]; rfl) (by decide) ?_
      refine ww_aload_n C 0 rfl rfl (dq dk_Mo_decoded 42 rfl) ?_
      refine ww_geti C ko_Mo 48 ho_v0 (lt_ rfl) g_6_98 rfl rfl (dq dk_Mo_decoded 43 rfl) ?_
      exact ww_iret C hR (dq dk_Mo_decoded 44 rfl) h
    rw [if_neg e3_3] at h
    by_cases e4_4 : v2 = 4
    · rw [if_pos e4_4] at h
      refine ww_tabIn C 121 (dq dk_Mo_decoded 33 rfl) (by rw [e4_4]; decide) (by rw [e4_4]; decide) (by rw [e4_4]; rfl) (by decide) ?_
      refine ww_aload_n C 0 rfl rfl (dq dk_Mo_decoded 45 rfl) ?_
      refine ww_geti C ko_Mo 49 ho_v0 (lt_ rfl) g_6_99 rfl rfl (dq dk_Mo_decoded 46 rfl) ?_
      exact ww_iret C hR (dq dk_Mo_decoded 47 rfl) h
    rw [if_neg e4_4] at h
    by_cases e5_5 : v2 = 5
    · rw [if_pos e5_5] at h
      refine ww_tabIn C 126 (dq dk_Mo_decoded 33 rfl) (by rw [e5_5]; decide) (by rw [e5_5]; decide) (by rw [e5_5]; rfl) (by decide) ?_
      refine ww_aload_n C 0 rfl rfl (dq dk_Mo_decoded 48 rfl) ?_
      refine ww_geti C ko_Mo 50 ho_v0 (lt_ rfl) g_6_100 rfl rfl (dq dk_Mo_decoded 49 rfl) ?_
      exact ww_iret C hR (dq dk_Mo_decoded 50 rfl) h
    rw [if_neg e5_5] at h
    by_cases e6_6 : v2 = 6
    · rw [if_pos e6_6] at h
      refine ww_tabIn C 131 (dq dk_Mo_decoded 33 rfl) (by rw [e6_6]; decide) (by rw [e6_6]; decide) (by rw [e6_6]; rfl) (by decide) ?_
      refine ww_aload_n C 0 rfl rfl (dq dk_Mo_decoded 51 rfl) ?_
      refine ww_geti C ko_Mo 51 ho_v0 (lt_ rfl) g_6_101 rfl rfl (dq dk_Mo_decoded 52 rfl) ?_
      exact ww_iret C hR (dq dk_Mo_decoded 53 rfl) h
    rw [if_neg e6_6] at h
    have ne0_0 := lv_neT (a := 0) e0_0 (by decide)
    have ne1_1 := lv_neT (a := 1) e1_1 (by decide)
    have ne2_2 := lv_neT (a := 2) e2_2 (by decide)
    have ne3_3 := lv_neT (a := 3) e3_3 (by decide)
    have ne4_4 := lv_neT (a := 4) e4_4 (by decide)
    have ne5_5 := lv_neT (a := 5) e5_5 (by decide)
    have ne6_6 := lv_neT (a := 6) e6_6 (by decide)
    refine ww_tabOut C 136 (dq dk_Mo_decoded 33 rfl) (by omega) (by decide) ?_
    refine ww_aload_n C 0 rfl rfl (dq dk_Mo_decoded 54 rfl) ?_
    refine ww_getr C ko_Mo 7 ho_v0 (lt_ rfl) g_6_57 rfl rfl (dq dk_Mo_decoded 55 rfl) ?_
    refine ww_iload_n C 1 rfl rfl (dq dk_Mo_decoded 56 rfl) ?_
    refine ww_iald C (kc_Mo_7 _ ho_v0).1 (kc_Mo_7 _ ho_v0).2 (dq dk_Mo_decoded 57 rfl) h (fun x3 h => ?_)
    exact ww_iret C hR (dq dk_Mo_decoded 58 rfl) h
  · refine ww_iconst C (dq dk_Mo_decoded 30 rfl) ic_0 ?_
    exact ww_iret C hR (dq dk_Mo_decoded 31 rfl) h
set_option maxHeartbeats 4000000 in
set_option maxRecDepth 100000 in
theorem t_Mo_decoded_B29 {k : Cfg} {res : Int32 × St} (C : Cx k prog_14_method_56_code "BundleHouseModel") (hR : RI k .int res) (hRm : k.2.2.2.1 = rm_Mo_decoded) (hnL : k.2.2.2.2.2.2.2.2.2.2.2.1 = 4) (v0 : Nat) (v1 : Int32) (v2 : Int32) (t0 : Int32) (ho_v0 : kd v0 = 12) (σ : St) (h : Mo_decoded_B29 v0 v1 v2 t0 σ = some res) : WW k 29 [(0, .ref (ad k v0)), (1, .int v1), (2, .int v2)] [.int t0] σ := by
  unfold Mo_decoded_B29 at h
  refine ww_istore_n C [(3, .int t0), (0, .ref (ad k v0)), (1, .int v1), (2, .int v2)] rfl hnL (lt_ rfl) rfl (dq dk_Mo_decoded 15 rfl) ?_
  refine ww_aload_n C 1 rfl rfl (dq dk_Mo_decoded 16 rfl) ?_
  refine ww_iload_n C 0 rfl rfl (dq dk_Mo_decoded 17 rfl) ?_
  refine ww_if_eq C 45 (dq dk_Mo_decoded 18 rfl) (by decide) h (fun h => ?_) (fun h => ?_)
  · refine ww_iconst C (dq dk_Mo_decoded 24 rfl) ic_1 ?_
    refine ww_goto C 50 (dq dk_Mo_decoded 25 rfl) (by decide) ?_
    exact ww_lv [1, 2, 3, 0] rfl (t_Mo_decoded_B50 C hR hRm hnL v0 v1 v2 t0 v0 1 ho_v0 ho_v0 σ h)
  · refine ww_iload_n C 3 rfl rfl (dq dk_Mo_decoded 19 rfl) ?_
    refine ww_if_lt C 45 (dq dk_Mo_decoded 20 rfl) (by decide) h (fun h => ?_) (fun h => ?_)
    · refine ww_iconst C (dq dk_Mo_decoded 24 rfl) ic_1 ?_
      refine ww_goto C 50 (dq dk_Mo_decoded 25 rfl) (by decide) ?_
      exact ww_lv [1, 2, 3, 0] rfl (t_Mo_decoded_B50 C hR hRm hnL v0 v1 v2 t0 v0 1 ho_v0 ho_v0 σ h)
    · refine ww_iload_n C 3 rfl rfl (dq dk_Mo_decoded 21 rfl) ?_
      refine ww_bipush C (dq dk_Mo_decoded 22 rfl) bp_7 ?_
      refine ww_icmp_le C 49 (dq dk_Mo_decoded 23 rfl) (by decide) h (fun h => ?_) (fun h => ?_)
      · refine ww_iconst C (dq dk_Mo_decoded 26 rfl) ic_0 ?_
        exact ww_lv [1, 2, 3, 0] rfl (t_Mo_decoded_B50 C hR hRm hnL v0 v1 v2 t0 v0 0 ho_v0 ho_v0 σ h)
      · refine ww_iconst C (dq dk_Mo_decoded 24 rfl) ic_1 ?_
        refine ww_goto C 50 (dq dk_Mo_decoded 25 rfl) (by decide) ?_
        exact ww_lv [1, 2, 3, 0] rfl (t_Mo_decoded_B50 C hR hRm hnL v0 v1 v2 t0 v0 1 ho_v0 ho_v0 σ h)
set_option maxHeartbeats 4000000 in
set_option maxRecDepth 100000 in
theorem c_Mo_decoded (v0 : Nat) (ho_v0 : kd v0 = 12) (v1 : Int32) (v2 : Int32) : MI y_Mo_decoded rm_Mo_decoded prog_14_method_56_code 4 .int (fun a => [.ref (a v0), .int v1, .int v2]) (Mo_decoded v0 v1 v2) := by
  refine mi_of (by decide) (fun _ => le_ rfl) ?_
  intro k res σ C hR hRm hnL h
  unfold Mo_decoded at h
  show WW k 0 [(0, .ref (ad k v0)), (1, .int v1), (2, .int v2)] [] σ
  refine ww_iload_n C 1 rfl rfl (dq dk_Mo_decoded 0 rfl) ?_
  refine ww_if_lt C 28 (dq dk_Mo_decoded 1 rfl) (by decide) h (fun h => ?_) (fun h => ?_)
  · refine ww_iconst C (dq dk_Mo_decoded 14 rfl) ic_0 ?_
    exact ww_lv [0, 1, 2] rfl (t_Mo_decoded_B29 C hR hRm hnL v0 v1 v2 0 ho_v0 σ h)
  · refine ww_iload_n C 1 rfl rfl (dq dk_Mo_decoded 2 rfl) ?_
    refine ww_aload_n C 0 rfl rfl (dq dk_Mo_decoded 3 rfl) ?_
    refine ww_geti C ko_Mo 6 ho_v0 (lt_ rfl) g_6_56 rfl rfl (dq dk_Mo_decoded 4 rfl) ?_
    refine ww_icmp_ge C 28 (dq dk_Mo_decoded 5 rfl) (by decide) h (fun h => ?_) (fun h => ?_)
    · refine ww_iconst C (dq dk_Mo_decoded 14 rfl) ic_0 ?_
      exact ww_lv [0, 1, 2] rfl (t_Mo_decoded_B29 C hR hRm hnL v0 v1 v2 0 ho_v0 σ h)
    · refine ww_aload_n C 0 rfl rfl (dq dk_Mo_decoded 6 rfl) ?_
      refine ww_aload_n C 0 rfl rfl (dq dk_Mo_decoded 7 rfl) ?_
      refine ww_getr C ko_Mo 5 ho_v0 (lt_ rfl) g_6_55 rfl rfl (dq dk_Mo_decoded 8 rfl) ?_
      refine ww_aload_n C 0 rfl rfl (dq dk_Mo_decoded 9 rfl) ?_
      refine ww_geti C ko_Mo 6 ho_v0 (lt_ rfl) g_6_56 rfl rfl (dq dk_Mo_decoded 10 rfl) ?_
      refine ww_iload_n C 1 rfl rfl (dq dk_Mo_decoded 11 rfl) ?_
      refine ww_cVi (st := []) C (c_Mo_decode v0 ho_v0 (ch v0 5) (σ v0 6) v1) cw_Mo_decode ho_v0 (lt_ rfl) rfl g_7_29 hRm ⟨⟨rfl, rfl⟩, le_ rfl, le_ rfl⟩ rfl rfl rfl (le_ rfl) (dq dk_Mo_decoded 12 rfl) h (fun x2 σ1 h => ?_)
      refine ww_goto C 29 (dq dk_Mo_decoded 13 rfl) (by decide) ?_
      exact ww_lv [0, 1, 2] rfl (t_Mo_decoded_B29 C hR hRm hnL v0 v1 v2 x2 ho_v0 σ1 h)
abbrev y_Mo_place : MethodName := ⟨"BundleHouseModel", "place", "(II)I"⟩
def dl_Mo_place : List (Nat × Instr × Nat) := [(0, .aload_n 0, 1), (1, .iconst 0, 1), (2, .putfield 105, 3), (5, .aload_n 0, 1), (6, .getfield 202, 3), (9, .ifCond .ne 5, 3), (12, .iconst (-1), 1), (13, .ireturn, 1), (14, .iload_n 1, 1), (15, .iconst 2, 1), (16, .if_icmp .ne 8, 3), (19, .aload_n 0, 1), (20, .getfield 300, 3), (23, .ireturn, 1), (24, .iload_n 1, 1), (25, .ifCond .ne 29, 3), (28, .iload_n 2, 1), (29, .ifCond .lt 23, 3), (32, .iload_n 2, 1), (33, .aload_n 0, 1), (34, .getfield 300, 3), (37, .if_icmp .ge 15, 3), (40, .aload_n 0, 1), (41, .getfield 44, 3), (44, .bipush 120, 2), (46, .iload_n 2, 1), (47, .iadd, 1), (48, .iaload, 1), (49, .goto 4, 3), (52, .iconst (-1), 1), (53, .ireturn, 1), (54, .iload_n 1, 1), (55, .iconst 1, 1), (56, .if_icmp .ne 37, 3), (59, .iload_n 2, 1), (60, .ifCond .lt 33, 3), (63, .iload_n 2, 1), (64, .bipush 40, 2), (66, .if_icmp .ge 27, 3), (69, .aload_n 0, 1), (70, .getfield 50, 3), (73, .bipush 40, 2), (75, .iload_n 2, 1), (76, .iadd, 1), (77, .iaload, 1), (78, .ifCond .lt 15, 3), (81, .aload_n 0, 1), (82, .getfield 47, 3), (85, .bipush 40, 2), (87, .iload_n 2, 1), (88, .iadd, 1), (89, .iaload, 1), (90, .goto 4, 3), (93, .iconst (-1), 1), (94, .ireturn, 1)]
set_option maxRecDepth 100000 in
theorem dk_Mo_place : ∀ q ∈ dl_Mo_place, decode prog_14_method_57_code q.1 = .ok q.2 := by decide +kernel
abbrev rm_Mo_place : Room := { frames := 0, cells := 0, slots := 0, locals := 0 }
theorem cw_Mo_place : CWV y_Mo_place prog_14_method_57_code 3 (some .int) 2 := ⟨⟨g_7_215, g_1_13, by decide, by decide, by decide +kernel⟩, g_7_213, g_7_214⟩
set_option maxHeartbeats 4000000 in
set_option maxRecDepth 100000 in
theorem c_Mo_place (v0 : Nat) (ho_v0 : kd v0 = 12) (v1 : Int32) (v2 : Int32) : MI y_Mo_place rm_Mo_place prog_14_method_57_code 3 .int (fun a => [.ref (a v0), .int v1, .int v2]) (Mo_place v0 v1 v2) := by
  refine mi_of (by decide) (fun _ => le_ rfl) ?_
  intro k res σ C hR hRm hnL h
  unfold Mo_place at h
  show WW k 0 [(0, .ref (ad k v0)), (1, .int v1), (2, .int v2)] [] σ
  refine ww_aload_n C 0 rfl rfl (dq dk_Mo_place 0 rfl) ?_
  refine ww_iconst C (dq dk_Mo_place 1 rfl) ic_0 ?_
  refine ww_puti C ko_Mo 0 ho_v0 (lt_ rfl) g_6_50 rfl rfl rfl rfl (dq dk_Mo_place 2 rfl) h (fun σ1 h => ?_)
  refine ww_aload_n C 0 rfl rfl (dq dk_Mo_place 3 rfl) ?_
  refine ww_geti C ko_Mo 10 ho_v0 (lt_ rfl) g_6_60 rfl rfl (dq dk_Mo_place 4 rfl) ?_
  refine ww_if_ne C 14 (dq dk_Mo_place 5 rfl) (by decide) h (fun h => ?_) (fun h => ?_)
  · refine ww_iload_n C 1 rfl rfl (dq dk_Mo_place 8 rfl) ?_
    refine ww_iconst C (dq dk_Mo_place 9 rfl) ic_2 ?_
    refine ww_icmp_ne C 24 (dq dk_Mo_place 10 rfl) (by decide) h (fun h => ?_) (fun h => ?_)
    · refine ww_iload_n C 1 rfl rfl (dq dk_Mo_place 14 rfl) ?_
      refine ww_if_ne C 54 (dq dk_Mo_place 15 rfl) (by decide) h (fun h => ?_) (fun h => ?_)
      · refine ww_iload_n C 1 rfl rfl (dq dk_Mo_place 31 rfl) ?_
        refine ww_iconst C (dq dk_Mo_place 32 rfl) ic_1 ?_
        refine ww_icmp_ne C 93 (dq dk_Mo_place 33 rfl) (by decide) h (fun h => ?_) (fun h => ?_)
        · refine ww_iconst C (dq dk_Mo_place 53 rfl) ic_m1 ?_
          exact ww_iret C hR (dq dk_Mo_place 54 rfl) h
        · refine ww_iload_n C 2 rfl rfl (dq dk_Mo_place 34 rfl) ?_
          refine ww_if_lt C 93 (dq dk_Mo_place 35 rfl) (by decide) h (fun h => ?_) (fun h => ?_)
          · refine ww_iconst C (dq dk_Mo_place 53 rfl) ic_m1 ?_
            exact ww_iret C hR (dq dk_Mo_place 54 rfl) h
          · refine ww_iload_n C 2 rfl rfl (dq dk_Mo_place 36 rfl) ?_
            refine ww_bipush C (dq dk_Mo_place 37 rfl) bp_40 ?_
            refine ww_icmp_ge C 93 (dq dk_Mo_place 38 rfl) (by decide) h (fun h => ?_) (fun h => ?_)
            · refine ww_iconst C (dq dk_Mo_place 53 rfl) ic_m1 ?_
              exact ww_iret C hR (dq dk_Mo_place 54 rfl) h
            · refine ww_aload_n C 0 rfl rfl (dq dk_Mo_place 39 rfl) ?_
              refine ww_getr C ko_Mo 20 ho_v0 (lt_ rfl) g_6_70 rfl rfl (dq dk_Mo_place 40 rfl) ?_
              refine ww_bipush C (dq dk_Mo_place 41 rfl) bp_40 ?_
              refine ww_iload_n C 2 rfl rfl (dq dk_Mo_place 42 rfl) ?_
              refine ww_iadd C (dq dk_Mo_place 43 rfl) ?_
              refine ww_iald C (kc_Mo_20 _ ho_v0).1 (kc_Mo_20 _ ho_v0).2 (dq dk_Mo_place 44 rfl) h (fun x2 h => ?_)
              refine ww_if_lt C 93 (dq dk_Mo_place 45 rfl) (by decide) h (fun h => ?_) (fun h => ?_)
              · refine ww_iconst C (dq dk_Mo_place 53 rfl) ic_m1 ?_
                exact ww_iret C hR (dq dk_Mo_place 54 rfl) h
              · refine ww_aload_n C 0 rfl rfl (dq dk_Mo_place 46 rfl) ?_
                refine ww_getr C ko_Mo 19 ho_v0 (lt_ rfl) g_6_69 rfl rfl (dq dk_Mo_place 47 rfl) ?_
                refine ww_bipush C (dq dk_Mo_place 48 rfl) bp_40 ?_
                refine ww_iload_n C 2 rfl rfl (dq dk_Mo_place 49 rfl) ?_
                refine ww_iadd C (dq dk_Mo_place 50 rfl) ?_
                refine ww_iald C (kc_Mo_19 _ ho_v0).1 (kc_Mo_19 _ ho_v0).2 (dq dk_Mo_place 51 rfl) h (fun x3 h => ?_)
                refine ww_goto C 94 (dq dk_Mo_place 52 rfl) (by decide) ?_
                exact ww_iret C hR (dq dk_Mo_place 54 rfl) h
      · refine ww_iload_n C 2 rfl rfl (dq dk_Mo_place 16 rfl) ?_
        refine ww_if_lt C 52 (dq dk_Mo_place 17 rfl) (by decide) h (fun h => ?_) (fun h => ?_)
        · refine ww_iconst C (dq dk_Mo_place 29 rfl) ic_m1 ?_
          exact ww_iret C hR (dq dk_Mo_place 30 rfl) h
        · refine ww_iload_n C 2 rfl rfl (dq dk_Mo_place 18 rfl) ?_
          refine ww_aload_n C 0 rfl rfl (dq dk_Mo_place 19 rfl) ?_
          refine ww_geti C ko_Mo 9 ho_v0 (lt_ rfl) g_6_59 rfl rfl (dq dk_Mo_place 20 rfl) ?_
          refine ww_icmp_ge C 52 (dq dk_Mo_place 21 rfl) (by decide) h (fun h => ?_) (fun h => ?_)
          · refine ww_iconst C (dq dk_Mo_place 29 rfl) ic_m1 ?_
            exact ww_iret C hR (dq dk_Mo_place 30 rfl) h
          · refine ww_aload_n C 0 rfl rfl (dq dk_Mo_place 22 rfl) ?_
            refine ww_getr C ko_Mo 18 ho_v0 (lt_ rfl) g_6_68 rfl rfl (dq dk_Mo_place 23 rfl) ?_
            refine ww_bipush C (dq dk_Mo_place 24 rfl) bp_120 ?_
            refine ww_iload_n C 2 rfl rfl (dq dk_Mo_place 25 rfl) ?_
            refine ww_iadd C (dq dk_Mo_place 26 rfl) ?_
            refine ww_iald C (kc_Mo_18 _ ho_v0).1 (kc_Mo_18 _ ho_v0).2 (dq dk_Mo_place 27 rfl) h (fun x4 h => ?_)
            refine ww_goto C 53 (dq dk_Mo_place 28 rfl) (by decide) ?_
            exact ww_iret C hR (dq dk_Mo_place 30 rfl) h
    · refine ww_aload_n C 0 rfl rfl (dq dk_Mo_place 11 rfl) ?_
      refine ww_geti C ko_Mo 9 ho_v0 (lt_ rfl) g_6_59 rfl rfl (dq dk_Mo_place 12 rfl) ?_
      exact ww_iret C hR (dq dk_Mo_place 13 rfl) h
  · refine ww_iconst C (dq dk_Mo_place 6 rfl) ic_m1 ?_
    exact ww_iret C hR (dq dk_Mo_place 7 rfl) h
abbrev y_Mo_set : MethodName := ⟨"BundleHouseModel", "set", "(III)Z"⟩
def dl_Mo_set : List (Nat × Instr × Nat) := [(0, .aload_n 0, 1), (1, .iconst 0, 1), (2, .putfield 105, 3), (5, .iload_n 1, 1), (6, .tableswitch 187 0 3 #[30, 48, 98, 131], 30), (36, .iload_n 2, 1), (37, .invokestatic 217, 3), (40, .ifCond .ne 5, 3), (43, .iconst 0, 1), (44, .ireturn, 1), (45, .aload_n 0, 1), (46, .getfield 63, 3), (49, .iload_n 2, 1), (50, .iload_n 3, 1), (51, .iastore, 1), (52, .iconst 1, 1), (53, .ireturn, 1), (54, .iload_n 2, 1), (55, .ifCond .lt 10, 3), (58, .iload_n 2, 1), (59, .sipush 1020, 3), (62, .if_icmp .le 5, 3), (65, .iconst 0, 1), (66, .ireturn, 1), (67, .iconst 0, 1), (68, .istore 4, 2), (70, .iload 4, 2), (72, .iconst 4, 1), (73, .if_icmp .ge 29, 3), (76, .aload_n 0, 1), (77, .getfield 66, 3), (80, .iload_n 2, 1), (81, .iload 4, 2), (83, .iadd, 1), (84, .iload_n 3, 1), (85, .bipush 8, 2), (87, .iload 4, 2), (89, .imul, 1), (90, .ishr, 1), (91, .sipush 255, 3), (94, .iand, 1), (95, .iastore, 1), (96, .iinc 4 1, 3), (99, .goto (-29), 3), (102, .iconst 1, 1), (103, .ireturn, 1), (104, .aload_n 0, 1), (105, .getfield 310, 3), (108, .bipush 50, 2), (110, .if_icmp .ne 5, 3), (113, .iconst 0, 1), (114, .ireturn, 1), (115, .aload_n 0, 1), (116, .getfield 69, 3), (119, .aload_n 0, 1), (120, .getfield 310, 3), (123, .iload_n 3, 1), (124, .iastore, 1), (125, .aload_n 0, 1), (126, .dup, 1), (127, .getfield 310, 3), (130, .iconst 1, 1), (131, .iadd, 1), (132, .putfield 310, 3), (135, .iconst 1, 1), (136, .ireturn, 1), (137, .iconst 0, 1), (138, .istore 4, 2), (140, .iload 4, 2), (142, .bipush 8, 2), (144, .if_icmp .ge 17, 3), (147, .aload_n 0, 1), (148, .getfield 63, 3), (151, .iload 4, 2), (153, .iconst 0, 1), (154, .iastore, 1), (155, .iinc 4 1, 3), (158, .goto (-18), 3), (161, .iconst 0, 1), (162, .istore 4, 2), (164, .iload 4, 2), (166, .sipush 1024, 3), (169, .if_icmp .ge 17, 3), (172, .aload_n 0, 1), (173, .getfield 66, 3), (176, .iload 4, 2), (178, .iconst 0, 1), (179, .iastore, 1), (180, .iinc 4 1, 3), (183, .goto (-19), 3), (186, .aload_n 0, 1), (187, .iconst 0, 1), (188, .putfield 310, 3), (191, .iconst 1, 1), (192, .ireturn, 1), (193, .iconst 0, 1), (194, .ireturn, 1)]
set_option maxRecDepth 100000 in
theorem dk_Mo_set : ∀ q ∈ dl_Mo_set, decode prog_14_method_58_code q.1 = .ok q.2 := by decide +kernel
abbrev rm_Mo_set : Room := { frames := 1, cells := 0, slots := 0, locals := 20 }
theorem cw_Mo_set : CWV y_Mo_set prog_14_method_58_code 5 (some .boolean) 3 := ⟨⟨g_7_219, g_1_13, by decide, by decide, by decide +kernel⟩, g_7_217, g_7_218⟩
set_option maxHeartbeats 4000000 in
set_option maxRecDepth 100000 in
theorem t_Mo_set_B70 {k : Cfg} {res : Int32 × St} (C : Cx k prog_14_method_58_code "BundleHouseModel") (hR : RI k .boolean res) (hRm : k.2.2.2.1 = rm_Mo_set) (hnL : k.2.2.2.2.2.2.2.2.2.2.2.1 = 5) : ∀ (n : Nat) (v0 : Nat) (v2 : Int32) (v3 : Int32) (v4 : Int32) (ho_v0 : kd v0 = 12) (σ : St), Mo_set_B70 n v0 v2 v3 v4 σ = some res → WW k 70 [(0, .ref (ad k v0)), (2, .int v2), (3, .int v3), (4, .int v4)] [] σ := by
  intro n
  induction n with
  | zero =>
    intro v0 v2 v3 v4 ho_v0 σ h
    have h : (none : Option (Int32 × St)) = some res := h
    cases h
  | succ n ih =>
    intro v0 v2 v3 v4 ho_v0 σ h
    unfold Mo_set_B70 at h
    refine ww_iload C 3 rfl (dq dk_Mo_set 26 rfl) ?_
    refine ww_iconst C (dq dk_Mo_set 27 rfl) ic_4 ?_
    refine ww_icmp_ge C 102 (dq dk_Mo_set 28 rfl) (by decide) h (fun h => ?_) (fun h => ?_)
    · refine ww_iconst C (dq dk_Mo_set 44 rfl) ic_1 ?_
      exact ww_zretL C hR (dq dk_Mo_set 45 rfl) (Or.inr rfl) h
    · refine ww_aload_n C 0 rfl rfl (dq dk_Mo_set 29 rfl) ?_
      refine ww_getr C ko_Mo 27 ho_v0 (lt_ rfl) g_6_77 rfl rfl (dq dk_Mo_set 30 rfl) ?_
      refine ww_iload_n C 1 rfl rfl (dq dk_Mo_set 31 rfl) ?_
      refine ww_iload C 3 rfl (dq dk_Mo_set 32 rfl) ?_
      refine ww_iadd C (dq dk_Mo_set 33 rfl) ?_
      refine ww_iload_n C 2 rfl rfl (dq dk_Mo_set 34 rfl) ?_
      refine ww_bipush C (dq dk_Mo_set 35 rfl) bp_8 ?_
      refine ww_iload C 3 rfl (dq dk_Mo_set 36 rfl) ?_
      refine ww_imul C (dq dk_Mo_set 37 rfl) ?_
      refine ww_ishr C (dq dk_Mo_set 38 rfl) ?_
      refine ww_sipush C (dq dk_Mo_set 39 rfl) sp_255 ?_
      refine ww_iand C (dq dk_Mo_set 40 rfl) ?_
      refine ww_iast C (kc_Mo_27 _ ho_v0).1 (kc_Mo_27 _ ho_v0).2 (dq dk_Mo_set 41 rfl) h (fun σ1 h => ?_)
      refine ww_iinc C 3 (fun z => [(4, .int z), (0, .ref (ad k v0)), (2, .int v2), (3, .int v3)]) rfl ic_1 hnL (lt_ rfl) (fun _ => rfl) (dq dk_Mo_set 42 rfl) h (fun x2 h => ?_)
      refine ww_goto C 70 (dq dk_Mo_set 43 rfl) (by decide) ?_
      exact ww_lv [1, 2, 3, 0] rfl (ih v0 v2 v3 x2 ho_v0 σ1 h)
set_option maxHeartbeats 4000000 in
set_option maxRecDepth 100000 in
theorem t_Mo_set_B164 {k : Cfg} {res : Int32 × St} (C : Cx k prog_14_method_58_code "BundleHouseModel") (hR : RI k .boolean res) (hRm : k.2.2.2.1 = rm_Mo_set) (hnL : k.2.2.2.2.2.2.2.2.2.2.2.1 = 5) : ∀ (n : Nat) (v0 : Nat) (v4 : Int32) (ho_v0 : kd v0 = 12) (σ : St), Mo_set_B164 n v0 v4 σ = some res → WW k 164 [(0, .ref (ad k v0)), (4, .int v4)] [] σ := by
  intro n
  induction n with
  | zero =>
    intro v0 v4 ho_v0 σ h
    have h : (none : Option (Int32 × St)) = some res := h
    cases h
  | succ n ih =>
    intro v0 v4 ho_v0 σ h
    unfold Mo_set_B164 at h
    refine ww_iload C 1 rfl (dq dk_Mo_set 80 rfl) ?_
    refine ww_sipush C (dq dk_Mo_set 81 rfl) sp_1024 ?_
    refine ww_icmp_ge C 186 (dq dk_Mo_set 82 rfl) (by decide) h (fun h => ?_) (fun h => ?_)
    · refine ww_aload_n C 0 rfl rfl (dq dk_Mo_set 90 rfl) ?_
      refine ww_iconst C (dq dk_Mo_set 91 rfl) ic_0 ?_
      refine ww_puti C ko_Mo 29 ho_v0 (lt_ rfl) g_6_79 rfl rfl rfl rfl (dq dk_Mo_set 92 rfl) h (fun σ1 h => ?_)
      refine ww_iconst C (dq dk_Mo_set 93 rfl) ic_1 ?_
      exact ww_zretL C hR (dq dk_Mo_set 94 rfl) (Or.inr rfl) h
    · refine ww_aload_n C 0 rfl rfl (dq dk_Mo_set 83 rfl) ?_
      refine ww_getr C ko_Mo 27 ho_v0 (lt_ rfl) g_6_77 rfl rfl (dq dk_Mo_set 84 rfl) ?_
      refine ww_iload C 1 rfl (dq dk_Mo_set 85 rfl) ?_
      refine ww_iconst C (dq dk_Mo_set 86 rfl) ic_0 ?_
      refine ww_iast C (kc_Mo_27 _ ho_v0).1 (kc_Mo_27 _ ho_v0).2 (dq dk_Mo_set 87 rfl) h (fun σ2 h => ?_)
      refine ww_iinc C 1 (fun z => [(4, .int z), (0, .ref (ad k v0))]) rfl ic_1 hnL (lt_ rfl) (fun _ => rfl) (dq dk_Mo_set 88 rfl) h (fun x3 h => ?_)
      refine ww_goto C 164 (dq dk_Mo_set 89 rfl) (by decide) ?_
      exact ww_lv [1, 0] rfl (ih v0 x3 ho_v0 σ2 h)
set_option maxHeartbeats 4000000 in
set_option maxRecDepth 100000 in
theorem t_Mo_set_B140 {k : Cfg} {res : Int32 × St} (C : Cx k prog_14_method_58_code "BundleHouseModel") (hR : RI k .boolean res) (hRm : k.2.2.2.1 = rm_Mo_set) (hnL : k.2.2.2.2.2.2.2.2.2.2.2.1 = 5) : ∀ (n : Nat) (v0 : Nat) (v4 : Int32) (ho_v0 : kd v0 = 12) (σ : St), Mo_set_B140 n v0 v4 σ = some res → WW k 140 [(0, .ref (ad k v0)), (4, .int v4)] [] σ := by
  intro n
  induction n with
  | zero =>
    intro v0 v4 ho_v0 σ h
    have h : (none : Option (Int32 × St)) = some res := h
    cases h
  | succ n ih =>
    intro v0 v4 ho_v0 σ h
    unfold Mo_set_B140 at h
    refine ww_iload C 1 rfl (dq dk_Mo_set 68 rfl) ?_
    refine ww_bipush C (dq dk_Mo_set 69 rfl) bp_8 ?_
    refine ww_icmp_ge C 161 (dq dk_Mo_set 70 rfl) (by decide) h (fun h => ?_) (fun h => ?_)
    · refine ww_iconst C (dq dk_Mo_set 78 rfl) ic_0 ?_
      refine ww_istore C [(4, .int 0), (0, .ref (ad k v0))] hnL (lt_ rfl) rfl (dq dk_Mo_set 79 rfl) ?_
      exact ww_lv [1, 0] rfl (t_Mo_set_B164 C hR hRm hnL FU v0 0 ho_v0 σ h)
    · refine ww_aload_n C 0 rfl rfl (dq dk_Mo_set 71 rfl) ?_
      refine ww_getr C ko_Mo 26 ho_v0 (lt_ rfl) g_6_76 rfl rfl (dq dk_Mo_set 72 rfl) ?_
      refine ww_iload C 1 rfl (dq dk_Mo_set 73 rfl) ?_
      refine ww_iconst C (dq dk_Mo_set 74 rfl) ic_0 ?_
      refine ww_iast C (kc_Mo_26 _ ho_v0).1 (kc_Mo_26 _ ho_v0).2 (dq dk_Mo_set 75 rfl) h (fun σ1 h => ?_)
      refine ww_iinc C 1 (fun z => [(4, .int z), (0, .ref (ad k v0))]) rfl ic_1 hnL (lt_ rfl) (fun _ => rfl) (dq dk_Mo_set 76 rfl) h (fun x2 h => ?_)
      refine ww_goto C 140 (dq dk_Mo_set 77 rfl) (by decide) ?_
      exact ww_lv [1, 0] rfl (ih v0 x2 ho_v0 σ1 h)
set_option maxHeartbeats 4000000 in
set_option maxRecDepth 100000 in
theorem c_Mo_set (v0 : Nat) (ho_v0 : kd v0 = 12) (v1 : Int32) (v2 : Int32) (v3 : Int32) : MI y_Mo_set rm_Mo_set prog_14_method_58_code 5 .boolean (fun a => [.ref (a v0), .int v1, .int v2, .int v3]) (Mo_set v0 v1 v2 v3) := by
  refine mi_of (by decide) (fun _ => le_ rfl) ?_
  intro k res σ C hR hRm hnL h
  unfold Mo_set at h
  show WW k 0 [(0, .ref (ad k v0)), (1, .int v1), (2, .int v2), (3, .int v3)] [] σ
  refine ww_aload_n C 0 rfl rfl (dq dk_Mo_set 0 rfl) ?_
  refine ww_iconst C (dq dk_Mo_set 1 rfl) ic_0 ?_
  refine ww_puti C ko_Mo 0 ho_v0 (lt_ rfl) g_6_50 rfl rfl rfl rfl (dq dk_Mo_set 2 rfl) h (fun σ1 h => ?_)
  refine ww_iload_n C 1 rfl rfl (dq dk_Mo_set 3 rfl) ?_
  by_cases e0_0 : v1 = 0
  · rw [if_pos e0_0] at h
    refine ww_tabIn C 36 (dq dk_Mo_set 4 rfl) (by rw [e0_0]; decide) (by rw [e0_0]; decide) (by rw [e0_0]; rfl) (by decide) ?_
    refine ww_iload_n C 2 rfl rfl (dq dk_Mo_set 5 rfl) ?_
    refine ww_cSi (st := []) C (c_Mo_isRegister v2) cw_Mo_isRegister g_7_94 hRm ⟨⟨rfl, rfl⟩, le_ rfl, le_ rfl⟩ rfl rfl rfl (le_ rfl) (dq dk_Mo_set 6 rfl) h (fun x3 σ2 h => ?_)
    refine ww_if_ne C 45 (dq dk_Mo_set 7 rfl) (by decide) h (fun h => ?_) (fun h => ?_)
    · refine ww_aload_n C 0 rfl rfl (dq dk_Mo_set 10 rfl) ?_
      refine ww_getr C ko_Mo 26 ho_v0 (lt_ rfl) g_6_76 rfl rfl (dq dk_Mo_set 11 rfl) ?_
      refine ww_iload_n C 2 rfl rfl (dq dk_Mo_set 12 rfl) ?_
      refine ww_iload_n C 3 rfl rfl (dq dk_Mo_set 13 rfl) ?_
      refine ww_iast C (kc_Mo_26 _ ho_v0).1 (kc_Mo_26 _ ho_v0).2 (dq dk_Mo_set 14 rfl) h (fun σ4 h => ?_)
      refine ww_iconst C (dq dk_Mo_set 15 rfl) ic_1 ?_
      exact ww_zretL C hR (dq dk_Mo_set 16 rfl) (Or.inr rfl) h
    · refine ww_iconst C (dq dk_Mo_set 8 rfl) ic_0 ?_
      exact ww_zretL C hR (dq dk_Mo_set 9 rfl) (Or.inl rfl) h
  rw [if_neg e0_0] at h
  by_cases e1_1 : v1 = 1
  · rw [if_pos e1_1] at h
    refine ww_tabIn C 54 (dq dk_Mo_set 4 rfl) (by rw [e1_1]; decide) (by rw [e1_1]; decide) (by rw [e1_1]; rfl) (by decide) ?_
    refine ww_iload_n C 2 rfl rfl (dq dk_Mo_set 17 rfl) ?_
    refine ww_if_lt C 65 (dq dk_Mo_set 18 rfl) (by decide) h (fun h => ?_) (fun h => ?_)
    · refine ww_iconst C (dq dk_Mo_set 22 rfl) ic_0 ?_
      exact ww_zretL C hR (dq dk_Mo_set 23 rfl) (Or.inl rfl) h
    · refine ww_iload_n C 2 rfl rfl (dq dk_Mo_set 19 rfl) ?_
      refine ww_sipush C (dq dk_Mo_set 20 rfl) sp_1020 ?_
      refine ww_icmp_le C 67 (dq dk_Mo_set 21 rfl) (by decide) h (fun h => ?_) (fun h => ?_)
      · refine ww_iconst C (dq dk_Mo_set 24 rfl) ic_0 ?_
        refine ww_istore C [(4, .int 0), (0, .ref (ad k v0)), (1, .int v1), (2, .int v2), (3, .int v3)] hnL (lt_ rfl) rfl (dq dk_Mo_set 25 rfl) ?_
        exact ww_lv [1, 3, 4, 0] rfl (t_Mo_set_B70 C hR hRm hnL FU v0 v2 v3 0 ho_v0 σ1 h)
      · refine ww_iconst C (dq dk_Mo_set 22 rfl) ic_0 ?_
        exact ww_zretL C hR (dq dk_Mo_set 23 rfl) (Or.inl rfl) h
  rw [if_neg e1_1] at h
  by_cases e2_2 : v1 = 2
  · rw [if_pos e2_2] at h
    refine ww_tabIn C 104 (dq dk_Mo_set 4 rfl) (by rw [e2_2]; decide) (by rw [e2_2]; decide) (by rw [e2_2]; rfl) (by decide) ?_
    refine ww_aload_n C 0 rfl rfl (dq dk_Mo_set 46 rfl) ?_
    refine ww_geti C ko_Mo 29 ho_v0 (lt_ rfl) g_6_79 rfl rfl (dq dk_Mo_set 47 rfl) ?_
    refine ww_bipush C (dq dk_Mo_set 48 rfl) bp_50 ?_
    refine ww_icmp_ne C 115 (dq dk_Mo_set 49 rfl) (by decide) h (fun h => ?_) (fun h => ?_)
    · refine ww_aload_n C 0 rfl rfl (dq dk_Mo_set 52 rfl) ?_
      refine ww_getr C ko_Mo 28 ho_v0 (lt_ rfl) g_6_78 rfl rfl (dq dk_Mo_set 53 rfl) ?_
      refine ww_aload_n C 0 rfl rfl (dq dk_Mo_set 54 rfl) ?_
      refine ww_geti C ko_Mo 29 ho_v0 (lt_ rfl) g_6_79 rfl rfl (dq dk_Mo_set 55 rfl) ?_
      refine ww_iload_n C 3 rfl rfl (dq dk_Mo_set 56 rfl) ?_
      refine ww_iast C (kc_Mo_28 _ ho_v0).1 (kc_Mo_28 _ ho_v0).2 (dq dk_Mo_set 57 rfl) h (fun σ5 h => ?_)
      refine ww_aload_n C 0 rfl rfl (dq dk_Mo_set 58 rfl) ?_
      refine ww_dup C rfl (dq dk_Mo_set 59 rfl) ?_
      refine ww_geti C ko_Mo 29 ho_v0 (lt_ rfl) g_6_79 rfl rfl (dq dk_Mo_set 60 rfl) ?_
      refine ww_iconst C (dq dk_Mo_set 61 rfl) ic_1 ?_
      refine ww_iadd C (dq dk_Mo_set 62 rfl) ?_
      refine ww_puti C ko_Mo 29 ho_v0 (lt_ rfl) g_6_79 rfl rfl rfl rfl (dq dk_Mo_set 63 rfl) h (fun σ6 h => ?_)
      refine ww_iconst C (dq dk_Mo_set 64 rfl) ic_1 ?_
      exact ww_zretL C hR (dq dk_Mo_set 65 rfl) (Or.inr rfl) h
    · refine ww_iconst C (dq dk_Mo_set 50 rfl) ic_0 ?_
      exact ww_zretL C hR (dq dk_Mo_set 51 rfl) (Or.inl rfl) h
  rw [if_neg e2_2] at h
  by_cases e3_3 : v1 = 3
  · rw [if_pos e3_3] at h
    refine ww_tabIn C 137 (dq dk_Mo_set 4 rfl) (by rw [e3_3]; decide) (by rw [e3_3]; decide) (by rw [e3_3]; rfl) (by decide) ?_
    refine ww_iconst C (dq dk_Mo_set 66 rfl) ic_0 ?_
    refine ww_istore C [(4, .int 0), (0, .ref (ad k v0)), (1, .int v1), (2, .int v2), (3, .int v3)] hnL (lt_ rfl) rfl (dq dk_Mo_set 67 rfl) ?_
    exact ww_lv [1, 0] rfl (t_Mo_set_B140 C hR hRm hnL FU v0 0 ho_v0 σ1 h)
  rw [if_neg e3_3] at h
  have ne0_0 := lv_neT (a := 0) e0_0 (by decide)
  have ne1_1 := lv_neT (a := 1) e1_1 (by decide)
  have ne2_2 := lv_neT (a := 2) e2_2 (by decide)
  have ne3_3 := lv_neT (a := 3) e3_3 (by decide)
  refine ww_tabOut C 193 (dq dk_Mo_set 4 rfl) (by omega) (by decide) ?_
  refine ww_iconst C (dq dk_Mo_set 95 rfl) ic_0 ?_
  exact ww_zretL C hR (dq dk_Mo_set 96 rfl) (Or.inl rfl) h
abbrev y_Mo_reg : MethodName := ⟨"BundleHouseModel", "reg", "(I)I"⟩
def dl_Mo_reg : List (Nat × Instr × Nat) := [(0, .aload_n 0, 1), (1, .getfield 75, 3), (4, .bipush 8, 2), (6, .aload_n 0, 1), (7, .getfield 313, 3), (10, .imul, 1), (11, .iload_n 1, 1), (12, .iadd, 1), (13, .iaload, 1), (14, .ireturn, 1)]
set_option maxRecDepth 100000 in
theorem dk_Mo_reg : ∀ q ∈ dl_Mo_reg, decode prog_14_method_59_code q.1 = .ok q.2 := by decide +kernel
abbrev rm_Mo_reg : Room := { frames := 0, cells := 0, slots := 0, locals := 0 }
theorem cw_Mo_reg : CWV y_Mo_reg prog_14_method_59_code 2 (some .int) 1 := ⟨⟨g_7_235, g_1_13, by decide, by decide, by decide +kernel⟩, g_7_234, gs_7_2⟩
set_option maxHeartbeats 4000000 in
set_option maxRecDepth 100000 in
theorem c_Mo_reg (v0 : Nat) (ho_v0 : kd v0 = 12) (v1 : Int32) : MI y_Mo_reg rm_Mo_reg prog_14_method_59_code 2 .int (fun a => [.ref (a v0), .int v1]) (Mo_reg v0 v1) := by
  refine mi_of (by decide) (fun _ => le_ rfl) ?_
  intro k res σ C hR hRm hnL h
  unfold Mo_reg at h
  show WW k 0 [(0, .ref (ad k v0)), (1, .int v1)] [] σ
  refine ww_aload_n C 0 rfl rfl (dq dk_Mo_reg 0 rfl) ?_
  refine ww_getr C ko_Mo 31 ho_v0 (lt_ rfl) g_6_81 rfl rfl (dq dk_Mo_reg 1 rfl) ?_
  refine ww_bipush C (dq dk_Mo_reg 2 rfl) bp_8 ?_
  refine ww_aload_n C 0 rfl rfl (dq dk_Mo_reg 3 rfl) ?_
  refine ww_geti C ko_Mo 42 ho_v0 (lt_ rfl) g_6_92 rfl rfl (dq dk_Mo_reg 4 rfl) ?_
  refine ww_imul C (dq dk_Mo_reg 5 rfl) ?_
  refine ww_iload_n C 1 rfl rfl (dq dk_Mo_reg 6 rfl) ?_
  refine ww_iadd C (dq dk_Mo_reg 7 rfl) ?_
  refine ww_iald C (kc_Mo_31 _ ho_v0).1 (kc_Mo_31 _ ho_v0).2 (dq dk_Mo_reg 8 rfl) h (fun x1 h => ?_)
  exact ww_iret C hR (dq dk_Mo_reg 9 rfl) h
abbrev y_Mo_setReg : MethodName := ⟨"BundleHouseModel", "setReg", "(II)V"⟩
def dl_Mo_setReg : List (Nat × Instr × Nat) := [(0, .aload_n 0, 1), (1, .getfield 75, 3), (4, .bipush 8, 2), (6, .aload_n 0, 1), (7, .getfield 313, 3), (10, .imul, 1), (11, .iload_n 1, 1), (12, .iadd, 1), (13, .iload_n 2, 1), (14, .iastore, 1), (15, .aload_n 0, 1), (16, .getfield 313, 3), (19, .iconst 1, 1), (20, .if_icmp .ne 13, 3), (23, .iload_n 1, 1), (24, .iconst 1, 1), (25, .if_icmp .ne 8, 3), (28, .aload_n 0, 1), (29, .iconst 0, 1), (30, .putfield 316, 3), (33, .return_, 1)]
set_option maxRecDepth 100000 in
theorem dk_Mo_setReg : ∀ q ∈ dl_Mo_setReg, decode prog_14_method_60_code q.1 = .ok q.2 := by decide +kernel
abbrev rm_Mo_setReg : Room := { frames := 0, cells := 0, slots := 0, locals := 0 }
theorem cw_Mo_setReg : CWV y_Mo_setReg prog_14_method_60_code 3 none 2 := ⟨⟨g_8_6, g_1_13, by decide, by decide, by decide +kernel⟩, g_8_5, gs_7_4⟩
set_option maxHeartbeats 4000000 in
set_option maxRecDepth 100000 in
theorem c_Mo_setReg (v0 : Nat) (ho_v0 : kd v0 = 12) (v1 : Int32) (v2 : Int32) : MV y_Mo_setReg rm_Mo_setReg prog_14_method_60_code 3 (fun a => [.ref (a v0), .int v1, .int v2]) (Mo_setReg v0 v1 v2) := by
  refine mv_of (by decide) (fun _ => le_ rfl) ?_
  intro k res σ C hR hRm hnL h
  unfold Mo_setReg at h
  show WW k 0 [(0, .ref (ad k v0)), (1, .int v1), (2, .int v2)] [] σ
  refine ww_aload_n C 0 rfl rfl (dq dk_Mo_setReg 0 rfl) ?_
  refine ww_getr C ko_Mo 31 ho_v0 (lt_ rfl) g_6_81 rfl rfl (dq dk_Mo_setReg 1 rfl) ?_
  refine ww_bipush C (dq dk_Mo_setReg 2 rfl) bp_8 ?_
  refine ww_aload_n C 0 rfl rfl (dq dk_Mo_setReg 3 rfl) ?_
  refine ww_geti C ko_Mo 42 ho_v0 (lt_ rfl) g_6_92 rfl rfl (dq dk_Mo_setReg 4 rfl) ?_
  refine ww_imul C (dq dk_Mo_setReg 5 rfl) ?_
  refine ww_iload_n C 1 rfl rfl (dq dk_Mo_setReg 6 rfl) ?_
  refine ww_iadd C (dq dk_Mo_setReg 7 rfl) ?_
  refine ww_iload_n C 2 rfl rfl (dq dk_Mo_setReg 8 rfl) ?_
  refine ww_iast C (kc_Mo_31 _ ho_v0).1 (kc_Mo_31 _ ho_v0).2 (dq dk_Mo_setReg 9 rfl) h (fun σ1 h => ?_)
  refine ww_aload_n C 0 rfl rfl (dq dk_Mo_setReg 10 rfl) ?_
  refine ww_geti C ko_Mo 42 ho_v0 (lt_ rfl) g_6_92 rfl rfl (dq dk_Mo_setReg 11 rfl) ?_
  refine ww_iconst C (dq dk_Mo_setReg 12 rfl) ic_1 ?_
  refine ww_icmp_ne C 33 (dq dk_Mo_setReg 13 rfl) (by decide) h (fun h => ?_) (fun h => ?_)
  · exact ww_vret C hR (dq dk_Mo_setReg 20 rfl) h
  · refine ww_iload_n C 1 rfl rfl (dq dk_Mo_setReg 14 rfl) ?_
    refine ww_iconst C (dq dk_Mo_setReg 15 rfl) ic_1 ?_
    refine ww_icmp_ne C 33 (dq dk_Mo_setReg 16 rfl) (by decide) h (fun h => ?_) (fun h => ?_)
    · exact ww_vret C hR (dq dk_Mo_setReg 20 rfl) h
    · refine ww_aload_n C 0 rfl rfl (dq dk_Mo_setReg 17 rfl) ?_
      refine ww_iconst C (dq dk_Mo_setReg 18 rfl) ic_0 ?_
      refine ww_putZ C ko_Mo 40 ho_v0 (lt_ rfl) g_6_90 rfl rfl rfl rfl (Or.inl rfl) (dq dk_Mo_setReg 19 rfl) h (fun σ2 h => ?_)
      exact ww_vret C hR (dq dk_Mo_setReg 20 rfl) h
abbrev y_Mo_isThere : MethodName := ⟨"BundleHouseModel", "isThere", "(I)Z"⟩
def dl_Mo_isThere : List (Nat × Instr × Nat) := [(0, .iload_n 0, 1), (1, .ifCond .lt 14, 3), (4, .iload_n 0, 1), (5, .sipush 1020, 3), (8, .if_icmp .gt 7, 3), (11, .iconst 1, 1), (12, .goto 4, 3), (15, .iconst 0, 1), (16, .ireturn, 1)]
set_option maxRecDepth 100000 in
theorem dk_Mo_isThere : ∀ q ∈ dl_Mo_isThere, decode prog_14_method_61_code q.1 = .ok q.2 := by decide +kernel
abbrev rm_Mo_isThere : Room := { frames := 0, cells := 0, slots := 0, locals := 0 }
theorem cw_Mo_isThere : CWS y_Mo_isThere prog_14_method_61_code 1 (some .boolean) 1 := ⟨⟨g_7_238, g_1_13, by decide, by decide, by decide +kernel⟩, g_7_237⟩
set_option maxHeartbeats 4000000 in
set_option maxRecDepth 100000 in
theorem c_Mo_isThere (v0 : Int32) : MI y_Mo_isThere rm_Mo_isThere prog_14_method_61_code 1 .boolean (fun a => [.int v0]) (Mo_isThere v0) := by
  refine mi_of (by decide) (fun _ => le_ rfl) ?_
  intro k res σ C hR hRm hnL h
  unfold Mo_isThere at h
  show WW k 0 [(0, .int v0)] [] σ
  refine ww_iload_n C 0 rfl rfl (dq dk_Mo_isThere 0 rfl) ?_
  refine ww_if_lt C 15 (dq dk_Mo_isThere 1 rfl) (by decide) h (fun h => ?_) (fun h => ?_)
  · refine ww_iconst C (dq dk_Mo_isThere 7 rfl) ic_0 ?_
    exact ww_zretL C hR (dq dk_Mo_isThere 8 rfl) (Or.inl rfl) h
  · refine ww_iload_n C 0 rfl rfl (dq dk_Mo_isThere 2 rfl) ?_
    refine ww_sipush C (dq dk_Mo_isThere 3 rfl) sp_1020 ?_
    refine ww_icmp_gt C 15 (dq dk_Mo_isThere 4 rfl) (by decide) h (fun h => ?_) (fun h => ?_)
    · refine ww_iconst C (dq dk_Mo_isThere 7 rfl) ic_0 ?_
      exact ww_zretL C hR (dq dk_Mo_isThere 8 rfl) (Or.inl rfl) h
    · refine ww_iconst C (dq dk_Mo_isThere 5 rfl) ic_1 ?_
      refine ww_goto C 16 (dq dk_Mo_isThere 6 rfl) (by decide) ?_
      exact ww_zretL C hR (dq dk_Mo_isThere 8 rfl) (Or.inr rfl) h
abbrev y_Mo_load : MethodName := ⟨"BundleHouseModel", "load", "(I)I"⟩
def dl_Mo_load : List (Nat × Instr × Nat) := [(0, .iconst 0, 1), (1, .istore_n 2, 1), (2, .iconst 3, 1), (3, .istore_n 3, 1), (4, .iload_n 3, 1), (5, .ifCond .lt 32, 3), (8, .iload_n 2, 1), (9, .bipush 8, 2), (11, .ishl, 1), (12, .aload_n 0, 1), (13, .getfield 81, 3), (16, .sipush 1024, 3), (19, .aload_n 0, 1), (20, .getfield 313, 3), (23, .imul, 1), (24, .iload_n 1, 1), (25, .iadd, 1), (26, .iload_n 3, 1), (27, .iadd, 1), (28, .iaload, 1), (29, .ior, 1), (30, .istore_n 2, 1), (31, .iinc 3 (-1), 3), (34, .goto (-30), 3), (37, .iload_n 2, 1), (38, .ireturn, 1)]
set_option maxRecDepth 100000 in
theorem dk_Mo_load : ∀ q ∈ dl_Mo_load, decode prog_14_method_62_code q.1 = .ok q.2 := by decide +kernel
abbrev rm_Mo_load : Room := { frames := 0, cells := 0, slots := 0, locals := 0 }
theorem cw_Mo_load : CWV y_Mo_load prog_14_method_62_code 4 (some .int) 1 := ⟨⟨g_8_14, g_1_13, by decide, by decide, by decide +kernel⟩, g_8_13, gs_7_6⟩
set_option maxHeartbeats 4000000 in
set_option maxRecDepth 100000 in
theorem t_Mo_load_B4 {k : Cfg} {res : Int32 × St} (C : Cx k prog_14_method_62_code "BundleHouseModel") (hR : RI k .int res) (hRm : k.2.2.2.1 = rm_Mo_load) (hnL : k.2.2.2.2.2.2.2.2.2.2.2.1 = 4) : ∀ (n : Nat) (v0 : Nat) (v1 : Int32) (v2 : Int32) (v3 : Int32) (ho_v0 : kd v0 = 12) (σ : St), Mo_load_B4 n v0 v1 v2 v3 σ = some res → WW k 4 [(0, .ref (ad k v0)), (1, .int v1), (2, .int v2), (3, .int v3)] [] σ := by
  intro n
  induction n with
  | zero =>
    intro v0 v1 v2 v3 ho_v0 σ h
    have h : (none : Option (Int32 × St)) = some res := h
    cases h
  | succ n ih =>
    intro v0 v1 v2 v3 ho_v0 σ h
    unfold Mo_load_B4 at h
    refine ww_iload_n C 3 rfl rfl (dq dk_Mo_load 4 rfl) ?_
    refine ww_if_lt C 37 (dq dk_Mo_load 5 rfl) (by decide) h (fun h => ?_) (fun h => ?_)
    · refine ww_iload_n C 2 rfl rfl (dq dk_Mo_load 24 rfl) ?_
      exact ww_iret C hR (dq dk_Mo_load 25 rfl) h
    · refine ww_iload_n C 2 rfl rfl (dq dk_Mo_load 6 rfl) ?_
      refine ww_bipush C (dq dk_Mo_load 7 rfl) bp_8 ?_
      refine ww_ishl C (dq dk_Mo_load 8 rfl) ?_
      refine ww_aload_n C 0 rfl rfl (dq dk_Mo_load 9 rfl) ?_
      refine ww_getr C ko_Mo 33 ho_v0 (lt_ rfl) g_6_83 rfl rfl (dq dk_Mo_load 10 rfl) ?_
      refine ww_sipush C (dq dk_Mo_load 11 rfl) sp_1024 ?_
      refine ww_aload_n C 0 rfl rfl (dq dk_Mo_load 12 rfl) ?_
      refine ww_geti C ko_Mo 42 ho_v0 (lt_ rfl) g_6_92 rfl rfl (dq dk_Mo_load 13 rfl) ?_
      refine ww_imul C (dq dk_Mo_load 14 rfl) ?_
      refine ww_iload_n C 1 rfl rfl (dq dk_Mo_load 15 rfl) ?_
      refine ww_iadd C (dq dk_Mo_load 16 rfl) ?_
      refine ww_iload_n C 3 rfl rfl (dq dk_Mo_load 17 rfl) ?_
      refine ww_iadd C (dq dk_Mo_load 18 rfl) ?_
      refine ww_iald C (kc_Mo_33 _ ho_v0).1 (kc_Mo_33 _ ho_v0).2 (dq dk_Mo_load 19 rfl) h (fun x1 h => ?_)
      refine ww_ior C (dq dk_Mo_load 20 rfl) ?_
      refine ww_nmi h (fun x2 h => ?_)
      refine ww_istore_n C [(2, .int x2), (0, .ref (ad k v0)), (1, .int v1), (3, .int v3)] rfl hnL (lt_ rfl) rfl (dq dk_Mo_load 21 rfl) ?_
      refine ww_iinc C 3 (fun z => [(3, .int z), (2, .int x2), (0, .ref (ad k v0)), (1, .int v1)]) rfl ic_m1 hnL (lt_ rfl) (fun _ => rfl) (dq dk_Mo_load 22 rfl) h (fun x3 h => ?_)
      refine ww_goto C 4 (dq dk_Mo_load 23 rfl) (by decide) ?_
      exact ww_lv [2, 3, 1, 0] rfl (ih v0 v1 x2 x3 ho_v0 σ h)
set_option maxHeartbeats 4000000 in
set_option maxRecDepth 100000 in
theorem c_Mo_load (v0 : Nat) (ho_v0 : kd v0 = 12) (v1 : Int32) : MI y_Mo_load rm_Mo_load prog_14_method_62_code 4 .int (fun a => [.ref (a v0), .int v1]) (Mo_load v0 v1) := by
  refine mi_of (by decide) (fun _ => le_ rfl) ?_
  intro k res σ C hR hRm hnL h
  unfold Mo_load at h
  show WW k 0 [(0, .ref (ad k v0)), (1, .int v1)] [] σ
  refine ww_iconst C (dq dk_Mo_load 0 rfl) ic_0 ?_
  refine ww_istore_n C [(2, .int 0), (0, .ref (ad k v0)), (1, .int v1)] rfl hnL (lt_ rfl) rfl (dq dk_Mo_load 1 rfl) ?_
  refine ww_iconst C (dq dk_Mo_load 2 rfl) ic_3 ?_
  refine ww_istore_n C [(3, .int 3), (2, .int 0), (0, .ref (ad k v0)), (1, .int v1)] rfl hnL (lt_ rfl) rfl (dq dk_Mo_load 3 rfl) ?_
  exact ww_lv [2, 3, 1, 0] rfl (t_Mo_load_B4 C hR hRm hnL FU v0 v1 0 3 ho_v0 σ h)
abbrev y_Mo_store : MethodName := ⟨"BundleHouseModel", "store", "(II)V"⟩
def dl_Mo_store : List (Nat × Instr × Nat) := [(0, .iconst 0, 1), (1, .istore_n 3, 1), (2, .iload_n 3, 1), (3, .iconst 4, 1), (4, .if_icmp .ge 36, 3), (7, .aload_n 0, 1), (8, .getfield 81, 3), (11, .sipush 1024, 3), (14, .aload_n 0, 1), (15, .getfield 313, 3), (18, .imul, 1), (19, .iload_n 1, 1), (20, .iadd, 1), (21, .iload_n 3, 1), (22, .iadd, 1), (23, .iload_n 2, 1), (24, .bipush 8, 2), (26, .iload_n 3, 1), (27, .imul, 1), (28, .ishr, 1), (29, .sipush 255, 3), (32, .iand, 1), (33, .iastore, 1), (34, .iinc 3 1, 3), (37, .goto (-35), 3), (40, .return_, 1)]
set_option maxRecDepth 100000 in
theorem dk_Mo_store : ∀ q ∈ dl_Mo_store, decode prog_14_method_63_code q.1 = .ok q.2 := by decide +kernel
abbrev rm_Mo_store : Room := { frames := 0, cells := 0, slots := 0, locals := 0 }
theorem cw_Mo_store : CWV y_Mo_store prog_14_method_63_code 4 none 2 := ⟨⟨g_8_42, g_1_13, by decide, by decide, by decide +kernel⟩, g_8_41, gs_7_13⟩
set_option maxHeartbeats 4000000 in
set_option maxRecDepth 100000 in
theorem t_Mo_store_B2 {k : Cfg} {res : St} (C : Cx k prog_14_method_63_code "BundleHouseModel") (hR : RV k res) (hRm : k.2.2.2.1 = rm_Mo_store) (hnL : k.2.2.2.2.2.2.2.2.2.2.2.1 = 4) : ∀ (n : Nat) (v0 : Nat) (v1 : Int32) (v2 : Int32) (v3 : Int32) (ho_v0 : kd v0 = 12) (σ : St), Mo_store_B2 n v0 v1 v2 v3 σ = some res → WW k 2 [(0, .ref (ad k v0)), (1, .int v1), (2, .int v2), (3, .int v3)] [] σ := by
  intro n
  induction n with
  | zero =>
    intro v0 v1 v2 v3 ho_v0 σ h
    have h : (none : Option (St)) = some res := h
    cases h
  | succ n ih =>
    intro v0 v1 v2 v3 ho_v0 σ h
    unfold Mo_store_B2 at h
    refine ww_iload_n C 3 rfl rfl (dq dk_Mo_store 2 rfl) ?_
    refine ww_iconst C (dq dk_Mo_store 3 rfl) ic_4 ?_
    refine ww_icmp_ge C 40 (dq dk_Mo_store 4 rfl) (by decide) h (fun h => ?_) (fun h => ?_)
    · exact ww_vret C hR (dq dk_Mo_store 25 rfl) h
    · refine ww_aload_n C 0 rfl rfl (dq dk_Mo_store 5 rfl) ?_
      refine ww_getr C ko_Mo 33 ho_v0 (lt_ rfl) g_6_83 rfl rfl (dq dk_Mo_store 6 rfl) ?_
      refine ww_sipush C (dq dk_Mo_store 7 rfl) sp_1024 ?_
      refine ww_aload_n C 0 rfl rfl (dq dk_Mo_store 8 rfl) ?_
      refine ww_geti C ko_Mo 42 ho_v0 (lt_ rfl) g_6_92 rfl rfl (dq dk_Mo_store 9 rfl) ?_
      refine ww_imul C (dq dk_Mo_store 10 rfl) ?_
      refine ww_iload_n C 1 rfl rfl (dq dk_Mo_store 11 rfl) ?_
      refine ww_iadd C (dq dk_Mo_store 12 rfl) ?_
      refine ww_iload_n C 3 rfl rfl (dq dk_Mo_store 13 rfl) ?_
      refine ww_iadd C (dq dk_Mo_store 14 rfl) ?_
      refine ww_iload_n C 2 rfl rfl (dq dk_Mo_store 15 rfl) ?_
      refine ww_bipush C (dq dk_Mo_store 16 rfl) bp_8 ?_
      refine ww_iload_n C 3 rfl rfl (dq dk_Mo_store 17 rfl) ?_
      refine ww_imul C (dq dk_Mo_store 18 rfl) ?_
      refine ww_ishr C (dq dk_Mo_store 19 rfl) ?_
      refine ww_sipush C (dq dk_Mo_store 20 rfl) sp_255 ?_
      refine ww_iand C (dq dk_Mo_store 21 rfl) ?_
      refine ww_iast C (kc_Mo_33 _ ho_v0).1 (kc_Mo_33 _ ho_v0).2 (dq dk_Mo_store 22 rfl) h (fun σ1 h => ?_)
      refine ww_iinc C 3 (fun z => [(3, .int z), (0, .ref (ad k v0)), (1, .int v1), (2, .int v2)]) rfl ic_1 hnL (lt_ rfl) (fun _ => rfl) (dq dk_Mo_store 23 rfl) h (fun x2 h => ?_)
      refine ww_goto C 2 (dq dk_Mo_store 24 rfl) (by decide) ?_
      exact ww_lv [1, 2, 3, 0] rfl (ih v0 v1 v2 x2 ho_v0 σ1 h)
set_option maxHeartbeats 4000000 in
set_option maxRecDepth 100000 in
theorem c_Mo_store (v0 : Nat) (ho_v0 : kd v0 = 12) (v1 : Int32) (v2 : Int32) : MV y_Mo_store rm_Mo_store prog_14_method_63_code 4 (fun a => [.ref (a v0), .int v1, .int v2]) (Mo_store v0 v1 v2) := by
  refine mv_of (by decide) (fun _ => le_ rfl) ?_
  intro k res σ C hR hRm hnL h
  unfold Mo_store at h
  show WW k 0 [(0, .ref (ad k v0)), (1, .int v1), (2, .int v2)] [] σ
  refine ww_iconst C (dq dk_Mo_store 0 rfl) ic_0 ?_
  refine ww_istore_n C [(3, .int 0), (0, .ref (ad k v0)), (1, .int v1), (2, .int v2)] rfl hnL (lt_ rfl) rfl (dq dk_Mo_store 1 rfl) ?_
  exact ww_lv [1, 2, 3, 0] rfl (t_Mo_store_B2 C hR hRm hnL FU v0 v1 v2 0 ho_v0 σ h)
abbrev y_Mo_place1 : MethodName := ⟨"BundleHouseModel", "place1", "(II)I"⟩
def dl_Mo_place1 : List (Nat × Instr × Nat) := [(0, .iload_n 1, 1), (1, .bipush 15, 2), (3, .iand, 1), (4, .istore_n 3, 1), (5, .iload_n 1, 1), (6, .iconst 4, 1), (7, .ishr, 1), (8, .bipush 15, 2), (10, .iand, 1), (11, .istore 4, 2), (13, .iload_n 3, 1), (14, .bipush 8, 2), (16, .if_icmp .ge 11, 3), (19, .aload_n 0, 1), (20, .iload_n 3, 1), (21, .invokevirtual 319, 3), (24, .goto 4, 3), (27, .iconst 0, 1), (28, .iload 4, 2), (30, .bipush 8, 2), (32, .if_icmp .ge 17, 3), (35, .aload_n 0, 1), (36, .iload 4, 2), (38, .invokevirtual 319, 3), (41, .iload_n 1, 1), (42, .bipush 8, 2), (44, .ishr, 1), (45, .ishl, 1), (46, .goto 4, 3), (49, .iconst 0, 1), (50, .iadd, 1), (51, .iload_n 2, 1), (52, .iadd, 1), (53, .ireturn, 1)]
set_option maxRecDepth 100000 in
theorem dk_Mo_place1 : ∀ q ∈ dl_Mo_place1, decode prog_14_method_64_code q.1 = .ok q.2 := by decide +kernel
abbrev rm_Mo_place1 : Room := { frames := 1, cells := 0, slots := 0, locals := 21 }
theorem cw_Mo_place1 : CWV y_Mo_place1 prog_14_method_64_code 5 (some .int) 2 := ⟨⟨g_8_30, g_1_13, by decide, by decide, by decide +kernel⟩, g_8_29, gs_7_10⟩
set_option maxHeartbeats 4000000 in
set_option maxRecDepth 100000 in
theorem t_Mo_place1_B28 {k : Cfg} {res : Int32 × St} (C : Cx k prog_14_method_64_code "BundleHouseModel") (hR : RI k .int res) (hRm : k.2.2.2.1 = rm_Mo_place1) (hnL : k.2.2.2.2.2.2.2.2.2.2.2.1 = 5) (v0 : Nat) (v1 : Int32) (v2 : Int32) (v4 : Int32) (t0 : Int32) (ho_v0 : kd v0 = 12) (σ : St) (h : Mo_place1_B28 v0 v1 v2 v4 t0 σ = some res) : WW k 28 [(0, .ref (ad k v0)), (1, .int v1), (2, .int v2), (4, .int v4)] [.int t0] σ := by
  unfold Mo_place1_B28 at h
  refine ww_iload C 3 rfl (dq dk_Mo_place1 18 rfl) ?_
  refine ww_bipush C (dq dk_Mo_place1 19 rfl) bp_8 ?_
  refine ww_icmp_ge C 49 (dq dk_Mo_place1 20 rfl) (by decide) h (fun h => ?_) (fun h => ?_)
  · refine ww_iconst C (dq dk_Mo_place1 29 rfl) ic_0 ?_
    refine ww_iadd C (dq dk_Mo_place1 30 rfl) ?_
    refine ww_iload_n C 2 rfl rfl (dq dk_Mo_place1 31 rfl) ?_
    refine ww_iadd C (dq dk_Mo_place1 32 rfl) ?_
    exact ww_iret C hR (dq dk_Mo_place1 33 rfl) h
  · refine ww_aload_n C 0 rfl rfl (dq dk_Mo_place1 21 rfl) ?_
    refine ww_iload C 3 rfl (dq dk_Mo_place1 22 rfl) ?_
    refine ww_cVi (st := [.int t0]) C (c_Mo_reg v0 ho_v0 v4) cw_Mo_reg ho_v0 (lt_ rfl) rfl g_7_232 hRm ⟨⟨rfl, rfl⟩, le_ rfl, le_ rfl⟩ rfl rfl rfl (le_ rfl) (dq dk_Mo_place1 23 rfl) h (fun x2 σ1 h => ?_)
    refine ww_iload_n C 1 rfl rfl (dq dk_Mo_place1 24 rfl) ?_
    refine ww_bipush C (dq dk_Mo_place1 25 rfl) bp_8 ?_
    refine ww_ishr C (dq dk_Mo_place1 26 rfl) ?_
    refine ww_ishl C (dq dk_Mo_place1 27 rfl) ?_
    refine ww_goto C 50 (dq dk_Mo_place1 28 rfl) (by decide) ?_
    refine ww_iadd C (dq dk_Mo_place1 30 rfl) ?_
    refine ww_iload_n C 2 rfl rfl (dq dk_Mo_place1 31 rfl) ?_
    refine ww_iadd C (dq dk_Mo_place1 32 rfl) ?_
    exact ww_iret C hR (dq dk_Mo_place1 33 rfl) h
set_option maxHeartbeats 4000000 in
set_option maxRecDepth 100000 in
theorem c_Mo_place1 (v0 : Nat) (ho_v0 : kd v0 = 12) (v1 : Int32) (v2 : Int32) : MI y_Mo_place1 rm_Mo_place1 prog_14_method_64_code 5 .int (fun a => [.ref (a v0), .int v1, .int v2]) (Mo_place1 v0 v1 v2) := by
  refine mi_of (by decide) (fun _ => le_ rfl) ?_
  intro k res σ C hR hRm hnL h
  unfold Mo_place1 at h
  show WW k 0 [(0, .ref (ad k v0)), (1, .int v1), (2, .int v2)] [] σ
  refine ww_iload_n C 1 rfl rfl (dq dk_Mo_place1 0 rfl) ?_
  refine ww_bipush C (dq dk_Mo_place1 1 rfl) bp_15 ?_
  refine ww_iand C (dq dk_Mo_place1 2 rfl) ?_
  refine ww_nmi h (fun x1 h => ?_)
  refine ww_istore_n C [(3, .int x1), (0, .ref (ad k v0)), (1, .int v1), (2, .int v2)] rfl hnL (lt_ rfl) rfl (dq dk_Mo_place1 3 rfl) ?_
  refine ww_iload_n C 2 rfl rfl (dq dk_Mo_place1 4 rfl) ?_
  refine ww_iconst C (dq dk_Mo_place1 5 rfl) ic_4 ?_
  refine ww_ishr C (dq dk_Mo_place1 6 rfl) ?_
  refine ww_bipush C (dq dk_Mo_place1 7 rfl) bp_15 ?_
  refine ww_iand C (dq dk_Mo_place1 8 rfl) ?_
  refine ww_nmi h (fun x2 h => ?_)
  refine ww_istore C [(4, .int x2), (3, .int x1), (0, .ref (ad k v0)), (1, .int v1), (2, .int v2)] hnL (lt_ rfl) rfl (dq dk_Mo_place1 9 rfl) ?_
  refine ww_iload_n C 1 rfl rfl (dq dk_Mo_place1 10 rfl) ?_
  refine ww_bipush C (dq dk_Mo_place1 11 rfl) bp_8 ?_
  refine ww_icmp_ge C 27 (dq dk_Mo_place1 12 rfl) (by decide) h (fun h => ?_) (fun h => ?_)
  · refine ww_iconst C (dq dk_Mo_place1 17 rfl) ic_0 ?_
    exact ww_lv [2, 3, 4, 0] rfl (t_Mo_place1_B28 C hR hRm hnL v0 v1 v2 x2 0 ho_v0 σ h)
  · refine ww_aload_n C 2 rfl rfl (dq dk_Mo_place1 13 rfl) ?_
    refine ww_iload_n C 1 rfl rfl (dq dk_Mo_place1 14 rfl) ?_
    refine ww_cVi (st := []) C (c_Mo_reg v0 ho_v0 x1) cw_Mo_reg ho_v0 (lt_ rfl) rfl g_7_232 hRm ⟨⟨rfl, rfl⟩, le_ rfl, le_ rfl⟩ rfl rfl rfl (le_ rfl) (dq dk_Mo_place1 15 rfl) h (fun x4 σ3 h => ?_)
    refine ww_goto C 28 (dq dk_Mo_place1 16 rfl) (by decide) ?_
    exact ww_lv [2, 3, 4, 0] rfl (t_Mo_place1_B28 C hR hRm hnL v0 v1 v2 x2 x4 ho_v0 σ3 h)
