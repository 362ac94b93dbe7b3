abbrev y_Mo_serves : MethodName := ⟨"BundleHouseModel", "serves", "(I)V"⟩
def dl_Mo_serves : List (Nat × Instr × Nat) := [(0, .iload_n 1, 1), (1, .bipush 16, 2), (3, .if_icmp .ne 46, 3), (6, .aload_n 0, 1), (7, .getfield 84, 3), (10, .bipush 100, 2), (12, .aload_n 0, 1), (13, .getfield 313, 3), (16, .imul, 1), (17, .aload_n 0, 1), (18, .getfield 87, 3), (21, .aload_n 0, 1), (22, .getfield 313, 3), (25, .iaload, 1), (26, .iadd, 1), (27, .aload_n 0, 1), (28, .iconst 3, 1), (29, .invokevirtual 319, 3), (32, .iastore, 1), (33, .aload_n 0, 1), (34, .getfield 87, 3), (37, .aload_n 0, 1), (38, .getfield 313, 3), (41, .dup2, 1), (42, .iaload, 1), (43, .iconst 1, 1), (44, .iadd, 1), (45, .iastore, 1), (46, .goto 80, 3), (49, .iload_n 1, 1), (50, .bipush 32, 2), (52, .if_icmp .ne 60, 3), (55, .aload_n 0, 1), (56, .iconst 0, 1), (57, .aload_n 0, 1), (58, .getfield 322, 3), (61, .aload_n 0, 1), (62, .getfield 310, 3), (65, .if_icmp .ge 15, 3), (68, .aload_n 0, 1), (69, .getfield 69, 3), (72, .aload_n 0, 1), (73, .getfield 322, 3), (76, .iaload, 1), (77, .goto 4, 3), (80, .iconst 0, 1), (81, .invokevirtual 375, 3), (84, .aload_n 0, 1), (85, .dup, 1), (86, .getfield 322, 3), (89, .aload_n 0, 1), (90, .getfield 322, 3), (93, .aload_n 0, 1), (94, .getfield 310, 3), (97, .if_icmp .ge 7, 3), (100, .iconst 1, 1), (101, .goto 4, 3), (104, .iconst 0, 1), (105, .iadd, 1), (106, .putfield 322, 3), (109, .goto 17, 3), (112, .aload_n 0, 1), (113, .iconst 0, 1), (114, .aload_n 0, 1), (115, .getfield 87, 3), (118, .aload_n 0, 1), (119, .getfield 313, 3), (122, .iaload, 1), (123, .invokevirtual 375, 3), (126, .return_, 1)]
set_option maxRecDepth 100000 in
theorem dk_Mo_serves : ∀ q ∈ dl_Mo_serves, decode prog_14_method_80_code q.1 = .ok q.2 := by decide +kernel
abbrev rm_Mo_serves : Room := { frames := 1, cells := 0, slots := 0, locals := 22 }
theorem cw_Mo_serves : CWV y_Mo_serves prog_14_method_80_code 2 none 1 := ⟨⟨g_8_2, g_1_13, by decide, by decide, by decide +kernel⟩, g_8_1, gs_7_3⟩
set_option maxHeartbeats 4000000 in
set_option maxRecDepth 100000 in
theorem t_Mo_serves_B81 {k : Cfg} {res : St} (C : Cx k prog_14_method_80_code "BundleHouseModel") (hR : RV k res) (hRm : k.2.2.2.1 = rm_Mo_serves) (hnL : k.2.2.2.2.2.2.2.2.2.2.2.1 = 2) (v0 : Nat) (t0 : Nat) (t1 : Int32) (t2 : Int32) (ho_v0 : kd v0 = 12) (ho_t0 : kd t0 = 12) (σ : St) (h : Mo_serves_B81 v0 t0 t1 t2 σ = some res) : WW k 81 [(0, .ref (ad k v0))] [.int t2, .int t1, .ref (ad k t0)] σ := by
  unfold Mo_serves_B81 at h
  refine ww_cVv (st := []) C (c_Mo_setReg t0 ho_t0 t1 t2) cw_Mo_setReg ho_t0 (lt_ rfl) rfl g_8_3 hRm ⟨⟨rfl, rfl⟩, le_ rfl, le_ rfl⟩ rfl rfl rfl (le_ rfl) (dq dk_Mo_serves 46 rfl) h (fun σ1 h => ?_)
  refine ww_aload_n C 0 rfl rfl (dq dk_Mo_serves 47 rfl) ?_
  refine ww_dup C rfl (dq dk_Mo_serves 48 rfl) ?_
  refine ww_geti C ko_Mo 41 ho_v0 (lt_ rfl) g_6_91 rfl rfl (dq dk_Mo_serves 49 rfl) ?_
  refine ww_aload_n C 0 rfl rfl (dq dk_Mo_serves 50 rfl) ?_
  refine ww_geti C ko_Mo 41 ho_v0 (lt_ rfl) g_6_91 rfl rfl (dq dk_Mo_serves 51 rfl) ?_
  refine ww_aload_n C 0 rfl rfl (dq dk_Mo_serves 52 rfl) ?_
  refine ww_geti C ko_Mo 29 ho_v0 (lt_ rfl) g_6_79 rfl rfl (dq dk_Mo_serves 53 rfl) ?_
  refine ww_icmp_ge C 104 (dq dk_Mo_serves 54 rfl) (by decide) h (fun h => ?_) (fun h => ?_)
  · refine ww_iconst C (dq dk_Mo_serves 57 rfl) ic_0 ?_
    refine ww_iadd C (dq dk_Mo_serves 58 rfl) ?_
    refine ww_puti C ko_Mo 41 ho_v0 (lt_ rfl) g_6_91 rfl rfl rfl rfl (dq dk_Mo_serves 59 rfl) h (fun σ2 h => ?_)
    refine ww_goto C 126 (dq dk_Mo_serves 60 rfl) (by decide) ?_
    exact ww_vret C hR (dq dk_Mo_serves 69 rfl) h
  · refine ww_iconst C (dq dk_Mo_serves 55 rfl) ic_1 ?_
    refine ww_goto C 105 (dq dk_Mo_serves 56 rfl) (by decide) ?_
    refine ww_iadd C (dq dk_Mo_serves 58 rfl) ?_
    refine ww_puti C ko_Mo 41 ho_v0 (lt_ rfl) g_6_91 rfl rfl rfl rfl (dq dk_Mo_serves 59 rfl) h (fun σ3 h => ?_)
    refine ww_goto C 126 (dq dk_Mo_serves 60 rfl) (by decide) ?_
    exact ww_vret C hR (dq dk_Mo_serves 69 rfl) h
set_option maxHeartbeats 4000000 in
set_option maxRecDepth 100000 in
theorem c_Mo_serves (v0 : Nat) (ho_v0 : kd v0 = 12) (v1 : Int32) : MV y_Mo_serves rm_Mo_serves prog_14_method_80_code 2 (fun a => [.ref (a v0), .int v1]) (Mo_serves v0 v1) := by
  refine mv_of (by decide) (fun _ => le_ rfl) ?_
  intro k res σ C hR hRm hnL h
  unfold Mo_serves at h
  show WW k 0 [(0, .ref (ad k v0)), (1, .int v1)] [] σ
  refine ww_iload_n C 1 rfl rfl (dq dk_Mo_serves 0 rfl) ?_
  refine ww_bipush C (dq dk_Mo_serves 1 rfl) bp_16 ?_
  refine ww_icmp_ne C 49 (dq dk_Mo_serves 2 rfl) (by decide) h (fun h => ?_) (fun h => ?_)
  · refine ww_iload_n C 1 rfl rfl (dq dk_Mo_serves 29 rfl) ?_
    refine ww_bipush C (dq dk_Mo_serves 30 rfl) bp_32 ?_
    refine ww_icmp_ne C 112 (dq dk_Mo_serves 31 rfl) (by decide) h (fun h => ?_) (fun h => ?_)
    · refine ww_aload_n C 0 rfl rfl (dq dk_Mo_serves 61 rfl) ?_
      refine ww_iconst C (dq dk_Mo_serves 62 rfl) ic_0 ?_
      refine ww_aload_n C 0 rfl rfl (dq dk_Mo_serves 63 rfl) ?_
      refine ww_getr C ko_Mo 35 ho_v0 (lt_ rfl) g_6_85 rfl rfl (dq dk_Mo_serves 64 rfl) ?_
      refine ww_aload_n C 0 rfl rfl (dq dk_Mo_serves 65 rfl) ?_
      refine ww_geti C ko_Mo 42 ho_v0 (lt_ rfl) g_6_92 rfl rfl (dq dk_Mo_serves 66 rfl) ?_
      refine ww_iald C (kc_Mo_35 _ ho_v0).1 (kc_Mo_35 _ ho_v0).2 (dq dk_Mo_serves 67 rfl) h (fun x1 h => ?_)
      refine ww_cVv (st := []) C (c_Mo_setReg v0 ho_v0 0 x1) cw_Mo_setReg ho_v0 (lt_ rfl) rfl g_8_3 hRm ⟨⟨rfl, rfl⟩, le_ rfl, le_ rfl⟩ rfl rfl rfl (le_ rfl) (dq dk_Mo_serves 68 rfl) h (fun σ2 h => ?_)
      exact ww_vret C hR (dq dk_Mo_serves 69 rfl) h
    · refine ww_aload_n C 0 rfl rfl (dq dk_Mo_serves 32 rfl) ?_
      refine ww_iconst C (dq dk_Mo_serves 33 rfl) ic_0 ?_
      refine ww_aload_n C 0 rfl rfl (dq dk_Mo_serves 34 rfl) ?_
      refine ww_geti C ko_Mo 41 ho_v0 (lt_ rfl) g_6_91 rfl rfl (dq dk_Mo_serves 35 rfl) ?_
      refine ww_aload_n C 0 rfl rfl (dq dk_Mo_serves 36 rfl) ?_
      refine ww_geti C ko_Mo 29 ho_v0 (lt_ rfl) g_6_79 rfl rfl (dq dk_Mo_serves 37 rfl) ?_
      refine ww_icmp_ge C 80 (dq dk_Mo_serves 38 rfl) (by decide) h (fun h => ?_) (fun h => ?_)
      · refine ww_iconst C (dq dk_Mo_serves 45 rfl) ic_0 ?_
        exact ww_lv [0] rfl (t_Mo_serves_B81 C hR hRm hnL v0 v0 0 0 ho_v0 ho_v0 σ h)
      · refine ww_aload_n C 0 rfl rfl (dq dk_Mo_serves 39 rfl) ?_
        refine ww_getr C ko_Mo 28 ho_v0 (lt_ rfl) g_6_78 rfl rfl (dq dk_Mo_serves 40 rfl) ?_
        refine ww_aload_n C 0 rfl rfl (dq dk_Mo_serves 41 rfl) ?_
        refine ww_geti C ko_Mo 41 ho_v0 (lt_ rfl) g_6_91 rfl rfl (dq dk_Mo_serves 42 rfl) ?_
        refine ww_iald C (kc_Mo_28 _ ho_v0).1 (kc_Mo_28 _ ho_v0).2 (dq dk_Mo_serves 43 rfl) h (fun x3 h => ?_)
        refine ww_goto C 81 (dq dk_Mo_serves 44 rfl) (by decide) ?_
        exact ww_lv [0] rfl (t_Mo_serves_B81 C hR hRm hnL v0 v0 0 x3 ho_v0 ho_v0 σ h)
  · refine ww_aload_n C 0 rfl rfl (dq dk_Mo_serves 3 rfl) ?_
    refine ww_getr C ko_Mo 34 ho_v0 (lt_ rfl) g_6_84 rfl rfl (dq dk_Mo_serves 4 rfl) ?_
    refine ww_bipush C (dq dk_Mo_serves 5 rfl) bp_100 ?_
    refine ww_aload_n C 0 rfl rfl (dq dk_Mo_serves 6 rfl) ?_
    refine ww_geti C ko_Mo 42 ho_v0 (lt_ rfl) g_6_92 rfl rfl (dq dk_Mo_serves 7 rfl) ?_
    refine ww_imul C (dq dk_Mo_serves 8 rfl) ?_
    refine ww_aload_n C 0 rfl rfl (dq dk_Mo_serves 9 rfl) ?_
    refine ww_getr C ko_Mo 35 ho_v0 (lt_ rfl) g_6_85 rfl rfl (dq dk_Mo_serves 10 rfl) ?_
    refine ww_aload_n C 0 rfl rfl (dq dk_Mo_serves 11 rfl) ?_
    refine ww_geti C ko_Mo 42 ho_v0 (lt_ rfl) g_6_92 rfl rfl (dq dk_Mo_serves 12 rfl) ?_
    refine ww_iald C (kc_Mo_35 _ ho_v0).1 (kc_Mo_35 _ ho_v0).2 (dq dk_Mo_serves 13 rfl) h (fun x4 h => ?_)
    refine ww_iadd C (dq dk_Mo_serves 14 rfl) ?_
    refine ww_aload_n C 0 rfl rfl (dq dk_Mo_serves 15 rfl) ?_
    refine ww_iconst C (dq dk_Mo_serves 16 rfl) ic_3 ?_
    refine ww_cVi (st := [.int ((100 * (σ v0 42)) + x4), .ref (ad k (ch v0 34))]) C (c_Mo_reg v0 ho_v0 3) cw_Mo_reg ho_v0 (lt_ rfl) rfl g_7_232 hRm ⟨⟨rfl, rfl⟩, le_ rfl, le_ rfl⟩ rfl rfl rfl (le_ rfl) (dq dk_Mo_serves 17 rfl) h (fun x6 σ5 h => ?_)
    refine ww_iast C (kc_Mo_34 _ ho_v0).1 (kc_Mo_34 _ ho_v0).2 (dq dk_Mo_serves 18 rfl) h (fun σ7 h => ?_)
    refine ww_aload_n C 0 rfl rfl (dq dk_Mo_serves 19 rfl) ?_
    refine ww_getr C ko_Mo 35 ho_v0 (lt_ rfl) g_6_85 rfl rfl (dq dk_Mo_serves 20 rfl) ?_
    refine ww_aload_n C 0 rfl rfl (dq dk_Mo_serves 21 rfl) ?_
    refine ww_geti C ko_Mo 42 ho_v0 (lt_ rfl) g_6_92 rfl rfl (dq dk_Mo_serves 22 rfl) ?_
    refine ww_nmi h (fun x8 h => ?_)
    refine ww_dup2 C rfl rfl (dq dk_Mo_serves 23 rfl) ?_
    refine ww_iald C (kc_Mo_35 _ ho_v0).1 (kc_Mo_35 _ ho_v0).2 (dq dk_Mo_serves 24 rfl) h (fun x9 h => ?_)
    refine ww_iconst C (dq dk_Mo_serves 25 rfl) ic_1 ?_
    refine ww_iadd C (dq dk_Mo_serves 26 rfl) ?_
    refine ww_iast C (kc_Mo_35 _ ho_v0).1 (kc_Mo_35 _ ho_v0).2 (dq dk_Mo_serves 27 rfl) h (fun σ10 h => ?_)
    refine ww_goto C 126 (dq dk_Mo_serves 28 rfl) (by decide) ?_
    exact ww_vret C hR (dq dk_Mo_serves 69 rfl) h
abbrev y_Mo_step : MethodName := ⟨"BundleHouseModel", "step", "()I"⟩
def dl_Mo_step : List (Nat × Instr × Nat) := [(0, .aload_n 0, 1), (1, .getfield 90, 3), (4, .iconst 0, 1), (5, .iaload, 1), (6, .istore_n 1, 1), (7, .iload_n 1, 1), (8, .ifCond .ne 15, 3), (11, .aload_n 0, 1), (12, .getfield 93, 3), (15, .iconst 0, 1), (16, .dup2, 1), (17, .iaload, 1), (18, .iconst 1, 1), (19, .iadd, 1), (20, .iastore, 1), (21, .iconst 2, 1), (22, .ireturn, 1), (23, .iload_n 1, 1), (24, .invokestatic 191, 3), (27, .ifCond .eq 66, 3), (30, .aload_n 0, 1), (31, .iconst 4, 1), (32, .invokevirtual 319, 3), (35, .invokestatic 356, 3), (38, .ifCond .ne 5, 3), (41, .iconst 3, 1), (42, .ireturn, 1), (43, .iload_n 1, 1), (44, .bipush 16, 2), (46, .if_icmp .ne 17, 3), (49, .aload_n 0, 1), (50, .getfield 87, 3), (53, .iconst 0, 1), (54, .iaload, 1), (55, .bipush 100, 2), (57, .if_icmp .ne 6, 3), (60, .bipush 6, 2), (62, .ireturn, 1), (63, .aload_n 0, 1), (64, .iload_n 1, 1), (65, .invokevirtual 402, 3), (68, .aload_n 0, 1), (69, .getfield 90, 3), (72, .iconst 0, 1), (73, .aload_n 0, 1), (74, .invokevirtual 390, 3), (77, .bipush (-16), 2), (79, .iand, 1), (80, .iastore, 1), (81, .aload_n 0, 1), (82, .getfield 93, 3), (85, .iconst 0, 1), (86, .dup2, 1), (87, .iaload, 1), (88, .iconst 1, 1), (89, .iadd, 1), (90, .iastore, 1), (91, .iconst (-1), 1), (92, .ireturn, 1), (93, .iload_n 1, 1), (94, .sipush 256, 3), (97, .isub, 1), (98, .istore_n 2, 1), (99, .iload_n 1, 1), (100, .sipush 256, 3), (103, .if_icmp .lt 11, 3), (106, .iload_n 2, 1), (107, .aload_n 0, 1), (108, .getfield 205, 3), (111, .if_icmp .lt 5, 3), (114, .iconst 4, 1), (115, .ireturn, 1), (116, .aload_n 0, 1), (117, .aload_n 0, 1), (118, .getfield 17, 3), (121, .aload_n 0, 1), (122, .getfield 205, 3), (125, .iload_n 2, 1), (126, .invokevirtual 187, 3), (129, .istore_n 3, 1), (130, .iload_n 3, 1), (131, .ifCond .ne 5, 3), (134, .iconst 5, 1), (135, .ireturn, 1), (136, .aload_n 0, 1), (137, .aload_n 0, 1), (138, .getfield 144, 3), (141, .aload_n 0, 1), (142, .getfield 147, 3), (145, .aload_n 0, 1), (146, .getfield 153, 3), (149, .aload_n 0, 1), (150, .getfield 132, 3), (153, .aload_n 0, 1), (154, .getfield 141, 3), (157, .aload_n 0, 1), (158, .getfield 160, 3), (161, .invokevirtual 405, 3), (164, .aload_n 0, 1), (165, .invokevirtual 409, 3), (168, .ifCond .eq 5, 3), (171, .iconst 3, 1), (172, .ireturn, 1), (173, .aload_n 0, 1), (174, .getfield 93, 3), (177, .iconst 0, 1), (178, .dup2, 1), (179, .iaload, 1), (180, .iconst 1, 1), (181, .iadd, 1), (182, .iastore, 1), (183, .aload_n 0, 1), (184, .dup, 1), (185, .getfield 325, 3), (188, .aload_n 0, 1), (189, .getfield 20, 3), (192, .iload_n 2, 1), (193, .iaload, 1), (194, .ifCond .ne 7, 3), (197, .iconst 1, 1), (198, .goto 4, 3), (201, .iconst 0, 1), (202, .iadd, 1), (203, .putfield 325, 3), (206, .iload_n 1, 1), (207, .iload_n 3, 1), (208, .iadd, 1), (209, .istore 4, 2), (211, .iload 4, 2), (213, .istore 5, 2), (215, .aload_n 0, 1), (216, .getfield 353, 3), (219, .bipush 22, 2), (221, .if_icmp .ne 5, 3), (224, .iconst 1, 1), (225, .ireturn, 1), (226, .aload_n 0, 1), (227, .getfield 353, 3), (230, .bipush 24, 2), (232, .if_icmp .eq 12, 3), (235, .aload_n 0, 1), (236, .getfield 353, 3), (239, .bipush 26, 2), (241, .if_icmp .ne 12, 3), (244, .iload 4, 2), (246, .aload_n 0, 1), (247, .getfield 381, 3), (250, .iadd, 1), (251, .istore 5, 2), (253, .aload_n 0, 1), (254, .getfield 353, 3), (257, .bipush 25, 2), (259, .if_icmp .ne 23, 3), (262, .aload_n 0, 1), (263, .aload_n 0, 1), (264, .getfield 384, 3), (267, .invokevirtual 412, 3), (270, .ifCond .eq 12, 3), (273, .iload 4, 2), (275, .aload_n 0, 1), (276, .getfield 381, 3), (279, .iadd, 1), (280, .istore 5, 2), (282, .aload_n 0, 1), (283, .getfield 353, 3), (286, .bipush 27, 2), (288, .if_icmp .eq 12, 3), (291, .aload_n 0, 1), (292, .getfield 353, 3), (295, .bipush 28, 2), (297, .if_icmp .ne 13, 3), (300, .aload_n 0, 1), (301, .aload_n 0, 1), (302, .getfield 384, 3), (305, .invokevirtual 319, 3), (308, .istore 5, 2), (310, .aload_n 0, 1), (311, .getfield 353, 3), (314, .bipush 26, 2), (316, .if_icmp .eq 12, 3), (319, .aload_n 0, 1), (320, .getfield 353, 3), (323, .bipush 28, 2), (325, .if_icmp .ne 9, 3), (328, .aload_n 0, 1), (329, .iload 4, 2), (331, .invokevirtual 387, 3), (334, .aload_n 0, 1), (335, .getfield 353, 3), (338, .bipush 23, 2), (340, .if_icmp .ne 9, 3), (343, .aload_n 0, 1), (344, .invokevirtual 390, 3), (347, .istore 5, 2), (349, .aload_n 0, 1), (350, .getfield 353, 3), (353, .bipush 23, 2), (355, .if_icmp .ge 7, 3), (358, .aload_n 0, 1), (359, .invokevirtual 415, 3), (362, .aload_n 0, 1), (363, .getfield 90, 3), (366, .iconst 0, 1), (367, .iload 5, 2), (369, .iastore, 1), (370, .iconst (-1), 1), (371, .ireturn, 1)]
set_option maxRecDepth 100000 in
theorem dk_Mo_step : ∀ q ∈ dl_Mo_step, decode prog_14_method_82_code q.1 = .ok q.2 := by decide +kernel
abbrev rm_Mo_step : Room := { frames := 7, cells := 0, slots := 0, locals := 157 }
theorem cw_Mo_step : CWV y_Mo_step prog_14_method_82_code 6 (some .int) 0 := ⟨⟨g_7_231, g_1_13, by decide, by decide, by decide +kernel⟩, g_7_230, gs_7_1⟩
set_option maxHeartbeats 4000000 in
set_option maxRecDepth 100000 in
theorem t_Mo_step_B63 {k : Cfg} {res : Int32 × St} (C : Cx k prog_14_method_82_code "BundleHouseModel") (hR : RI k .int res) (hRm : k.2.2.2.1 = rm_Mo_step) (hnL : k.2.2.2.2.2.2.2.2.2.2.2.1 = 6) (v0 : Nat) (v1 : Int32) (ho_v0 : kd v0 = 12) (σ : St) (h : Mo_step_B63 v0 v1 σ = some res) : WW k 63 [(0, .ref (ad k v0)), (1, .int v1)] [] σ := by
  unfold Mo_step_B63 at h
  refine ww_aload_n C 0 rfl rfl (dq dk_Mo_step 38 rfl) ?_
  refine ww_iload_n C 1 rfl rfl (dq dk_Mo_step 39 rfl) ?_
  refine ww_cVv (st := []) C (c_Mo_serves v0 ho_v0 v1) cw_Mo_serves ho_v0 (lt_ rfl) rfl g_7_239 hRm ⟨⟨rfl, rfl⟩, le_ rfl, le_ rfl⟩ rfl rfl rfl (le_ rfl) (dq dk_Mo_step 40 rfl) h (fun σ1 h => ?_)
  refine ww_aload_n C 0 rfl rfl (dq dk_Mo_step 41 rfl) ?_
  refine ww_getr C ko_Mo 36 ho_v0 (lt_ rfl) g_6_86 rfl rfl (dq dk_Mo_step 42 rfl) ?_
  refine ww_iconst C (dq dk_Mo_step 43 rfl) ic_0 ?_
  refine ww_aload_n C 0 rfl rfl (dq dk_Mo_step 44 rfl) ?_
  refine ww_cVi (st := [.int 0, .ref (ad k (ch v0 36))]) C (c_Mo_pop v0 ho_v0) cw_Mo_pop ho_v0 (lt_ rfl) rfl g_8_7 hRm ⟨⟨rfl, rfl⟩, le_ rfl, le_ rfl⟩ rfl rfl rfl (le_ rfl) (dq dk_Mo_step 45 rfl) h (fun x3 σ2 h => ?_)
  refine ww_bipush C (dq dk_Mo_step 46 rfl) bp_m16 ?_
  refine ww_iand C (dq dk_Mo_step 47 rfl) ?_
  refine ww_iast C (kc_Mo_36 _ ho_v0).1 (kc_Mo_36 _ ho_v0).2 (dq dk_Mo_step 48 rfl) h (fun σ4 h => ?_)
  refine ww_aload_n C 0 rfl rfl (dq dk_Mo_step 49 rfl) ?_
  refine ww_getr C ko_Mo 37 ho_v0 (lt_ rfl) g_6_87 rfl rfl (dq dk_Mo_step 50 rfl) ?_
  refine ww_iconst C (dq dk_Mo_step 51 rfl) ic_0 ?_
  refine ww_dup2 C rfl rfl (dq dk_Mo_step 52 rfl) ?_
  refine ww_iald C (kc_Mo_37 _ ho_v0).1 (kc_Mo_37 _ ho_v0).2 (dq dk_Mo_step 53 rfl) h (fun x5 h => ?_)
  refine ww_iconst C (dq dk_Mo_step 54 rfl) ic_1 ?_
  refine ww_iadd C (dq dk_Mo_step 55 rfl) ?_
  refine ww_iast C (kc_Mo_37 _ ho_v0).1 (kc_Mo_37 _ ho_v0).2 (dq dk_Mo_step 56 rfl) h (fun σ6 h => ?_)
  refine ww_iconst C (dq dk_Mo_step 57 rfl) ic_m1 ?_
  exact ww_iret C hR (dq dk_Mo_step 58 rfl) h
set_option maxHeartbeats 4000000 in
set_option maxRecDepth 100000 in
theorem t_Mo_step_B349 {k : Cfg} {res : Int32 × St} (C : Cx k prog_14_method_82_code "BundleHouseModel") (hR : RI k .int res) (hRm : k.2.2.2.1 = rm_Mo_step) (hnL : k.2.2.2.2.2.2.2.2.2.2.2.1 = 6) (v0 : Nat) (v5 : Int32) (ho_v0 : kd v0 = 12) (σ : St) (h : Mo_step_B349 v0 v5 σ = some res) : WW k 349 [(0, .ref (ad k v0)), (5, .int v5)] [] σ := by
  unfold Mo_step_B349 at h
  refine ww_aload_n C 0 rfl rfl (dq dk_Mo_step 194 rfl) ?_
  refine ww_geti C ko_Mo 56 ho_v0 (lt_ rfl) g_6_106 rfl rfl (dq dk_Mo_step 195 rfl) ?_
  refine ww_bipush C (dq dk_Mo_step 196 rfl) bp_23 ?_
  refine ww_icmp_ge C 362 (dq dk_Mo_step 197 rfl) (by decide) h (fun h => ?_) (fun h => ?_)
  · refine ww_aload_n C 0 rfl rfl (dq dk_Mo_step 200 rfl) ?_
    refine ww_getr C ko_Mo 36 ho_v0 (lt_ rfl) g_6_86 rfl rfl (dq dk_Mo_step 201 rfl) ?_
    refine ww_iconst C (dq dk_Mo_step 202 rfl) ic_0 ?_
    refine ww_iload C 1 rfl (dq dk_Mo_step 203 rfl) ?_
    refine ww_iast C (kc_Mo_36 _ ho_v0).1 (kc_Mo_36 _ ho_v0).2 (dq dk_Mo_step 204 rfl) h (fun σ1 h => ?_)
    refine ww_iconst C (dq dk_Mo_step 205 rfl) ic_m1 ?_
    exact ww_iret C hR (dq dk_Mo_step 206 rfl) h
  · refine ww_aload_n C 0 rfl rfl (dq dk_Mo_step 198 rfl) ?_
    refine ww_cVv (st := []) C (c_Mo_does v0 ho_v0) cw_Mo_does ho_v0 (lt_ rfl) rfl g_8_43 hRm ⟨⟨rfl, rfl⟩, le_ rfl, le_ rfl⟩ rfl rfl rfl (le_ rfl) (dq dk_Mo_step 199 rfl) h (fun σ2 h => ?_)
    refine ww_aload_n C 0 rfl rfl (dq dk_Mo_step 200 rfl) ?_
    refine ww_getr C ko_Mo 36 ho_v0 (lt_ rfl) g_6_86 rfl rfl (dq dk_Mo_step 201 rfl) ?_
    refine ww_iconst C (dq dk_Mo_step 202 rfl) ic_0 ?_
    refine ww_iload C 1 rfl (dq dk_Mo_step 203 rfl) ?_
    refine ww_iast C (kc_Mo_36 _ ho_v0).1 (kc_Mo_36 _ ho_v0).2 (dq dk_Mo_step 204 rfl) h (fun σ3 h => ?_)
    refine ww_iconst C (dq dk_Mo_step 205 rfl) ic_m1 ?_
    exact ww_iret C hR (dq dk_Mo_step 206 rfl) h
set_option maxHeartbeats 4000000 in
set_option maxRecDepth 100000 in
theorem t_Mo_step_B334 {k : Cfg} {res : Int32 × St} (C : Cx k prog_14_method_82_code "BundleHouseModel") (hR : RI k .int res) (hRm : k.2.2.2.1 = rm_Mo_step) (hnL : k.2.2.2.2.2.2.2.2.2.2.2.1 = 6) (v0 : Nat) (v5 : Int32) (ho_v0 : kd v0 = 12) (σ : St) (h : Mo_step_B334 v0 v5 σ = some res) : WW k 334 [(0, .ref (ad k v0)), (5, .int v5)] [] σ := by
  unfold Mo_step_B334 at h
  refine ww_aload_n C 0 rfl rfl (dq dk_Mo_step 187 rfl) ?_
  refine ww_geti C ko_Mo 56 ho_v0 (lt_ rfl) g_6_106 rfl rfl (dq dk_Mo_step 188 rfl) ?_
  refine ww_bipush C (dq dk_Mo_step 189 rfl) bp_23 ?_
  refine ww_icmp_ne C 349 (dq dk_Mo_step 190 rfl) (by decide) h (fun h => ?_) (fun h => ?_)
  · exact ww_lv [0, 1] rfl (t_Mo_step_B349 C hR hRm hnL v0 v5 ho_v0 σ h)
  · refine ww_aload_n C 0 rfl rfl (dq dk_Mo_step 191 rfl) ?_
    refine ww_cVi (st := []) C (c_Mo_pop v0 ho_v0) cw_Mo_pop ho_v0 (lt_ rfl) rfl g_8_7 hRm ⟨⟨rfl, rfl⟩, le_ rfl, le_ rfl⟩ rfl rfl rfl (le_ rfl) (dq dk_Mo_step 192 rfl) h (fun x2 σ1 h => ?_)
    refine ww_istore C [(5, .int x2), (0, .ref (ad k v0))] hnL (lt_ rfl) rfl (dq dk_Mo_step 193 rfl) ?_
    exact ww_lv [1, 0] rfl (t_Mo_step_B349 C hR hRm hnL v0 x2 ho_v0 σ1 h)
set_option maxHeartbeats 4000000 in
set_option maxRecDepth 100000 in
theorem t_Mo_step_B310 {k : Cfg} {res : Int32 × St} (C : Cx k prog_14_method_82_code "BundleHouseModel") (hR : RI k .int res) (hRm : k.2.2.2.1 = rm_Mo_step) (hnL : k.2.2.2.2.2.2.2.2.2.2.2.1 = 6) (v0 : Nat) (v4 : Int32) (v5 : Int32) (ho_v0 : kd v0 = 12) (σ : St) (h : Mo_step_B310 v0 v4 v5 σ = some res) : WW k 310 [(0, .ref (ad k v0)), (4, .int v4), (5, .int v5)] [] σ := by
  unfold Mo_step_B310 at h
  refine ww_aload_n C 0 rfl rfl (dq dk_Mo_step 176 rfl) ?_
  refine ww_geti C ko_Mo 56 ho_v0 (lt_ rfl) g_6_106 rfl rfl (dq dk_Mo_step 177 rfl) ?_
  refine ww_bipush C (dq dk_Mo_step 178 rfl) bp_26 ?_
  refine ww_icmp_eq C 328 (dq dk_Mo_step 179 rfl) (by decide) h (fun h => ?_) (fun h => ?_)
  · refine ww_aload_n C 0 rfl rfl (dq dk_Mo_step 184 rfl) ?_
    refine ww_iload C 1 rfl (dq dk_Mo_step 185 rfl) ?_
    refine ww_cVv (st := []) C (c_Mo_push v0 ho_v0 v4) cw_Mo_push ho_v0 (lt_ rfl) rfl g_8_35 hRm ⟨⟨rfl, rfl⟩, le_ rfl, le_ rfl⟩ rfl rfl rfl (le_ rfl) (dq dk_Mo_step 186 rfl) h (fun σ1 h => ?_)
    exact ww_lv [0, 2] rfl (t_Mo_step_B334 C hR hRm hnL v0 v5 ho_v0 σ1 h)
  · refine ww_aload_n C 0 rfl rfl (dq dk_Mo_step 180 rfl) ?_
    refine ww_geti C ko_Mo 56 ho_v0 (lt_ rfl) g_6_106 rfl rfl (dq dk_Mo_step 181 rfl) ?_
    refine ww_bipush C (dq dk_Mo_step 182 rfl) bp_28 ?_
    refine ww_icmp_ne C 334 (dq dk_Mo_step 183 rfl) (by decide) h (fun h => ?_) (fun h => ?_)
    · exact ww_lv [0, 2] rfl (t_Mo_step_B334 C hR hRm hnL v0 v5 ho_v0 σ h)
    · refine ww_aload_n C 0 rfl rfl (dq dk_Mo_step 184 rfl) ?_
      refine ww_iload C 1 rfl (dq dk_Mo_step 185 rfl) ?_
      refine ww_cVv (st := []) C (c_Mo_push v0 ho_v0 v4) cw_Mo_push ho_v0 (lt_ rfl) rfl g_8_35 hRm ⟨⟨rfl, rfl⟩, le_ rfl, le_ rfl⟩ rfl rfl rfl (le_ rfl) (dq dk_Mo_step 186 rfl) h (fun σ2 h => ?_)
      exact ww_lv [0, 2] rfl (t_Mo_step_B334 C hR hRm hnL v0 v5 ho_v0 σ2 h)
set_option maxHeartbeats 4000000 in
set_option maxRecDepth 100000 in
theorem t_Mo_step_B282 {k : Cfg} {res : Int32 × St} (C : Cx k prog_14_method_82_code "BundleHouseModel") (hR : RI k .int res) (hRm : k.2.2.2.1 = rm_Mo_step) (hnL : k.2.2.2.2.2.2.2.2.2.2.2.1 = 6) (v0 : Nat) (v4 : Int32) (v5 : Int32) (ho_v0 : kd v0 = 12) (σ : St) (h : Mo_step_B282 v0 v4 v5 σ = some res) : WW k 282 [(0, .ref (ad k v0)), (4, .int v4), (5, .int v5)] [] σ := by
  unfold Mo_step_B282 at h
  refine ww_aload_n C 0 rfl rfl (dq dk_Mo_step 163 rfl) ?_
  refine ww_geti C ko_Mo 56 ho_v0 (lt_ rfl) g_6_106 rfl rfl (dq dk_Mo_step 164 rfl) ?_
  refine ww_bipush C (dq dk_Mo_step 165 rfl) bp_27 ?_
  refine ww_icmp_eq C 300 (dq dk_Mo_step 166 rfl) (by decide) h (fun h => ?_) (fun h => ?_)
  · refine ww_aload_n C 0 rfl rfl (dq dk_Mo_step 171 rfl) ?_
    refine ww_aload_n C 0 rfl rfl (dq dk_Mo_step 172 rfl) ?_
    refine ww_geti C ko_Mo 58 ho_v0 (lt_ rfl) g_6_108 rfl rfl (dq dk_Mo_step 173 rfl) ?_
    refine ww_cVi (st := []) C (c_Mo_reg v0 ho_v0 (σ v0 58)) cw_Mo_reg ho_v0 (lt_ rfl) rfl g_7_232 hRm ⟨⟨rfl, rfl⟩, le_ rfl, le_ rfl⟩ rfl rfl rfl (le_ rfl) (dq dk_Mo_step 174 rfl) h (fun x2 σ1 h => ?_)
    refine ww_istore C [(5, .int x2), (0, .ref (ad k v0)), (4, .int v4)] hnL (lt_ rfl) rfl (dq dk_Mo_step 175 rfl) ?_
    exact ww_lv [1, 2, 0] rfl (t_Mo_step_B310 C hR hRm hnL v0 v4 x2 ho_v0 σ1 h)
  · refine ww_aload_n C 0 rfl rfl (dq dk_Mo_step 167 rfl) ?_
    refine ww_geti C ko_Mo 56 ho_v0 (lt_ rfl) g_6_106 rfl rfl (dq dk_Mo_step 168 rfl) ?_
    refine ww_bipush C (dq dk_Mo_step 169 rfl) bp_28 ?_
    refine ww_icmp_ne C 310 (dq dk_Mo_step 170 rfl) (by decide) h (fun h => ?_) (fun h => ?_)
    · exact ww_lv [0, 1, 2] rfl (t_Mo_step_B310 C hR hRm hnL v0 v4 v5 ho_v0 σ h)
    · refine ww_aload_n C 0 rfl rfl (dq dk_Mo_step 171 rfl) ?_
      refine ww_aload_n C 0 rfl rfl (dq dk_Mo_step 172 rfl) ?_
      refine ww_geti C ko_Mo 58 ho_v0 (lt_ rfl) g_6_108 rfl rfl (dq dk_Mo_step 173 rfl) ?_
      refine ww_cVi (st := []) C (c_Mo_reg v0 ho_v0 (σ v0 58)) cw_Mo_reg ho_v0 (lt_ rfl) rfl g_7_232 hRm ⟨⟨rfl, rfl⟩, le_ rfl, le_ rfl⟩ rfl rfl rfl (le_ rfl) (dq dk_Mo_step 174 rfl) h (fun x4 σ3 h => ?_)
      refine ww_istore C [(5, .int x4), (0, .ref (ad k v0)), (4, .int v4)] hnL (lt_ rfl) rfl (dq dk_Mo_step 175 rfl) ?_
      exact ww_lv [1, 2, 0] rfl (t_Mo_step_B310 C hR hRm hnL v0 v4 x4 ho_v0 σ3 h)
set_option maxHeartbeats 4000000 in
set_option maxRecDepth 100000 in
theorem t_Mo_step_B253 {k : Cfg} {res : Int32 × St} (C : Cx k prog_14_method_82_code "BundleHouseModel") (hR : RI k .int res) (hRm : k.2.2.2.1 = rm_Mo_step) (hnL : k.2.2.2.2.2.2.2.2.2.2.2.1 = 6) (v0 : Nat) (v4 : Int32) (v5 : Int32) (ho_v0 : kd v0 = 12) (σ : St) (h : Mo_step_B253 v0 v4 v5 σ = some res) : WW k 253 [(0, .ref (ad k v0)), (4, .int v4), (5, .int v5)] [] σ := by
  unfold Mo_step_B253 at h
  refine ww_aload_n C 0 rfl rfl (dq dk_Mo_step 149 rfl) ?_
  refine ww_geti C ko_Mo 56 ho_v0 (lt_ rfl) g_6_106 rfl rfl (dq dk_Mo_step 150 rfl) ?_
  refine ww_bipush C (dq dk_Mo_step 151 rfl) bp_25 ?_
  refine ww_icmp_ne C 282 (dq dk_Mo_step 152 rfl) (by decide) h (fun h => ?_) (fun h => ?_)
  · exact ww_lv [0, 1, 2] rfl (t_Mo_step_B282 C hR hRm hnL v0 v4 v5 ho_v0 σ h)
  · refine ww_aload_n C 0 rfl rfl (dq dk_Mo_step 153 rfl) ?_
    refine ww_aload_n C 0 rfl rfl (dq dk_Mo_step 154 rfl) ?_
    refine ww_geti C ko_Mo 58 ho_v0 (lt_ rfl) g_6_108 rfl rfl (dq dk_Mo_step 155 rfl) ?_
    refine ww_cVi (st := []) C (c_Mo_holds v0 ho_v0 (σ v0 58)) cw_Mo_holds ho_v0 (lt_ rfl) rfl g_8_31 hRm ⟨⟨rfl, rfl⟩, le_ rfl, le_ rfl⟩ rfl rfl rfl (le_ rfl) (dq dk_Mo_step 156 rfl) h (fun x2 σ1 h => ?_)
    refine ww_if_eq C 282 (dq dk_Mo_step 157 rfl) (by decide) h (fun h => ?_) (fun h => ?_)
    · exact ww_lv [0, 1, 2] rfl (t_Mo_step_B282 C hR hRm hnL v0 v4 v5 ho_v0 σ1 h)
    · refine ww_iload C 1 rfl (dq dk_Mo_step 158 rfl) ?_
      refine ww_aload_n C 0 rfl rfl (dq dk_Mo_step 159 rfl) ?_
      refine ww_geti C ko_Mo 61 ho_v0 (lt_ rfl) g_6_111 rfl rfl (dq dk_Mo_step 160 rfl) ?_
      refine ww_iadd C (dq dk_Mo_step 161 rfl) ?_
      refine ww_nmi h (fun x3 h => ?_)
      refine ww_istore C [(5, .int x3), (0, .ref (ad k v0)), (4, .int v4)] hnL (lt_ rfl) rfl (dq dk_Mo_step 162 rfl) ?_
      exact ww_lv [1, 2, 0] rfl (t_Mo_step_B282 C hR hRm hnL v0 v4 x3 ho_v0 σ1 h)
set_option maxHeartbeats 4000000 in
set_option maxRecDepth 100000 in
theorem t_Mo_step_B202 {k : Cfg} {res : Int32 × St} (C : Cx k prog_14_method_82_code "BundleHouseModel") (hR : RI k .int res) (hRm : k.2.2.2.1 = rm_Mo_step) (hnL : k.2.2.2.2.2.2.2.2.2.2.2.1 = 6) (v0 : Nat) (v1 : Int32) (v3 : Int32) (t0 : Nat) (t1 : Int32) (t2 : Int32) (ho_v0 : kd v0 = 12) (ho_t0 : kd t0 = 12) (σ : St) (h : Mo_step_B202 v0 v1 v3 t0 t1 t2 σ = some res) : WW k 202 [(0, .ref (ad k v0)), (1, .int v1), (3, .int v3)] [.int t2, .int t1, .ref (ad k t0)] σ := by
  unfold Mo_step_B202 at h
  refine ww_iadd C (dq dk_Mo_step 122 rfl) ?_
  refine ww_puti C ko_Mo 39 ho_t0 (lt_ rfl) g_6_89 rfl rfl rfl rfl (dq dk_Mo_step 123 rfl) h (fun σ1 h => ?_)
  refine ww_iload_n C 1 rfl rfl (dq dk_Mo_step 124 rfl) ?_
  refine ww_iload_n C 2 rfl rfl (dq dk_Mo_step 125 rfl) ?_
  refine ww_iadd C (dq dk_Mo_step 126 rfl) ?_
  refine ww_nmi h (fun x2 h => ?_)
  refine ww_istore C [(4, .int x2), (0, .ref (ad k v0)), (1, .int v1), (3, .int v3)] hnL (lt_ rfl) rfl (dq dk_Mo_step 127 rfl) ?_
  refine ww_iload C 0 rfl (dq dk_Mo_step 128 rfl) ?_
  refine ww_istore C [(5, .int x2), (4, .int x2), (0, .ref (ad k v0)), (1, .int v1), (3, .int v3)] hnL (lt_ rfl) rfl (dq dk_Mo_step 129 rfl) ?_
  refine ww_aload_n C 2 rfl rfl (dq dk_Mo_step 130 rfl) ?_
  refine ww_geti C ko_Mo 56 ho_v0 (lt_ rfl) g_6_106 rfl rfl (dq dk_Mo_step 131 rfl) ?_
  refine ww_bipush C (dq dk_Mo_step 132 rfl) bp_22 ?_
  refine ww_icmp_ne C 226 (dq dk_Mo_step 133 rfl) (by decide) h (fun h => ?_) (fun h => ?_)
  · refine ww_aload_n C 2 rfl rfl (dq dk_Mo_step 136 rfl) ?_
    refine ww_geti C ko_Mo 56 ho_v0 (lt_ rfl) g_6_106 rfl rfl (dq dk_Mo_step 137 rfl) ?_
    refine ww_bipush C (dq dk_Mo_step 138 rfl) bp_24 ?_
    refine ww_icmp_eq C 244 (dq dk_Mo_step 139 rfl) (by decide) h (fun h => ?_) (fun h => ?_)
    · refine ww_iload C 1 rfl (dq dk_Mo_step 144 rfl) ?_
      refine ww_aload_n C 2 rfl rfl (dq dk_Mo_step 145 rfl) ?_
      refine ww_geti C ko_Mo 61 ho_v0 (lt_ rfl) g_6_111 rfl rfl (dq dk_Mo_step 146 rfl) ?_
      refine ww_iadd C (dq dk_Mo_step 147 rfl) ?_
      refine ww_nmi h (fun x3 h => ?_)
      refine ww_istore C [(5, .int x3), (4, .int x2), (0, .ref (ad k v0)), (1, .int v1), (3, .int v3)] hnL (lt_ rfl) rfl (dq dk_Mo_step 148 rfl) ?_
      exact ww_lv [2, 1, 0] rfl (t_Mo_step_B253 C hR hRm hnL v0 x2 x3 ho_v0 σ1 h)
    · refine ww_aload_n C 2 rfl rfl (dq dk_Mo_step 140 rfl) ?_
      refine ww_geti C ko_Mo 56 ho_v0 (lt_ rfl) g_6_106 rfl rfl (dq dk_Mo_step 141 rfl) ?_
      refine ww_bipush C (dq dk_Mo_step 142 rfl) bp_26 ?_
      refine ww_icmp_ne C 253 (dq dk_Mo_step 143 rfl) (by decide) h (fun h => ?_) (fun h => ?_)
      · exact ww_lv [2, 1, 0] rfl (t_Mo_step_B253 C hR hRm hnL v0 x2 x2 ho_v0 σ1 h)
      · refine ww_iload C 1 rfl (dq dk_Mo_step 144 rfl) ?_
        refine ww_aload_n C 2 rfl rfl (dq dk_Mo_step 145 rfl) ?_
        refine ww_geti C ko_Mo 61 ho_v0 (lt_ rfl) g_6_111 rfl rfl (dq dk_Mo_step 146 rfl) ?_
        refine ww_iadd C (dq dk_Mo_step 147 rfl) ?_
        refine ww_nmi h (fun x4 h => ?_)
        refine ww_istore C [(5, .int x4), (4, .int x2), (0, .ref (ad k v0)), (1, .int v1), (3, .int v3)] hnL (lt_ rfl) rfl (dq dk_Mo_step 148 rfl) ?_
        exact ww_lv [2, 1, 0] rfl (t_Mo_step_B253 C hR hRm hnL v0 x2 x4 ho_v0 σ1 h)
  · refine ww_iconst C (dq dk_Mo_step 134 rfl) ic_1 ?_
    exact ww_iret C hR (dq dk_Mo_step 135 rfl) h
set_option maxHeartbeats 4000000 in
set_option maxRecDepth 100000 in
theorem c_Mo_step (v0 : Nat) (ho_v0 : kd v0 = 12) : MI y_Mo_step rm_Mo_step prog_14_method_82_code 6 .int (fun a => [.ref (a v0)]) (Mo_step v0) := by
  refine mi_of (by decide) (fun _ => le_ rfl) ?_
  intro k res σ C hR hRm hnL h
  unfold Mo_step at h
  show WW k 0 [(0, .ref (ad k v0))] [] σ
  refine ww_aload_n C 0 rfl rfl (dq dk_Mo_step 0 rfl) ?_
  refine ww_getr C ko_Mo 36 ho_v0 (lt_ rfl) g_6_86 rfl rfl (dq dk_Mo_step 1 rfl) ?_
  refine ww_iconst C (dq dk_Mo_step 2 rfl) ic_0 ?_
  refine ww_iald C (kc_Mo_36 _ ho_v0).1 (kc_Mo_36 _ ho_v0).2 (dq dk_Mo_step 3 rfl) h (fun x1 h => ?_)
  refine ww_istore_n C [(1, .int x1), (0, .ref (ad k v0))] rfl hnL (lt_ rfl) rfl (dq dk_Mo_step 4 rfl) ?_
  refine ww_iload_n C 0 rfl rfl (dq dk_Mo_step 5 rfl) ?_
  refine ww_if_ne C 23 (dq dk_Mo_step 6 rfl) (by decide) h (fun h => ?_) (fun h => ?_)
  · refine ww_iload_n C 0 rfl rfl (dq dk_Mo_step 17 rfl) ?_
    refine ww_cSi (st := []) C (c_Mo_isService x1) cw_Mo_isService g_7_73 hRm ⟨⟨rfl, rfl⟩, le_ rfl, le_ rfl⟩ rfl rfl rfl (le_ rfl) (dq dk_Mo_step 18 rfl) h (fun x3 σ2 h => ?_)
    refine ww_if_eq C 93 (dq dk_Mo_step 19 rfl) (by decide) h (fun h => ?_) (fun h => ?_)
    · refine ww_iload_n C 0 rfl rfl (dq dk_Mo_step 59 rfl) ?_
      refine ww_sipush C (dq dk_Mo_step 60 rfl) sp_256 ?_
      refine ww_isub C (dq dk_Mo_step 61 rfl) ?_
      refine ww_nmi h (fun x4 h => ?_)
      refine ww_istore_n C [(2, .int x4), (1, .int x1), (0, .ref (ad k v0))] rfl hnL (lt_ rfl) rfl (dq dk_Mo_step 62 rfl) ?_
      refine ww_iload_n C 1 rfl rfl (dq dk_Mo_step 63 rfl) ?_
      refine ww_sipush C (dq dk_Mo_step 64 rfl) sp_256 ?_
      refine ww_icmp_lt C 114 (dq dk_Mo_step 65 rfl) (by decide) h (fun h => ?_) (fun h => ?_)
      · refine ww_iconst C (dq dk_Mo_step 70 rfl) ic_4 ?_
        exact ww_iret C hR (dq dk_Mo_step 71 rfl) h
      · refine ww_iload_n C 0 rfl rfl (dq dk_Mo_step 66 rfl) ?_
        refine ww_aload_n C 2 rfl rfl (dq dk_Mo_step 67 rfl) ?_
        refine ww_geti C ko_Mo 6 ho_v0 (lt_ rfl) g_6_56 rfl rfl (dq dk_Mo_step 68 rfl) ?_
        refine ww_icmp_lt C 116 (dq dk_Mo_step 69 rfl) (by decide) h (fun h => ?_) (fun h => ?_)
        · refine ww_aload_n C 2 rfl rfl (dq dk_Mo_step 72 rfl) ?_
          refine ww_aload_n C 2 rfl rfl (dq dk_Mo_step 73 rfl) ?_
          refine ww_getr C ko_Mo 5 ho_v0 (lt_ rfl) g_6_55 rfl rfl (dq dk_Mo_step 74 rfl) ?_
          refine ww_aload_n C 2 rfl rfl (dq dk_Mo_step 75 rfl) ?_
          refine ww_geti C ko_Mo 6 ho_v0 (lt_ rfl) g_6_56 rfl rfl (dq dk_Mo_step 76 rfl) ?_
          refine ww_iload_n C 0 rfl rfl (dq dk_Mo_step 77 rfl) ?_
          refine ww_cVi (st := []) C (c_Mo_decode v0 ho_v0 (ch v0 5) (σ2 v0 6) x4) cw_Mo_decode ho_v0 (lt_ rfl) rfl g_7_29 hRm ⟨⟨rfl, rfl⟩, le_ rfl, le_ rfl⟩ rfl rfl rfl (le_ rfl) (dq dk_Mo_step 78 rfl) h (fun x6 σ5 h => ?_)
          refine ww_istore_n C [(3, .int x6), (2, .int x4), (1, .int x1), (0, .ref (ad k v0))] rfl hnL (lt_ rfl) rfl (dq dk_Mo_step 79 rfl) ?_
          refine ww_iload_n C 0 rfl rfl (dq dk_Mo_step 80 rfl) ?_
          refine ww_if_ne C 136 (dq dk_Mo_step 81 rfl) (by decide) h (fun h => ?_) (fun h => ?_)
          · refine ww_aload_n C 3 rfl rfl (dq dk_Mo_step 84 rfl) ?_
            refine ww_aload_n C 3 rfl rfl (dq dk_Mo_step 85 rfl) ?_
            refine ww_geti C ko_Mo 46 ho_v0 (lt_ rfl) g_6_96 rfl rfl (dq dk_Mo_step 86 rfl) ?_
            refine ww_aload_n C 3 rfl rfl (dq dk_Mo_step 87 rfl) ?_
            refine ww_geti C ko_Mo 47 ho_v0 (lt_ rfl) g_6_97 rfl rfl (dq dk_Mo_step 88 rfl) ?_
            refine ww_aload_n C 3 rfl rfl (dq dk_Mo_step 89 rfl) ?_
            refine ww_geti C ko_Mo 48 ho_v0 (lt_ rfl) g_6_98 rfl rfl (dq dk_Mo_step 90 rfl) ?_
            refine ww_aload_n C 3 rfl rfl (dq dk_Mo_step 91 rfl) ?_
            refine ww_geti C ko_Mo 49 ho_v0 (lt_ rfl) g_6_99 rfl rfl (dq dk_Mo_step 92 rfl) ?_
            refine ww_aload_n C 3 rfl rfl (dq dk_Mo_step 93 rfl) ?_
            refine ww_geti C ko_Mo 50 ho_v0 (lt_ rfl) g_6_100 rfl rfl (dq dk_Mo_step 94 rfl) ?_
            refine ww_aload_n C 3 rfl rfl (dq dk_Mo_step 95 rfl) ?_
            refine ww_geti C ko_Mo 51 ho_v0 (lt_ rfl) g_6_101 rfl rfl (dq dk_Mo_step 96 rfl) ?_
            refine ww_cVv (st := []) C (c_Mo_takes v0 ho_v0 (σ5 v0 46) (σ5 v0 47) (σ5 v0 48) (σ5 v0 49) (σ5 v0 50) (σ5 v0 51)) cw_Mo_takes ho_v0 (lt_ rfl) rfl g_8_15 hRm ⟨⟨rfl, rfl⟩, le_ rfl, le_ rfl⟩ rfl rfl rfl (le_ rfl) (dq dk_Mo_step 97 rfl) h (fun σ7 h => ?_)
            refine ww_aload_n C 3 rfl rfl (dq dk_Mo_step 98 rfl) ?_
            refine ww_cVi (st := []) C (c_Mo_wants v0 ho_v0) cw_Mo_wants ho_v0 (lt_ rfl) rfl g_8_19 hRm ⟨⟨rfl, rfl⟩, le_ rfl, le_ rfl⟩ rfl rfl rfl (le_ rfl) (dq dk_Mo_step 99 rfl) h (fun x9 σ8 h => ?_)
            refine ww_if_eq C 173 (dq dk_Mo_step 100 rfl) (by decide) h (fun h => ?_) (fun h => ?_)
            · refine ww_aload_n C 3 rfl rfl (dq dk_Mo_step 103 rfl) ?_
              refine ww_getr C ko_Mo 37 ho_v0 (lt_ rfl) g_6_87 rfl rfl (dq dk_Mo_step 104 rfl) ?_
              refine ww_iconst C (dq dk_Mo_step 105 rfl) ic_0 ?_
              refine ww_dup2 C rfl rfl (dq dk_Mo_step 106 rfl) ?_
              refine ww_iald C (kc_Mo_37 _ ho_v0).1 (kc_Mo_37 _ ho_v0).2 (dq dk_Mo_step 107 rfl) h (fun x10 h => ?_)
              refine ww_iconst C (dq dk_Mo_step 108 rfl) ic_1 ?_
              refine ww_iadd C (dq dk_Mo_step 109 rfl) ?_
              refine ww_iast C (kc_Mo_37 _ ho_v0).1 (kc_Mo_37 _ ho_v0).2 (dq dk_Mo_step 110 rfl) h (fun σ11 h => ?_)
              refine ww_aload_n C 3 rfl rfl (dq dk_Mo_step 111 rfl) ?_
              refine ww_dup C rfl (dq dk_Mo_step 112 rfl) ?_
              refine ww_geti C ko_Mo 39 ho_v0 (lt_ rfl) g_6_89 rfl rfl (dq dk_Mo_step 113 rfl) ?_
              refine ww_aload_n C 3 rfl rfl (dq dk_Mo_step 114 rfl) ?_
              refine ww_getr C ko_Mo 7 ho_v0 (lt_ rfl) g_6_57 rfl rfl (dq dk_Mo_step 115 rfl) ?_
              refine ww_iload_n C 1 rfl rfl (dq dk_Mo_step 116 rfl) ?_
              refine ww_iald C (kc_Mo_7 _ ho_v0).1 (kc_Mo_7 _ ho_v0).2 (dq dk_Mo_step 117 rfl) h (fun x12 h => ?_)
              refine ww_if_ne C 201 (dq dk_Mo_step 118 rfl) (by decide) h (fun h => ?_) (fun h => ?_)
              · refine ww_iconst C (dq dk_Mo_step 121 rfl) ic_0 ?_
                exact ww_lv [3, 2, 0] rfl (t_Mo_step_B202 C hR hRm hnL v0 x1 x6 v0 (σ11 v0 39) 0 ho_v0 ho_v0 σ11 h)
              · refine ww_iconst C (dq dk_Mo_step 119 rfl) ic_1 ?_
                refine ww_goto C 202 (dq dk_Mo_step 120 rfl) (by decide) ?_
                exact ww_lv [3, 2, 0] rfl (t_Mo_step_B202 C hR hRm hnL v0 x1 x6 v0 (σ11 v0 39) 1 ho_v0 ho_v0 σ11 h)
            · refine ww_iconst C (dq dk_Mo_step 101 rfl) ic_3 ?_
              exact ww_iret C hR (dq dk_Mo_step 102 rfl) h
          · refine ww_iconst C (dq dk_Mo_step 82 rfl) ic_5 ?_
            exact ww_iret C hR (dq dk_Mo_step 83 rfl) h
        · refine ww_iconst C (dq dk_Mo_step 70 rfl) ic_4 ?_
          exact ww_iret C hR (dq dk_Mo_step 71 rfl) h
    · refine ww_aload_n C 1 rfl rfl (dq dk_Mo_step 20 rfl) ?_
      refine ww_iconst C (dq dk_Mo_step 21 rfl) ic_4 ?_
      refine ww_cVi (st := []) C (c_Mo_reg v0 ho_v0 4) cw_Mo_reg ho_v0 (lt_ rfl) rfl g_7_232 hRm ⟨⟨rfl, rfl⟩, le_ rfl, le_ rfl⟩ rfl rfl rfl (le_ rfl) (dq dk_Mo_step 22 rfl) h (fun x14 σ13 h => ?_)
      refine ww_cSi (st := []) C (c_Mo_isThere x14) cw_Mo_isThere g_7_236 hRm ⟨⟨rfl, rfl⟩, le_ rfl, le_ rfl⟩ rfl rfl rfl (le_ rfl) (dq dk_Mo_step 23 rfl) h (fun x16 σ15 h => ?_)
      refine ww_if_ne C 43 (dq dk_Mo_step 24 rfl) (by decide) h (fun h => ?_) (fun h => ?_)
      · refine ww_iload_n C 0 rfl rfl (dq dk_Mo_step 27 rfl) ?_
        refine ww_bipush C (dq dk_Mo_step 28 rfl) bp_16 ?_
        refine ww_icmp_ne C 63 (dq dk_Mo_step 29 rfl) (by decide) h (fun h => ?_) (fun h => ?_)
        · exact ww_lv [1, 0] rfl (t_Mo_step_B63 C hR hRm hnL v0 x1 ho_v0 σ15 h)
        · refine ww_aload_n C 1 rfl rfl (dq dk_Mo_step 30 rfl) ?_
          refine ww_getr C ko_Mo 35 ho_v0 (lt_ rfl) g_6_85 rfl rfl (dq dk_Mo_step 31 rfl) ?_
          refine ww_iconst C (dq dk_Mo_step 32 rfl) ic_0 ?_
          refine ww_iald C (kc_Mo_35 _ ho_v0).1 (kc_Mo_35 _ ho_v0).2 (dq dk_Mo_step 33 rfl) h (fun x17 h => ?_)
          refine ww_bipush C (dq dk_Mo_step 34 rfl) bp_100 ?_
          refine ww_icmp_ne C 63 (dq dk_Mo_step 35 rfl) (by decide) h (fun h => ?_) (fun h => ?_)
          · exact ww_lv [1, 0] rfl (t_Mo_step_B63 C hR hRm hnL v0 x1 ho_v0 σ15 h)
          · refine ww_bipush C (dq dk_Mo_step 36 rfl) bp_6 ?_
            exact ww_iret C hR (dq dk_Mo_step 37 rfl) h
      · refine ww_iconst C (dq dk_Mo_step 25 rfl) ic_3 ?_
        exact ww_iret C hR (dq dk_Mo_step 26 rfl) h
  · refine ww_aload_n C 1 rfl rfl (dq dk_Mo_step 7 rfl) ?_
    refine ww_getr C ko_Mo 37 ho_v0 (lt_ rfl) g_6_87 rfl rfl (dq dk_Mo_step 8 rfl) ?_
    refine ww_iconst C (dq dk_Mo_step 9 rfl) ic_0 ?_
    refine ww_dup2 C rfl rfl (dq dk_Mo_step 10 rfl) ?_
    refine ww_iald C (kc_Mo_37 _ ho_v0).1 (kc_Mo_37 _ ho_v0).2 (dq dk_Mo_step 11 rfl) h (fun x18 h => ?_)
    refine ww_iconst C (dq dk_Mo_step 12 rfl) ic_1 ?_
    refine ww_iadd C (dq dk_Mo_step 13 rfl) ?_
    refine ww_iast C (kc_Mo_37 _ ho_v0).1 (kc_Mo_37 _ ho_v0).2 (dq dk_Mo_step 14 rfl) h (fun σ19 h => ?_)
    refine ww_iconst C (dq dk_Mo_step 15 rfl) ic_2 ?_
    exact ww_iret C hR (dq dk_Mo_step 16 rfl) h
abbrev y_Mo_run : MethodName := ⟨"BundleHouseModel", "run", "(I)I"⟩
def dl_Mo_run : List (Nat × Instr × Nat) := [(0, .aload_n 0, 1), (1, .aload_n 0, 1), (2, .getfield 205, 3), (5, .ifCond .ne 7, 3), (8, .iconst 1, 1), (9, .goto 4, 3), (12, .iconst 0, 1), (13, .iload_n 1, 1), (14, .iconst 1, 1), (15, .if_icmp .lt 10, 3), (18, .iload_n 1, 1), (19, .sipush 5000, 3), (22, .if_icmp .le 7, 3), (25, .iconst 1, 1), (26, .goto 4, 3), (29, .iconst 0, 1), (30, .invokevirtual 306, 3), (33, .ifCond .eq 5, 3), (36, .iconst 0, 1), (37, .ireturn, 1), (38, .aload_n 0, 1), (39, .iconst 0, 1), (40, .invokevirtual 396, 3), (43, .aload_n 0, 1), (44, .getfield 90, 3), (47, .iconst 0, 1), (48, .sipush 256, 3), (51, .iastore, 1), (52, .iconst (-1), 1), (53, .istore_n 2, 1), (54, .iload_n 2, 1), (55, .ifCond .ge 25, 3), (58, .aload_n 0, 1), (59, .getfield 93, 3), (62, .iconst 0, 1), (63, .iaload, 1), (64, .iload_n 1, 1), (65, .if_icmp .ne 7, 3), (68, .iconst 0, 1), (69, .goto 7, 3), (72, .aload_n 0, 1), (73, .invokevirtual 399, 3), (76, .istore_n 2, 1), (77, .goto (-23), 3), (80, .aload_n 0, 1), (81, .getfield 96, 3), (84, .iconst 0, 1), (85, .iload_n 2, 1), (86, .iastore, 1), (87, .iload_n 2, 1), (88, .ireturn, 1)]
set_option maxRecDepth 100000 in
theorem dk_Mo_run : ∀ q ∈ dl_Mo_run, decode prog_14_method_81_code q.1 = .ok q.2 := by decide +kernel
abbrev rm_Mo_run : Room := { frames := 8, cells := 0, slots := 0, locals := 182 }
theorem cw_Mo_run : CWV y_Mo_run prog_14_method_81_code 3 (some .int) 1 := ⟨⟨g_7_223, g_1_13, by decide, by decide, by decide +kernel⟩, g_7_221, g_7_222⟩
set_option maxHeartbeats 4000000 in
set_option maxRecDepth 100000 in
theorem t_Mo_run_B54 {k : Cfg} {res : Int32 × St} (C : Cx k prog_14_method_81_code "BundleHouseModel") (hR : RI k .int res) (hRm : k.2.2.2.1 = rm_Mo_run) (hnL : k.2.2.2.2.2.2.2.2.2.2.2.1 = 3) : ∀ (n : Nat) (v0 : Nat) (v1 : Int32) (v2 : Int32) (ho_v0 : kd v0 = 12) (σ : St), Mo_run_B54 n v0 v1 v2 σ = some res → WW k 54 [(0, .ref (ad k v0)), (1, .int v1), (2, .int v2)] [] σ := by
  intro n
  induction n with
  | zero =>
    intro v0 v1 v2 ho_v0 σ h
    have h : (none : Option (Int32 × St)) = some res := h
    cases h
  | succ n ih =>
    intro v0 v1 v2 ho_v0 σ h
    unfold Mo_run_B54 at h
    refine ww_iload_n C 2 rfl rfl (dq dk_Mo_run 30 rfl) ?_
    refine ww_if_ge C 80 (dq dk_Mo_run 31 rfl) (by decide) h (fun h => ?_) (fun h => ?_)
    · refine ww_aload_n C 0 rfl rfl (dq dk_Mo_run 44 rfl) ?_
      refine ww_getr C ko_Mo 38 ho_v0 (lt_ rfl) g_6_88 rfl rfl (dq dk_Mo_run 45 rfl) ?_
      refine ww_iconst C (dq dk_Mo_run 46 rfl) ic_0 ?_
      refine ww_iload_n C 2 rfl rfl (dq dk_Mo_run 47 rfl) ?_
      refine ww_iast C (kc_Mo_38 _ ho_v0).1 (kc_Mo_38 _ ho_v0).2 (dq dk_Mo_run 48 rfl) h (fun σ1 h => ?_)
      refine ww_iload_n C 2 rfl rfl (dq dk_Mo_run 49 rfl) ?_
      exact ww_iret C hR (dq dk_Mo_run 50 rfl) h
    · refine ww_aload_n C 0 rfl rfl (dq dk_Mo_run 32 rfl) ?_
      refine ww_getr C ko_Mo 37 ho_v0 (lt_ rfl) g_6_87 rfl rfl (dq dk_Mo_run 33 rfl) ?_
      refine ww_iconst C (dq dk_Mo_run 34 rfl) ic_0 ?_
      refine ww_iald C (kc_Mo_37 _ ho_v0).1 (kc_Mo_37 _ ho_v0).2 (dq dk_Mo_run 35 rfl) h (fun x2 h => ?_)
      refine ww_iload_n C 1 rfl rfl (dq dk_Mo_run 36 rfl) ?_
      refine ww_icmp_ne C 72 (dq dk_Mo_run 37 rfl) (by decide) h (fun h => ?_) (fun h => ?_)
      · refine ww_aload_n C 0 rfl rfl (dq dk_Mo_run 40 rfl) ?_
        refine ww_cVi (st := []) C (c_Mo_step v0 ho_v0) cw_Mo_step ho_v0 (lt_ rfl) rfl g_7_228 hRm ⟨⟨rfl, rfl⟩, le_ rfl, le_ rfl⟩ rfl rfl rfl (le_ rfl) (dq dk_Mo_run 41 rfl) h (fun x4 σ3 h => ?_)
        refine ww_istore_n C [(2, .int x4), (0, .ref (ad k v0)), (1, .int v1)] rfl hnL (lt_ rfl) rfl (dq dk_Mo_run 42 rfl) ?_
        refine ww_goto C 54 (dq dk_Mo_run 43 rfl) (by decide) ?_
        exact ww_lv [1, 2, 0] rfl (ih v0 v1 x4 ho_v0 σ3 h)
      · refine ww_iconst C (dq dk_Mo_run 38 rfl) ic_0 ?_
        refine ww_goto C 76 (dq dk_Mo_run 39 rfl) (by decide) ?_
        refine ww_istore_n C [(2, .int 0), (0, .ref (ad k v0)), (1, .int v1)] rfl hnL (lt_ rfl) rfl (dq dk_Mo_run 42 rfl) ?_
        refine ww_goto C 54 (dq dk_Mo_run 43 rfl) (by decide) ?_
        exact ww_lv [1, 2, 0] rfl (ih v0 v1 0 ho_v0 σ h)
set_option maxHeartbeats 4000000 in
set_option maxRecDepth 100000 in
theorem t_Mo_run_B30 {k : Cfg} {res : Int32 × St} (C : Cx k prog_14_method_81_code "BundleHouseModel") (hR : RI k .int res) (hRm : k.2.2.2.1 = rm_Mo_run) (hnL : k.2.2.2.2.2.2.2.2.2.2.2.1 = 3) (v0 : Nat) (v1 : Int32) (t0 : Nat) (t1 : Int32) (t2 : Int32) (ho_v0 : kd v0 = 12) (ho_t0 : kd t0 = 12) (σ : St) (h : Mo_run_B30 v0 v1 t0 t1 t2 σ = some res) : WW k 30 [(0, .ref (ad k v0)), (1, .int v1)] [.int t2, .int t1, .ref (ad k t0)] σ := by
  unfold Mo_run_B30 at h
  refine ww_cVi (st := []) C (c_Mo_throwing t0 ho_t0 t1 t2) cw_Mo_throwing ho_t0 (lt_ rfl) rfl g_7_208 hRm ⟨⟨rfl, rfl⟩, le_ rfl, le_ rfl⟩ rfl rfl rfl (le_ rfl) (dq dk_Mo_run 16 rfl) h (fun x2 σ1 h => ?_)
  refine ww_if_eq C 38 (dq dk_Mo_run 17 rfl) (by decide) h (fun h => ?_) (fun h => ?_)
  · refine ww_aload_n C 0 rfl rfl (dq dk_Mo_run 20 rfl) ?_
    refine ww_iconst C (dq dk_Mo_run 21 rfl) ic_0 ?_
    refine ww_cVv (st := []) C (c_Mo_begin v0 ho_v0 0) cw_Mo_begin ho_v0 (lt_ rfl) rfl g_7_224 hRm ⟨⟨rfl, rfl⟩, le_ rfl, le_ rfl⟩ rfl rfl rfl (le_ rfl) (dq dk_Mo_run 22 rfl) h (fun σ3 h => ?_)
    refine ww_aload_n C 0 rfl rfl (dq dk_Mo_run 23 rfl) ?_
    refine ww_getr C ko_Mo 36 ho_v0 (lt_ rfl) g_6_86 rfl rfl (dq dk_Mo_run 24 rfl) ?_
    refine ww_iconst C (dq dk_Mo_run 25 rfl) ic_0 ?_
    refine ww_sipush C (dq dk_Mo_run 26 rfl) sp_256 ?_
    refine ww_iast C (kc_Mo_36 _ ho_v0).1 (kc_Mo_36 _ ho_v0).2 (dq dk_Mo_run 27 rfl) h (fun σ4 h => ?_)
    refine ww_iconst C (dq dk_Mo_run 28 rfl) ic_m1 ?_
    refine ww_istore_n C [(2, .int (-1)), (0, .ref (ad k v0)), (1, .int v1)] rfl hnL (lt_ rfl) rfl (dq dk_Mo_run 29 rfl) ?_
    exact ww_lv [1, 2, 0] rfl (t_Mo_run_B54 C hR hRm hnL FU v0 v1 (-1) ho_v0 σ4 h)
  · refine ww_iconst C (dq dk_Mo_run 18 rfl) ic_0 ?_
    exact ww_iret C hR (dq dk_Mo_run 19 rfl) h
set_option maxHeartbeats 4000000 in
set_option maxRecDepth 100000 in
theorem c_Mo_run (v0 : Nat) (ho_v0 : kd v0 = 12) (v1 : Int32) : MI y_Mo_run rm_Mo_run prog_14_method_81_code 3 .int (fun a => [.ref (a v0), .int v1]) (Mo_run v0 v1) := by
  refine mi_of (by decide) (fun _ => le_ rfl) ?_
  intro k res σ C hR hRm hnL h
  unfold Mo_run at h
  show WW k 0 [(0, .ref (ad k v0)), (1, .int v1)] [] σ
  refine ww_aload_n C 0 rfl rfl (dq dk_Mo_run 0 rfl) ?_
  refine ww_aload_n C 0 rfl rfl (dq dk_Mo_run 1 rfl) ?_
  refine ww_geti C ko_Mo 6 ho_v0 (lt_ rfl) g_6_56 rfl rfl (dq dk_Mo_run 2 rfl) ?_
  refine ww_if_ne C 12 (dq dk_Mo_run 3 rfl) (by decide) h (fun h => ?_) (fun h => ?_)
  · refine ww_iconst C (dq dk_Mo_run 6 rfl) ic_0 ?_
    refine ww_iload_n C 1 rfl rfl (dq dk_Mo_run 7 rfl) ?_
    refine ww_iconst C (dq dk_Mo_run 8 rfl) ic_1 ?_
    refine ww_icmp_lt C 25 (dq dk_Mo_run 9 rfl) (by decide) h (fun h => ?_) (fun h => ?_)
    · refine ww_iconst C (dq dk_Mo_run 13 rfl) ic_1 ?_
      refine ww_goto C 30 (dq dk_Mo_run 14 rfl) (by decide) ?_
      exact ww_lv [0, 1] rfl (t_Mo_run_B30 C hR hRm hnL v0 v1 v0 0 1 ho_v0 ho_v0 σ h)
    · refine ww_iload_n C 1 rfl rfl (dq dk_Mo_run 10 rfl) ?_
      refine ww_sipush C (dq dk_Mo_run 11 rfl) sp_5000 ?_
      refine ww_icmp_le C 29 (dq dk_Mo_run 12 rfl) (by decide) h (fun h => ?_) (fun h => ?_)
      · refine ww_iconst C (dq dk_Mo_run 15 rfl) ic_0 ?_
        exact ww_lv [0, 1] rfl (t_Mo_run_B30 C hR hRm hnL v0 v1 v0 0 0 ho_v0 ho_v0 σ h)
      · refine ww_iconst C (dq dk_Mo_run 13 rfl) ic_1 ?_
        refine ww_goto C 30 (dq dk_Mo_run 14 rfl) (by decide) ?_
        exact ww_lv [0, 1] rfl (t_Mo_run_B30 C hR hRm hnL v0 v1 v0 0 1 ho_v0 ho_v0 σ h)
  · refine ww_iconst C (dq dk_Mo_run 4 rfl) ic_1 ?_
    refine ww_goto C 13 (dq dk_Mo_run 5 rfl) (by decide) ?_
    refine ww_iload_n C 1 rfl rfl (dq dk_Mo_run 7 rfl) ?_
    refine ww_iconst C (dq dk_Mo_run 8 rfl) ic_1 ?_
    refine ww_icmp_lt C 25 (dq dk_Mo_run 9 rfl) (by decide) h (fun h => ?_) (fun h => ?_)
    · refine ww_iconst C (dq dk_Mo_run 13 rfl) ic_1 ?_
      refine ww_goto C 30 (dq dk_Mo_run 14 rfl) (by decide) ?_
      exact ww_lv [0, 1] rfl (t_Mo_run_B30 C hR hRm hnL v0 v1 v0 1 1 ho_v0 ho_v0 σ h)
    · refine ww_iload_n C 1 rfl rfl (dq dk_Mo_run 10 rfl) ?_
      refine ww_sipush C (dq dk_Mo_run 11 rfl) sp_5000 ?_
      refine ww_icmp_le C 29 (dq dk_Mo_run 12 rfl) (by decide) h (fun h => ?_) (fun h => ?_)
      · refine ww_iconst C (dq dk_Mo_run 15 rfl) ic_0 ?_
        exact ww_lv [0, 1] rfl (t_Mo_run_B30 C hR hRm hnL v0 v1 v0 1 0 ho_v0 ho_v0 σ h)
      · refine ww_iconst C (dq dk_Mo_run 13 rfl) ic_1 ?_
        refine ww_goto C 30 (dq dk_Mo_run 14 rfl) (by decide) ?_
        exact ww_lv [0, 1] rfl (t_Mo_run_B30 C hR hRm hnL v0 v1 v0 1 1 ho_v0 ho_v0 σ h)
abbrev y_Mo_passed : MethodName := ⟨"BundleHouseModel", "passed", "(I)I"⟩
def dl_Mo_passed : List (Nat × Instr × Nat) := [(0, .iload_n 1, 1), (1, .istore_n 2, 1), (2, .iload_n 2, 1), (3, .aload_n 0, 1), (4, .getfield 300, 3), (7, .if_icmp .ge 21, 3), (10, .aload_n 0, 1), (11, .getfield 23, 3), (14, .bipush 120, 2), (16, .iload_n 2, 1), (17, .iadd, 1), (18, .iaload, 1), (19, .ifCond .ne 9, 3), (22, .iinc 2 1, 3), (25, .goto (-23), 3), (28, .iload_n 2, 1), (29, .ireturn, 1)]
set_option maxRecDepth 100000 in
theorem dk_Mo_passed : ∀ q ∈ dl_Mo_passed, decode prog_14_method_84_code q.1 = .ok q.2 := by decide +kernel
abbrev rm_Mo_passed : Room := { frames := 0, cells := 0, slots := 0, locals := 0 }
theorem cw_Mo_passed : CWV y_Mo_passed prog_14_method_84_code 3 (some .int) 1 := ⟨⟨g_8_83, g_1_13, by decide, by decide, by decide +kernel⟩, g_8_82, gs_8_6⟩
set_option maxHeartbeats 4000000 in
set_option maxRecDepth 100000 in
theorem t_Mo_passed_B2 {k : Cfg} {res : Int32 × St} (C : Cx k prog_14_method_84_code "BundleHouseModel") (hR : RI k .int res) (hRm : k.2.2.2.1 = rm_Mo_passed) (hnL : k.2.2.2.2.2.2.2.2.2.2.2.1 = 3) : ∀ (n : Nat) (v0 : Nat) (v2 : Int32) (ho_v0 : kd v0 = 12) (σ : St), Mo_passed_B2 n v0 v2 σ = some res → WW k 2 [(0, .ref (ad k v0)), (2, .int v2)] [] σ := by
  intro n
  induction n with
  | zero =>
    intro v0 v2 ho_v0 σ h
    have h : (none : Option (Int32 × St)) = some res := h
    cases h
  | succ n ih =>
    intro v0 v2 ho_v0 σ h
    unfold Mo_passed_B2 at h
    refine ww_iload_n C 1 rfl rfl (dq dk_Mo_passed 2 rfl) ?_
    refine ww_aload_n C 0 rfl rfl (dq dk_Mo_passed 3 rfl) ?_
    refine ww_geti C ko_Mo 9 ho_v0 (lt_ rfl) g_6_59 rfl rfl (dq dk_Mo_passed 4 rfl) ?_
    refine ww_icmp_ge C 28 (dq dk_Mo_passed 5 rfl) (by decide) h (fun h => ?_) (fun h => ?_)
    · refine ww_iload_n C 1 rfl rfl (dq dk_Mo_passed 15 rfl) ?_
      exact ww_iret C hR (dq dk_Mo_passed 16 rfl) h
    · refine ww_aload_n C 0 rfl rfl (dq dk_Mo_passed 6 rfl) ?_
      refine ww_getr C ko_Mo 11 ho_v0 (lt_ rfl) g_6_61 rfl rfl (dq dk_Mo_passed 7 rfl) ?_
      refine ww_bipush C (dq dk_Mo_passed 8 rfl) bp_120 ?_
      refine ww_iload_n C 1 rfl rfl (dq dk_Mo_passed 9 rfl) ?_
      refine ww_iadd C (dq dk_Mo_passed 10 rfl) ?_
      refine ww_iald C (kc_Mo_11 _ ho_v0).1 (kc_Mo_11 _ ho_v0).2 (dq dk_Mo_passed 11 rfl) h (fun x1 h => ?_)
      refine ww_if_ne C 28 (dq dk_Mo_passed 12 rfl) (by decide) h (fun h => ?_) (fun h => ?_)
      · refine ww_iload_n C 1 rfl rfl (dq dk_Mo_passed 15 rfl) ?_
        exact ww_iret C hR (dq dk_Mo_passed 16 rfl) h
      · refine ww_iinc C 1 (fun z => [(2, .int z), (0, .ref (ad k v0))]) rfl ic_1 hnL (lt_ rfl) (fun _ => rfl) (dq dk_Mo_passed 13 rfl) h (fun x2 h => ?_)
        refine ww_goto C 2 (dq dk_Mo_passed 14 rfl) (by decide) ?_
        exact ww_lv [1, 0] rfl (ih v0 x2 ho_v0 σ h)
set_option maxHeartbeats 4000000 in
set_option maxRecDepth 100000 in
theorem c_Mo_passed (v0 : Nat) (ho_v0 : kd v0 = 12) (v1 : Int32) : MI y_Mo_passed rm_Mo_passed prog_14_method_84_code 3 .int (fun a => [.ref (a v0), .int v1]) (Mo_passed v0 v1) := by
  refine mi_of (by decide) (fun _ => le_ rfl) ?_
  intro k res σ C hR hRm hnL h
  unfold Mo_passed at h
  show WW k 0 [(0, .ref (ad k v0)), (1, .int v1)] [] σ
  refine ww_iload_n C 1 rfl rfl (dq dk_Mo_passed 0 rfl) ?_
  refine ww_istore_n C [(2, .int v1), (0, .ref (ad k v0)), (1, .int v1)] rfl hnL (lt_ rfl) rfl (dq dk_Mo_passed 1 rfl) ?_
  exact ww_lv [1, 0] rfl (t_Mo_passed_B2 C hR hRm hnL FU v0 v1 ho_v0 σ h)
abbrev y_Mo_leads : MethodName := ⟨"BundleHouseModel", "leads", "(I)I"⟩
def dl_Mo_leads : List (Nat × Instr × Nat) := [(0, .iload_n 1, 1), (1, .invokestatic 191, 3), (4, .ifCond .eq 10, 3), (7, .iconst (-1), 1), (8, .iload_n 1, 1), (9, .bipush 16, 2), (11, .idiv, 1), (12, .isub, 1), (13, .ireturn, 1), (14, .iconst 0, 1), (15, .istore_n 2, 1), (16, .iload_n 2, 1), (17, .aload_n 0, 1), (18, .getfield 300, 3), (21, .if_icmp .ge 102, 3), (24, .aload_n 0, 1), (25, .getfield 23, 3), (28, .bipush 120, 2), (30, .iload_n 2, 1), (31, .iadd, 1), (32, .iaload, 1), (33, .istore_n 3, 1), (34, .iload_n 3, 1), (35, .ifCond .ne 39, 3), (38, .aload_n 0, 1), (39, .getfield 35, 3), (42, .bipush 120, 2), (44, .iload_n 2, 1), (45, .iadd, 1), (46, .iaload, 1), (47, .iconst 1, 1), (48, .if_icmp .ne 26, 3), (51, .iload_n 1, 1), (52, .sipush 256, 3), (55, .aload_n 0, 1), (56, .getfield 44, 3), (59, .bipush 120, 2), (61, .iload_n 2, 1), (62, .iadd, 1), (63, .iaload, 1), (64, .iadd, 1), (65, .if_icmp .ne 9, 3), (68, .aload_n 0, 1), (69, .iload_n 2, 1), (70, .invokevirtual 418, 3), (73, .ireturn, 1), (74, .iload_n 3, 1), (75, .iconst 3, 1), (76, .if_icmp .eq 14, 3), (79, .iload_n 3, 1), (80, .iconst 4, 1), (81, .if_icmp .eq 9, 3), (84, .iload_n 3, 1), (85, .bipush 6, 2), (87, .if_icmp .ne 30, 3), (90, .iload_n 1, 1), (91, .sipush 256, 3), (94, .aload_n 0, 1), (95, .getfield 44, 3), (98, .bipush 120, 2), (100, .iload_n 2, 1), (101, .iadd, 1), (102, .iaload, 1), (103, .iadd, 1), (104, .iconst 5, 1), (105, .iadd, 1), (106, .if_icmp .ne 11, 3), (109, .aload_n 0, 1), (110, .iload_n 2, 1), (111, .iconst 1, 1), (112, .iadd, 1), (113, .invokevirtual 418, 3), (116, .ireturn, 1), (117, .iinc 2 1, 3), (120, .goto (-104), 3), (123, .bipush (-100), 2), (125, .ireturn, 1)]
set_option maxRecDepth 100000 in
theorem dk_Mo_leads : ∀ q ∈ dl_Mo_leads, decode prog_14_method_85_code q.1 = .ok q.2 := by decide +kernel
abbrev rm_Mo_leads : Room := { frames := 1, cells := 0, slots := 0, locals := 22 }
theorem cw_Mo_leads : CWV y_Mo_leads prog_14_method_85_code 4 (some .int) 1 := ⟨⟨g_8_95, g_1_13, by decide, by decide, by decide +kernel⟩, g_8_94, gs_8_9⟩
set_option maxHeartbeats 4000000 in
set_option maxRecDepth 100000 in
theorem t_Mo_leads_B90 {k : Cfg} {res : Int32 × St} (C : Cx k prog_14_method_85_code "BundleHouseModel") (hR : RI k .int res) (hRm : k.2.2.2.1 = rm_Mo_leads) (hnL : k.2.2.2.2.2.2.2.2.2.2.2.1 = 4) {K16 : Nat → Int32 → Int32 → St → Option (Int32 × St)} (hK16 : ∀ (v0 : Nat) (v1 : Int32) (v2 : Int32) (ho_v0 : kd v0 = 12) (σ : St), K16 v0 v1 v2 σ = some res → WW k 16 [(0, .ref (ad k v0)), (1, .int v1), (2, .int v2)] [] σ) (v0 : Nat) (v1 : Int32) (v2 : Int32) (ho_v0 : kd v0 = 12) (σ : St) (h : Mo_leads_B90 K16 v0 v1 v2 σ = some res) : WW k 90 [(0, .ref (ad k v0)), (1, .int v1), (2, .int v2)] [] σ := by
  unfold Mo_leads_B90 at h
  refine ww_iload_n C 1 rfl rfl (dq dk_Mo_leads 55 rfl) ?_
  refine ww_sipush C (dq dk_Mo_leads 56 rfl) sp_256 ?_
  refine ww_aload_n C 0 rfl rfl (dq dk_Mo_leads 57 rfl) ?_
  refine ww_getr C ko_Mo 18 ho_v0 (lt_ rfl) g_6_68 rfl rfl (dq dk_Mo_leads 58 rfl) ?_
  refine ww_bipush C (dq dk_Mo_leads 59 rfl) bp_120 ?_
  refine ww_iload_n C 2 rfl rfl (dq dk_Mo_leads 60 rfl) ?_
  refine ww_iadd C (dq dk_Mo_leads 61 rfl) ?_
  refine ww_iald C (kc_Mo_18 _ ho_v0).1 (kc_Mo_18 _ ho_v0).2 (dq dk_Mo_leads 62 rfl) h (fun x1 h => ?_)
  refine ww_iadd C (dq dk_Mo_leads 63 rfl) ?_
  refine ww_iconst C (dq dk_Mo_leads 64 rfl) ic_5 ?_
  refine ww_iadd C (dq dk_Mo_leads 65 rfl) ?_
  refine ww_icmp_ne C 117 (dq dk_Mo_leads 66 rfl) (by decide) h (fun h => ?_) (fun h => ?_)
  · refine ww_iinc C 2 (fun z => [(2, .int z), (0, .ref (ad k v0)), (1, .int v1)]) rfl ic_1 hnL (lt_ rfl) (fun _ => rfl) (dq dk_Mo_leads 73 rfl) h (fun x2 h => ?_)
    refine ww_goto C 16 (dq dk_Mo_leads 74 rfl) (by decide) ?_
    exact ww_lv [1, 2, 0] rfl (hK16 v0 v1 x2 ho_v0 σ h)
  · refine ww_aload_n C 0 rfl rfl (dq dk_Mo_leads 67 rfl) ?_
    refine ww_iload_n C 2 rfl rfl (dq dk_Mo_leads 68 rfl) ?_
    refine ww_iconst C (dq dk_Mo_leads 69 rfl) ic_1 ?_
    refine ww_iadd C (dq dk_Mo_leads 70 rfl) ?_
    refine ww_cVi (st := []) C (c_Mo_passed v0 ho_v0 (v2 + 1)) cw_Mo_passed ho_v0 (lt_ rfl) rfl g_8_80 hRm ⟨⟨rfl, rfl⟩, le_ rfl, le_ rfl⟩ rfl rfl rfl (le_ rfl) (dq dk_Mo_leads 71 rfl) h (fun x4 σ3 h => ?_)
    exact ww_iret C hR (dq dk_Mo_leads 72 rfl) h
set_option maxHeartbeats 4000000 in
set_option maxRecDepth 100000 in
theorem t_Mo_leads_B74 {k : Cfg} {res : Int32 × St} (C : Cx k prog_14_method_85_code "BundleHouseModel") (hR : RI k .int res) (hRm : k.2.2.2.1 = rm_Mo_leads) (hnL : k.2.2.2.2.2.2.2.2.2.2.2.1 = 4) {K16 : Nat → Int32 → Int32 → St → Option (Int32 × St)} (hK16 : ∀ (v0 : Nat) (v1 : Int32) (v2 : Int32) (ho_v0 : kd v0 = 12) (σ : St), K16 v0 v1 v2 σ = some res → WW k 16 [(0, .ref (ad k v0)), (1, .int v1), (2, .int v2)] [] σ) (v0 : Nat) (v1 : Int32) (v2 : Int32) (v3 : Int32) (ho_v0 : kd v0 = 12) (σ : St) (h : Mo_leads_B74 K16 v0 v1 v2 v3 σ = some res) : WW k 74 [(0, .ref (ad k v0)), (1, .int v1), (2, .int v2), (3, .int v3)] [] σ := by
  unfold Mo_leads_B74 at h
  refine ww_iload_n C 3 rfl rfl (dq dk_Mo_leads 46 rfl) ?_
  refine ww_iconst C (dq dk_Mo_leads 47 rfl) ic_3 ?_
  refine ww_icmp_eq C 90 (dq dk_Mo_leads 48 rfl) (by decide) h (fun h => ?_) (fun h => ?_)
  · exact ww_lv [0, 1, 2] rfl (t_Mo_leads_B90 C hR hRm hnL hK16 v0 v1 v2 ho_v0 σ h)
  · refine ww_iload_n C 3 rfl rfl (dq dk_Mo_leads 49 rfl) ?_
    refine ww_iconst C (dq dk_Mo_leads 50 rfl) ic_4 ?_
    refine ww_icmp_eq C 90 (dq dk_Mo_leads 51 rfl) (by decide) h (fun h => ?_) (fun h => ?_)
    · exact ww_lv [0, 1, 2] rfl (t_Mo_leads_B90 C hR hRm hnL hK16 v0 v1 v2 ho_v0 σ h)
    · refine ww_iload_n C 3 rfl rfl (dq dk_Mo_leads 52 rfl) ?_
      refine ww_bipush C (dq dk_Mo_leads 53 rfl) bp_6 ?_
      refine ww_icmp_ne C 117 (dq dk_Mo_leads 54 rfl) (by decide) h (fun h => ?_) (fun h => ?_)
      · refine ww_iinc C 2 (fun z => [(2, .int z), (0, .ref (ad k v0)), (1, .int v1), (3, .int v3)]) rfl ic_1 hnL (lt_ rfl) (fun _ => rfl) (dq dk_Mo_leads 73 rfl) h (fun x1 h => ?_)
        refine ww_goto C 16 (dq dk_Mo_leads 74 rfl) (by decide) ?_
        exact ww_lv [1, 2, 0] rfl (hK16 v0 v1 x1 ho_v0 σ h)
      · exact ww_lv [0, 1, 2] rfl (t_Mo_leads_B90 C hR hRm hnL hK16 v0 v1 v2 ho_v0 σ h)
set_option maxHeartbeats 4000000 in
set_option maxRecDepth 100000 in
theorem t_Mo_leads_B16 {k : Cfg} {res : Int32 × St} (C : Cx k prog_14_method_85_code "BundleHouseModel") (hR : RI k .int res) (hRm : k.2.2.2.1 = rm_Mo_leads) (hnL : k.2.2.2.2.2.2.2.2.2.2.2.1 = 4) : ∀ (n : Nat) (v0 : Nat) (v1 : Int32) (v2 : Int32) (ho_v0 : kd v0 = 12) (σ : St), Mo_leads_B16 n v0 v1 v2 σ = some res → WW k 16 [(0, .ref (ad k v0)), (1, .int v1), (2, .int v2)] [] σ := by
  intro n
  induction n with
  | zero =>
    intro v0 v1 v2 ho_v0 σ h
    have h : (none : Option (Int32 × St)) = some res := h
    cases h
  | succ n ih =>
    intro v0 v1 v2 ho_v0 σ h
    unfold Mo_leads_B16 at h
    refine ww_iload_n C 2 rfl rfl (dq dk_Mo_leads 11 rfl) ?_
    refine ww_aload_n C 0 rfl rfl (dq dk_Mo_leads 12 rfl) ?_
    refine ww_geti C ko_Mo 9 ho_v0 (lt_ rfl) g_6_59 rfl rfl (dq dk_Mo_leads 13 rfl) ?_
    refine ww_icmp_ge C 123 (dq dk_Mo_leads 14 rfl) (by decide) h (fun h => ?_) (fun h => ?_)
    · refine ww_bipush C (dq dk_Mo_leads 75 rfl) bp_m100 ?_
      exact ww_iret C hR (dq dk_Mo_leads 76 rfl) h
    · refine ww_aload_n C 0 rfl rfl (dq dk_Mo_leads 15 rfl) ?_
      refine ww_getr C ko_Mo 11 ho_v0 (lt_ rfl) g_6_61 rfl rfl (dq dk_Mo_leads 16 rfl) ?_
      refine ww_bipush C (dq dk_Mo_leads 17 rfl) bp_120 ?_
      refine ww_iload_n C 2 rfl rfl (dq dk_Mo_leads 18 rfl) ?_
      refine ww_iadd C (dq dk_Mo_leads 19 rfl) ?_
      refine ww_iald C (kc_Mo_11 _ ho_v0).1 (kc_Mo_11 _ ho_v0).2 (dq dk_Mo_leads 20 rfl) h (fun x1 h => ?_)
      refine ww_istore_n C [(3, .int x1), (0, .ref (ad k v0)), (1, .int v1), (2, .int v2)] rfl hnL (lt_ rfl) rfl (dq dk_Mo_leads 21 rfl) ?_
      refine ww_iload_n C 0 rfl rfl (dq dk_Mo_leads 22 rfl) ?_
      refine ww_if_ne C 74 (dq dk_Mo_leads 23 rfl) (by decide) h (fun h => ?_) (fun h => ?_)
      · exact ww_lv [1, 2, 3, 0] rfl (t_Mo_leads_B74 C hR hRm hnL ih v0 v1 v2 x1 ho_v0 σ h)
      · refine ww_aload_n C 1 rfl rfl (dq dk_Mo_leads 24 rfl) ?_
        refine ww_getr C ko_Mo 15 ho_v0 (lt_ rfl) g_6_65 rfl rfl (dq dk_Mo_leads 25 rfl) ?_
        refine ww_bipush C (dq dk_Mo_leads 26 rfl) bp_120 ?_
        refine ww_iload_n C 3 rfl rfl (dq dk_Mo_leads 27 rfl) ?_
        refine ww_iadd C (dq dk_Mo_leads 28 rfl) ?_
        refine ww_iald C (kc_Mo_15 _ ho_v0).1 (kc_Mo_15 _ ho_v0).2 (dq dk_Mo_leads 29 rfl) h (fun x2 h => ?_)
        refine ww_iconst C (dq dk_Mo_leads 30 rfl) ic_1 ?_
        refine ww_icmp_ne C 74 (dq dk_Mo_leads 31 rfl) (by decide) h (fun h => ?_) (fun h => ?_)
        · exact ww_lv [1, 2, 3, 0] rfl (t_Mo_leads_B74 C hR hRm hnL ih v0 v1 v2 x1 ho_v0 σ h)
        · refine ww_iload_n C 2 rfl rfl (dq dk_Mo_leads 32 rfl) ?_
          refine ww_sipush C (dq dk_Mo_leads 33 rfl) sp_256 ?_
          refine ww_aload_n C 1 rfl rfl (dq dk_Mo_leads 34 rfl) ?_
          refine ww_getr C ko_Mo 18 ho_v0 (lt_ rfl) g_6_68 rfl rfl (dq dk_Mo_leads 35 rfl) ?_
          refine ww_bipush C (dq dk_Mo_leads 36 rfl) bp_120 ?_
          refine ww_iload_n C 3 rfl rfl (dq dk_Mo_leads 37 rfl) ?_
          refine ww_iadd C (dq dk_Mo_leads 38 rfl) ?_
          refine ww_iald C (kc_Mo_18 _ ho_v0).1 (kc_Mo_18 _ ho_v0).2 (dq dk_Mo_leads 39 rfl) h (fun x3 h => ?_)
          refine ww_iadd C (dq dk_Mo_leads 40 rfl) ?_
          refine ww_icmp_ne C 74 (dq dk_Mo_leads 41 rfl) (by decide) h (fun h => ?_) (fun h => ?_)
          · exact ww_lv [1, 2, 3, 0] rfl (t_Mo_leads_B74 C hR hRm hnL ih v0 v1 v2 x1 ho_v0 σ h)
          · refine ww_aload_n C 1 rfl rfl (dq dk_Mo_leads 42 rfl) ?_
            refine ww_iload_n C 3 rfl rfl (dq dk_Mo_leads 43 rfl) ?_
            refine ww_cVi (st := []) C (c_Mo_passed v0 ho_v0 v2) cw_Mo_passed ho_v0 (lt_ rfl) rfl g_8_80 hRm ⟨⟨rfl, rfl⟩, le_ rfl, le_ rfl⟩ rfl rfl rfl (le_ rfl) (dq dk_Mo_leads 44 rfl) h (fun x5 σ4 h => ?_)
            exact ww_iret C hR (dq dk_Mo_leads 45 rfl) h
set_option maxHeartbeats 4000000 in
set_option maxRecDepth 100000 in
theorem c_Mo_leads (v0 : Nat) (ho_v0 : kd v0 = 12) (v1 : Int32) : MI y_Mo_leads rm_Mo_leads prog_14_method_85_code 4 .int (fun a => [.ref (a v0), .int v1]) (Mo_leads v0 v1) := by
  refine mi_of (by decide) (fun _ => le_ rfl) ?_
  intro k res σ C hR hRm hnL h
  unfold Mo_leads at h
  show WW k 0 [(0, .ref (ad k v0)), (1, .int v1)] [] σ
  refine ww_iload_n C 1 rfl rfl (dq dk_Mo_leads 0 rfl) ?_
  refine ww_cSi (st := []) C (c_Mo_isService v1) cw_Mo_isService g_7_73 hRm ⟨⟨rfl, rfl⟩, le_ rfl, le_ rfl⟩ rfl rfl rfl (le_ rfl) (dq dk_Mo_leads 1 rfl) h (fun x2 σ1 h => ?_)
  refine ww_if_eq C 14 (dq dk_Mo_leads 2 rfl) (by decide) h (fun h => ?_) (fun h => ?_)
  · refine ww_iconst C (dq dk_Mo_leads 9 rfl) ic_0 ?_
    refine ww_istore_n C [(2, .int 0), (0, .ref (ad k v0)), (1, .int v1)] rfl hnL (lt_ rfl) rfl (dq dk_Mo_leads 10 rfl) ?_
    exact ww_lv [1, 2, 0] rfl (t_Mo_leads_B16 C hR hRm hnL FU v0 v1 0 ho_v0 σ1 h)
  · refine ww_iconst C (dq dk_Mo_leads 3 rfl) ic_m1 ?_
    refine ww_iload_n C 1 rfl rfl (dq dk_Mo_leads 4 rfl) ?_
    refine ww_bipush C (dq dk_Mo_leads 5 rfl) bp_16 ?_
    refine ww_idiv C (by decide) (dq dk_Mo_leads 6 rfl) ?_
    refine ww_isub C (dq dk_Mo_leads 7 rfl) ?_
    exact ww_iret C hR (dq dk_Mo_leads 8 rfl) h
abbrev y_Mo_atService : MethodName := ⟨"BundleHouseModel", "atService", "(I)I"⟩
def dl_Mo_atService : List (Nat × Instr × Nat) := [(0, .iload_n 1, 1), (1, .ifCond .ne 15, 3), (4, .aload_n 0, 1), (5, .getfield 93, 3), (8, .iconst 1, 1), (9, .dup2, 1), (10, .iaload, 1), (11, .iconst 1, 1), (12, .iadd, 1), (13, .iastore, 1), (14, .iconst 2, 1), (15, .ireturn, 1), (16, .aload_n 0, 1), (17, .iconst 4, 1), (18, .invokevirtual 319, 3), (21, .invokestatic 356, 3), (24, .ifCond .ne 5, 3), (27, .iconst 3, 1), (28, .ireturn, 1), (29, .aload_n 0, 1), (30, .aload_n 0, 1), (31, .aload_n 0, 1), (32, .iconst 4, 1), (33, .invokevirtual 319, 3), (36, .invokevirtual 378, 3), (39, .invokevirtual 442, 3), (42, .istore_n 2, 1), (43, .iload_n 2, 1), (44, .bipush (-100), 2), (46, .if_icmp .ne 6, 3), (49, .bipush 9, 2), (51, .ireturn, 1), (52, .iload_n 1, 1), (53, .bipush 16, 2), (55, .if_icmp .ne 17, 3), (58, .aload_n 0, 1), (59, .getfield 87, 3), (62, .iconst 1, 1), (63, .iaload, 1), (64, .bipush 100, 2), (66, .if_icmp .ne 6, 3), (69, .bipush 6, 2), (71, .ireturn, 1), (72, .aload_n 0, 1), (73, .iload_n 1, 1), (74, .invokevirtual 402, 3), (77, .aload_n 0, 1), (78, .invokevirtual 390, 3), (81, .istore_n 3, 1), (82, .aload_n 0, 1), (83, .iload_n 2, 1), (84, .putfield 421, 3), (87, .aload_n 0, 1), (88, .getfield 93, 3), (91, .iconst 1, 1), (92, .dup2, 1), (93, .iaload, 1), (94, .iconst 1, 1), (95, .iadd, 1), (96, .iastore, 1), (97, .iconst (-1), 1), (98, .ireturn, 1)]
set_option maxRecDepth 100000 in
theorem dk_Mo_atService : ∀ q ∈ dl_Mo_atService, decode prog_14_method_93_code q.1 = .ok q.2 := by decide +kernel
abbrev rm_Mo_atService : Room := { frames := 2, cells := 0, slots := 0, locals := 45 }
theorem cw_Mo_atService : CWV y_Mo_atService prog_14_method_93_code 4 (some .int) 1 := ⟨⟨g_8_91, g_1_13, by decide, by decide, by decide +kernel⟩, g_8_90, gs_8_8⟩
set_option maxHeartbeats 4000000 in
set_option maxRecDepth 100000 in
theorem t_Mo_atService_B72 {k : Cfg} {res : Int32 × St} (C : Cx k prog_14_method_93_code "BundleHouseModel") (hR : RI k .int res) (hRm : k.2.2.2.1 = rm_Mo_atService) (hnL : k.2.2.2.2.2.2.2.2.2.2.2.1 = 4) (v0 : Nat) (v1 : Int32) (v2 : Int32) (ho_v0 : kd v0 = 12) (σ : St) (h : Mo_atService_B72 v0 v1 v2 σ = some res) : WW k 72 [(0, .ref (ad k v0)), (1, .int v1), (2, .int v2)] [] σ := by
  unfold Mo_atService_B72 at h
  refine ww_aload_n C 0 rfl rfl (dq dk_Mo_atService 43 rfl) ?_
  refine ww_iload_n C 1 rfl rfl (dq dk_Mo_atService 44 rfl) ?_
  refine ww_cVv (st := []) C (c_Mo_serves v0 ho_v0 v1) cw_Mo_serves ho_v0 (lt_ rfl) rfl g_7_239 hRm ⟨⟨rfl, rfl⟩, le_ rfl, le_ rfl⟩ rfl rfl rfl (le_ rfl) (dq dk_Mo_atService 45 rfl) h (fun σ1 h => ?_)
  refine ww_aload_n C 0 rfl rfl (dq dk_Mo_atService 46 rfl) ?_
  refine ww_cVi (st := []) C (c_Mo_pop v0 ho_v0) cw_Mo_pop ho_v0 (lt_ rfl) rfl g_8_7 hRm ⟨⟨rfl, rfl⟩, le_ rfl, le_ rfl⟩ rfl rfl rfl (le_ rfl) (dq dk_Mo_atService 47 rfl) h (fun x3 σ2 h => ?_)
  refine ww_istore_n C [(3, .int x3), (0, .ref (ad k v0)), (1, .int v1), (2, .int v2)] rfl hnL (lt_ rfl) rfl (dq dk_Mo_atService 48 rfl) ?_
  refine ww_aload_n C 1 rfl rfl (dq dk_Mo_atService 49 rfl) ?_
  refine ww_iload_n C 3 rfl rfl (dq dk_Mo_atService 50 rfl) ?_
  refine ww_puti C ko_Mo 62 ho_v0 (lt_ rfl) g_6_112 rfl rfl rfl rfl (dq dk_Mo_atService 51 rfl) h (fun σ4 h => ?_)
  refine ww_aload_n C 1 rfl rfl (dq dk_Mo_atService 52 rfl) ?_
  refine ww_getr C ko_Mo 37 ho_v0 (lt_ rfl) g_6_87 rfl rfl (dq dk_Mo_atService 53 rfl) ?_
  refine ww_iconst C (dq dk_Mo_atService 54 rfl) ic_1 ?_
  refine ww_dup2 C rfl rfl (dq dk_Mo_atService 55 rfl) ?_
  refine ww_iald C (kc_Mo_37 _ ho_v0).1 (kc_Mo_37 _ ho_v0).2 (dq dk_Mo_atService 56 rfl) h (fun x5 h => ?_)
  refine ww_iconst C (dq dk_Mo_atService 57 rfl) ic_1 ?_
  refine ww_iadd C (dq dk_Mo_atService 58 rfl) ?_
  refine ww_iast C (kc_Mo_37 _ ho_v0).1 (kc_Mo_37 _ ho_v0).2 (dq dk_Mo_atService 59 rfl) h (fun σ6 h => ?_)
  refine ww_iconst C (dq dk_Mo_atService 60 rfl) ic_m1 ?_
  exact ww_iret C hR (dq dk_Mo_atService 61 rfl) h
set_option maxHeartbeats 4000000 in
set_option maxRecDepth 100000 in
theorem c_Mo_atService (v0 : Nat) (ho_v0 : kd v0 = 12) (v1 : Int32) : MI y_Mo_atService rm_Mo_atService prog_14_method_93_code 4 .int (fun a => [.ref (a v0), .int v1]) (Mo_atService v0 v1) := by
  refine mi_of (by decide) (fun _ => le_ rfl) ?_
  intro k res σ C hR hRm hnL h
  unfold Mo_atService at h
  show WW k 0 [(0, .ref (ad k v0)), (1, .int v1)] [] σ
  refine ww_iload_n C 1 rfl rfl (dq dk_Mo_atService 0 rfl) ?_
  refine ww_if_ne C 16 (dq dk_Mo_atService 1 rfl) (by decide) h (fun h => ?_) (fun h => ?_)
  · refine ww_aload_n C 0 rfl rfl (dq dk_Mo_atService 12 rfl) ?_
    refine ww_iconst C (dq dk_Mo_atService 13 rfl) ic_4 ?_
    refine ww_cVi (st := []) C (c_Mo_reg v0 ho_v0 4) cw_Mo_reg ho_v0 (lt_ rfl) rfl g_7_232 hRm ⟨⟨rfl, rfl⟩, le_ rfl, le_ rfl⟩ rfl rfl rfl (le_ rfl) (dq dk_Mo_atService 14 rfl) h (fun x2 σ1 h => ?_)
    refine ww_cSi (st := []) C (c_Mo_isThere x2) cw_Mo_isThere g_7_236 hRm ⟨⟨rfl, rfl⟩, le_ rfl, le_ rfl⟩ rfl rfl rfl (le_ rfl) (dq dk_Mo_atService 15 rfl) h (fun x4 σ3 h => ?_)
    refine ww_if_ne C 29 (dq dk_Mo_atService 16 rfl) (by decide) h (fun h => ?_) (fun h => ?_)
    · refine ww_aload_n C 0 rfl rfl (dq dk_Mo_atService 19 rfl) ?_
      refine ww_aload_n C 0 rfl rfl (dq dk_Mo_atService 20 rfl) ?_
      refine ww_aload_n C 0 rfl rfl (dq dk_Mo_atService 21 rfl) ?_
      refine ww_iconst C (dq dk_Mo_atService 22 rfl) ic_4 ?_
      refine ww_cVi (st := [.ref (ad k v0), .ref (ad k v0)]) C (c_Mo_reg v0 ho_v0 4) cw_Mo_reg ho_v0 (lt_ rfl) rfl g_7_232 hRm ⟨⟨rfl, rfl⟩, le_ rfl, le_ rfl⟩ rfl rfl rfl (le_ rfl) (dq dk_Mo_atService 23 rfl) h (fun x6 σ5 h => ?_)
      refine ww_cVi (st := [.ref (ad k v0)]) C (c_Mo_load v0 ho_v0 x6) cw_Mo_load ho_v0 (lt_ rfl) rfl g_8_11 hRm ⟨⟨rfl, rfl⟩, le_ rfl, le_ rfl⟩ rfl rfl rfl (le_ rfl) (dq dk_Mo_atService 24 rfl) h (fun x8 σ7 h => ?_)
      refine ww_cVi (st := []) C (c_Mo_leads v0 ho_v0 x8) cw_Mo_leads ho_v0 (lt_ rfl) rfl g_8_92 hRm ⟨⟨rfl, rfl⟩, le_ rfl, le_ rfl⟩ rfl rfl rfl (le_ rfl) (dq dk_Mo_atService 25 rfl) h (fun x10 σ9 h => ?_)
      refine ww_istore_n C [(2, .int x10), (0, .ref (ad k v0)), (1, .int v1)] rfl hnL (lt_ rfl) rfl (dq dk_Mo_atService 26 rfl) ?_
      refine ww_iload_n C 0 rfl rfl (dq dk_Mo_atService 27 rfl) ?_
      refine ww_bipush C (dq dk_Mo_atService 28 rfl) bp_m100 ?_
      refine ww_icmp_ne C 52 (dq dk_Mo_atService 29 rfl) (by decide) h (fun h => ?_) (fun h => ?_)
      · refine ww_iload_n C 2 rfl rfl (dq dk_Mo_atService 32 rfl) ?_
        refine ww_bipush C (dq dk_Mo_atService 33 rfl) bp_16 ?_
        refine ww_icmp_ne C 72 (dq dk_Mo_atService 34 rfl) (by decide) h (fun h => ?_) (fun h => ?_)
        · exact ww_lv [1, 2, 0] rfl (t_Mo_atService_B72 C hR hRm hnL v0 v1 x10 ho_v0 σ9 h)
        · refine ww_aload_n C 1 rfl rfl (dq dk_Mo_atService 35 rfl) ?_
          refine ww_getr C ko_Mo 35 ho_v0 (lt_ rfl) g_6_85 rfl rfl (dq dk_Mo_atService 36 rfl) ?_
          refine ww_iconst C (dq dk_Mo_atService 37 rfl) ic_1 ?_
          refine ww_iald C (kc_Mo_35 _ ho_v0).1 (kc_Mo_35 _ ho_v0).2 (dq dk_Mo_atService 38 rfl) h (fun x11 h => ?_)
          refine ww_bipush C (dq dk_Mo_atService 39 rfl) bp_100 ?_
          refine ww_icmp_ne C 72 (dq dk_Mo_atService 40 rfl) (by decide) h (fun h => ?_) (fun h => ?_)
          · exact ww_lv [1, 2, 0] rfl (t_Mo_atService_B72 C hR hRm hnL v0 v1 x10 ho_v0 σ9 h)
          · refine ww_bipush C (dq dk_Mo_atService 41 rfl) bp_6 ?_
            exact ww_iret C hR (dq dk_Mo_atService 42 rfl) h
      · refine ww_bipush C (dq dk_Mo_atService 30 rfl) bp_9 ?_
        exact ww_iret C hR (dq dk_Mo_atService 31 rfl) h
    · refine ww_iconst C (dq dk_Mo_atService 17 rfl) ic_3 ?_
      exact ww_iret C hR (dq dk_Mo_atService 18 rfl) h
  · refine ww_aload_n C 0 rfl rfl (dq dk_Mo_atService 2 rfl) ?_
    refine ww_getr C ko_Mo 37 ho_v0 (lt_ rfl) g_6_87 rfl rfl (dq dk_Mo_atService 3 rfl) ?_
    refine ww_iconst C (dq dk_Mo_atService 4 rfl) ic_1 ?_
    refine ww_dup2 C rfl rfl (dq dk_Mo_atService 5 rfl) ?_
    refine ww_iald C (kc_Mo_37 _ ho_v0).1 (kc_Mo_37 _ ho_v0).2 (dq dk_Mo_atService 6 rfl) h (fun x12 h => ?_)
    refine ww_iconst C (dq dk_Mo_atService 7 rfl) ic_1 ?_
    refine ww_iadd C (dq dk_Mo_atService 8 rfl) ?_
    refine ww_iast C (kc_Mo_37 _ ho_v0).1 (kc_Mo_37 _ ho_v0).2 (dq dk_Mo_atService 9 rfl) h (fun σ13 h => ?_)
    refine ww_iconst C (dq dk_Mo_atService 10 rfl) ic_2 ?_
    exact ww_iret C hR (dq dk_Mo_atService 11 rfl) h
abbrev y_Mo_forgetFlags : MethodName := ⟨"BundleHouseModel", "forgetFlags", "()V"⟩
def dl_Mo_forgetFlags : List (Nat × Instr × Nat) := [(0, .iconst 4, 1), (1, .istore_n 1, 1), (2, .iload_n 1, 1), (3, .bipush 8, 2), (5, .if_icmp .ge 16, 3), (8, .aload_n 0, 1), (9, .getfield 78, 3), (12, .iload_n 1, 1), (13, .iconst 2, 1), (14, .iastore, 1), (15, .iinc 1 1, 3), (18, .goto (-16), 3), (21, .return_, 1)]
set_option maxRecDepth 100000 in
theorem dk_Mo_forgetFlags : ∀ q ∈ dl_Mo_forgetFlags, decode prog_14_method_90_code q.1 = .ok q.2 := by decide +kernel
abbrev rm_Mo_forgetFlags : Room := { frames := 0, cells := 0, slots := 0, locals := 0 }
theorem cw_Mo_forgetFlags : CWV y_Mo_forgetFlags prog_14_method_90_code 2 none 0 := ⟨⟨g_8_119, g_1_13, by decide, by decide, by decide +kernel⟩, g_8_118, gs_8_15⟩
set_option maxHeartbeats 4000000 in
set_option maxRecDepth 100000 in
theorem t_Mo_forgetFlags_B2 {k : Cfg} {res : St} (C : Cx k prog_14_method_90_code "BundleHouseModel") (hR : RV k res) (hRm : k.2.2.2.1 = rm_Mo_forgetFlags) (hnL : k.2.2.2.2.2.2.2.2.2.2.2.1 = 2) : ∀ (n : Nat) (v0 : Nat) (v1 : Int32) (ho_v0 : kd v0 = 12) (σ : St), Mo_forgetFlags_B2 n v0 v1 σ = some res → WW k 2 [(0, .ref (ad k v0)), (1, .int v1)] [] σ := by
  intro n
  induction n with
  | zero =>
    intro v0 v1 ho_v0 σ h
    have h : (none : Option (St)) = some res := h
    cases h
  | succ n ih =>
    intro v0 v1 ho_v0 σ h
    unfold Mo_forgetFlags_B2 at h
    refine ww_iload_n C 1 rfl rfl (dq dk_Mo_forgetFlags 2 rfl) ?_
    refine ww_bipush C (dq dk_Mo_forgetFlags 3 rfl) bp_8 ?_
    refine ww_icmp_ge C 21 (dq dk_Mo_forgetFlags 4 rfl) (by decide) h (fun h => ?_) (fun h => ?_)
    · exact ww_vret C hR (dq dk_Mo_forgetFlags 12 rfl) h
    · refine ww_aload_n C 0 rfl rfl (dq dk_Mo_forgetFlags 5 rfl) ?_
      refine ww_getr C ko_Mo 32 ho_v0 (lt_ rfl) g_6_82 rfl rfl (dq dk_Mo_forgetFlags 6 rfl) ?_
      refine ww_iload_n C 1 rfl rfl (dq dk_Mo_forgetFlags 7 rfl) ?_
      refine ww_iconst C (dq dk_Mo_forgetFlags 8 rfl) ic_2 ?_
      refine ww_iast C (kc_Mo_32 _ ho_v0).1 (kc_Mo_32 _ ho_v0).2 (dq dk_Mo_forgetFlags 9 rfl) h (fun σ1 h => ?_)
      refine ww_iinc C 1 (fun z => [(1, .int z), (0, .ref (ad k v0))]) rfl ic_1 hnL (lt_ rfl) (fun _ => rfl) (dq dk_Mo_forgetFlags 10 rfl) h (fun x2 h => ?_)
      refine ww_goto C 2 (dq dk_Mo_forgetFlags 11 rfl) (by decide) ?_
      exact ww_lv [1, 0] rfl (ih v0 x2 ho_v0 σ1 h)
set_option maxHeartbeats 4000000 in
set_option maxRecDepth 100000 in
theorem c_Mo_forgetFlags (v0 : Nat) (ho_v0 : kd v0 = 12) : MV y_Mo_forgetFlags rm_Mo_forgetFlags prog_14_method_90_code 2 (fun a => [.ref (a v0)]) (Mo_forgetFlags v0) := by
  refine mv_of (by decide) (fun _ => le_ rfl) ?_
  intro k res σ C hR hRm hnL h
  unfold Mo_forgetFlags at h
  show WW k 0 [(0, .ref (ad k v0))] [] σ
  refine ww_iconst C (dq dk_Mo_forgetFlags 0 rfl) ic_4 ?_
  refine ww_istore_n C [(1, .int 4), (0, .ref (ad k v0))] rfl hnL (lt_ rfl) rfl (dq dk_Mo_forgetFlags 1 rfl) ?_
  exact ww_lv [1, 0] rfl (t_Mo_forgetFlags_B2 C hR hRm hnL FU v0 4 ho_v0 σ h)
abbrev y_Mo_isUnknown : MethodName := ⟨"BundleHouseModel", "isUnknown", "(I)Z"⟩
def dl_Mo_isUnknown : List (Nat × Instr × Nat) := [(0, .iload_n 1, 1), (1, .iconst 1, 1), (2, .if_icmp .ne 14, 3), (5, .aload_n 0, 1), (6, .getfield 316, 3), (9, .ifCond .eq 7, 3), (12, .iconst 1, 1), (13, .goto 4, 3), (16, .iconst 0, 1), (17, .ireturn, 1)]
set_option maxRecDepth 100000 in
theorem dk_Mo_isUnknown : ∀ q ∈ dl_Mo_isUnknown, decode prog_14_method_86_code q.1 = .ok q.2 := by decide +kernel
abbrev rm_Mo_isUnknown : Room := { frames := 0, cells := 0, slots := 0, locals := 0 }
theorem cw_Mo_isUnknown : CWV y_Mo_isUnknown prog_14_method_86_code 2 (some .boolean) 1 := ⟨⟨g_8_111, g_1_13, by decide, by decide, by decide +kernel⟩, g_8_110, gs_8_13⟩
set_option maxHeartbeats 4000000 in
set_option maxRecDepth 100000 in
theorem c_Mo_isUnknown (v0 : Nat) (ho_v0 : kd v0 = 12) (v1 : Int32) : MI y_Mo_isUnknown rm_Mo_isUnknown prog_14_method_86_code 2 .boolean (fun a => [.ref (a v0), .int v1]) (Mo_isUnknown v0 v1) := by
  refine mi_of (by decide) (fun _ => le_ rfl) ?_
  intro k res σ C hR hRm hnL h
  unfold Mo_isUnknown at h
  show WW k 0 [(0, .ref (ad k v0)), (1, .int v1)] [] σ
  refine ww_iload_n C 1 rfl rfl (dq dk_Mo_isUnknown 0 rfl) ?_
  refine ww_iconst C (dq dk_Mo_isUnknown 1 rfl) ic_1 ?_
  refine ww_icmp_ne C 16 (dq dk_Mo_isUnknown 2 rfl) (by decide) h (fun h => ?_) (fun h => ?_)
  · refine ww_iconst C (dq dk_Mo_isUnknown 8 rfl) ic_0 ?_
    exact ww_zretL C hR (dq dk_Mo_isUnknown 9 rfl) (Or.inl rfl) h
  · refine ww_aload_n C 0 rfl rfl (dq dk_Mo_isUnknown 3 rfl) ?_
    refine ww_geti C ko_Mo 40 ho_v0 (lt_ rfl) g_6_90 rfl rfl (dq dk_Mo_isUnknown 4 rfl) ?_
    refine ww_if_eq C 16 (dq dk_Mo_isUnknown 5 rfl) (by decide) h (fun h => ?_) (fun h => ?_)
    · refine ww_iconst C (dq dk_Mo_isUnknown 8 rfl) ic_0 ?_
      exact ww_zretL C hR (dq dk_Mo_isUnknown 9 rfl) (Or.inl rfl) h
    · refine ww_iconst C (dq dk_Mo_isUnknown 6 rfl) ic_1 ?_
      refine ww_goto C 17 (dq dk_Mo_isUnknown 7 rfl) (by decide) ?_
      exact ww_zretL C hR (dq dk_Mo_isUnknown 9 rfl) (Or.inr rfl) h
abbrev y_Mo_namesUnknown : MethodName := ⟨"BundleHouseModel", "namesUnknown", "(I)Z"⟩
def dl_Mo_namesUnknown : List (Nat × Instr × Nat) := [(0, .aload_n 0, 1), (1, .getfield 78, 3), (4, .bipush 7, 2), (6, .iaload, 1), (7, .iconst 2, 1), (8, .if_icmp .ne 7, 3), (11, .iconst 1, 1), (12, .goto 4, 3), (15, .iconst 0, 1), (16, .istore_n 2, 1), (17, .aload_n 0, 1), (18, .getfield 78, 3), (21, .iconst 4, 1), (22, .iaload, 1), (23, .iconst 2, 1), (24, .if_icmp .ne 7, 3), (27, .iconst 1, 1), (28, .goto 4, 3), (31, .iconst 0, 1), (32, .istore_n 3, 1), (33, .aload_n 0, 1), (34, .getfield 78, 3), (37, .iconst 5, 1), (38, .iaload, 1), (39, .iconst 2, 1), (40, .if_icmp .ne 7, 3), (43, .iconst 1, 1), (44, .goto 4, 3), (47, .iconst 0, 1), (48, .istore 4, 2), (50, .aload_n 0, 1), (51, .getfield 78, 3), (54, .bipush 6, 2), (56, .iaload, 1), (57, .iconst 2, 1), (58, .if_icmp .ne 7, 3), (61, .iconst 1, 1), (62, .goto 4, 3), (65, .iconst 0, 1), (66, .istore 5, 2), (68, .iload_n 1, 1), (69, .iconst 1, 1), (70, .ishr, 1), (71, .tableswitch 81 0 6 #[41, 43, 45, 48, 63, 81, 66], 41), (112, .iload_n 2, 1), (113, .ireturn, 1), (114, .iload_n 3, 1), (115, .ireturn, 1), (116, .iload 4, 2), (118, .ireturn, 1), (119, .iload_n 3, 1), (120, .ifCond .ne 8, 3), (123, .iload 4, 2), (125, .ifCond .eq 7, 3), (128, .iconst 1, 1), (129, .goto 4, 3), (132, .iconst 0, 1), (133, .ireturn, 1), (134, .iload 5, 2), (136, .ireturn, 1), (137, .iload 5, 2), (139, .ifCond .ne 7, 3), (142, .iload_n 2, 1), (143, .ifCond .eq 7, 3), (146, .iconst 1, 1), (147, .goto 4, 3), (150, .iconst 0, 1), (151, .ireturn, 1), (152, .iload 4, 2), (154, .ifCond .ne 12, 3), (157, .iload 5, 2), (159, .ifCond .ne 7, 3), (162, .iload_n 2, 1), (163, .ifCond .eq 7, 3), (166, .iconst 1, 1), (167, .goto 4, 3), (170, .iconst 0, 1), (171, .ireturn, 1)]
set_option maxRecDepth 100000 in
theorem dk_Mo_namesUnknown : ∀ q ∈ dl_Mo_namesUnknown, decode prog_14_method_89_code q.1 = .ok q.2 := by decide +kernel
abbrev rm_Mo_namesUnknown : Room := { frames := 0, cells := 0, slots := 0, locals := 0 }
theorem cw_Mo_namesUnknown : CWV y_Mo_namesUnknown prog_14_method_89_code 6 (some .boolean) 1 := ⟨⟨g_8_115, g_1_13, by decide, by decide, by decide +kernel⟩, g_8_114, gs_8_14⟩
set_option maxHeartbeats 4000000 in
set_option maxRecDepth 100000 in
theorem t_Mo_namesUnknown_B66 {k : Cfg} {res : Int32 × St} (C : Cx k prog_14_method_89_code "BundleHouseModel") (hR : RI k .boolean res) (hRm : k.2.2.2.1 = rm_Mo_namesUnknown) (hnL : k.2.2.2.2.2.2.2.2.2.2.2.1 = 6) (v1 : Int32) (v2 : Int32) (v3 : Int32) (v4 : Int32) (t0 : Int32) (σ : St) (h : Mo_namesUnknown_B66 v1 v2 v3 v4 t0 σ = some res) : WW k 66 [(1, .int v1), (2, .int v2), (3, .int v3), (4, .int v4)] [.int t0] σ := by
  unfold Mo_namesUnknown_B66 at h
  refine ww_istore C [(5, .int t0), (1, .int v1), (2, .int v2), (3, .int v3), (4, .int v4)] hnL (lt_ rfl) rfl (dq dk_Mo_namesUnknown 39 rfl) ?_
  refine ww_iload_n C 1 rfl rfl (dq dk_Mo_namesUnknown 40 rfl) ?_
  refine ww_iconst C (dq dk_Mo_namesUnknown 41 rfl) ic_1 ?_
  refine ww_ishr C (dq dk_Mo_namesUnknown 42 rfl) ?_
  refine ww_nmi h (fun x1 h => ?_)
  by_cases e0_0 : x1 = 0
  · rw [if_pos e0_0] at h
    refine ww_tabIn C 112 (dq dk_Mo_namesUnknown 43 rfl) (by rw [e0_0]; decide) (by rw [e0_0]; decide) (by rw [e0_0]; rfl) (by decide) ?_
    refine ww_iload_n C 2 rfl rfl (dq dk_Mo_namesUnknown 44 rfl) ?_
    exact ww_zret C hR (dq dk_Mo_namesUnknown 45 rfl) h
  rw [if_neg e0_0] at h
  by_cases e1_1 : x1 = 1
  · rw [if_pos e1_1] at h
    refine ww_tabIn C 114 (dq dk_Mo_namesUnknown 43 rfl) (by rw [e1_1]; decide) (by rw [e1_1]; decide) (by rw [e1_1]; rfl) (by decide) ?_
    refine ww_iload_n C 3 rfl rfl (dq dk_Mo_namesUnknown 46 rfl) ?_
    exact ww_zret C hR (dq dk_Mo_namesUnknown 47 rfl) h
  rw [if_neg e1_1] at h
  by_cases e2_2 : x1 = 2
  · rw [if_pos e2_2] at h
    refine ww_tabIn C 116 (dq dk_Mo_namesUnknown 43 rfl) (by rw [e2_2]; decide) (by rw [e2_2]; decide) (by rw [e2_2]; rfl) (by decide) ?_
    refine ww_iload C 4 rfl (dq dk_Mo_namesUnknown 48 rfl) ?_
    exact ww_zret C hR (dq dk_Mo_namesUnknown 49 rfl) h
  rw [if_neg e2_2] at h
  by_cases e3_3 : x1 = 3
  · rw [if_pos e3_3] at h
    refine ww_tabIn C 119 (dq dk_Mo_namesUnknown 43 rfl) (by rw [e3_3]; decide) (by rw [e3_3]; decide) (by rw [e3_3]; rfl) (by decide) ?_
    refine ww_iload_n C 3 rfl rfl (dq dk_Mo_namesUnknown 50 rfl) ?_
    refine ww_if_ne C 128 (dq dk_Mo_namesUnknown 51 rfl) (by decide) h (fun h => ?_) (fun h => ?_)
    · refine ww_iconst C (dq dk_Mo_namesUnknown 54 rfl) ic_1 ?_
      refine ww_goto C 133 (dq dk_Mo_namesUnknown 55 rfl) (by decide) ?_
      exact ww_zretL C hR (dq dk_Mo_namesUnknown 57 rfl) (Or.inr rfl) h
    · refine ww_iload C 4 rfl (dq dk_Mo_namesUnknown 52 rfl) ?_
      refine ww_if_eq C 132 (dq dk_Mo_namesUnknown 53 rfl) (by decide) h (fun h => ?_) (fun h => ?_)
      · refine ww_iconst C (dq dk_Mo_namesUnknown 56 rfl) ic_0 ?_
        exact ww_zretL C hR (dq dk_Mo_namesUnknown 57 rfl) (Or.inl rfl) h
      · refine ww_iconst C (dq dk_Mo_namesUnknown 54 rfl) ic_1 ?_
        refine ww_goto C 133 (dq dk_Mo_namesUnknown 55 rfl) (by decide) ?_
        exact ww_zretL C hR (dq dk_Mo_namesUnknown 57 rfl) (Or.inr rfl) h
  rw [if_neg e3_3] at h
  by_cases e4_4 : x1 = 4
  · rw [if_pos e4_4] at h
    refine ww_tabIn C 134 (dq dk_Mo_namesUnknown 43 rfl) (by rw [e4_4]; decide) (by rw [e4_4]; decide) (by rw [e4_4]; rfl) (by decide) ?_
    refine ww_iload C 0 rfl (dq dk_Mo_namesUnknown 58 rfl) ?_
    exact ww_zret C hR (dq dk_Mo_namesUnknown 59 rfl) h
  rw [if_neg e4_4] at h
  by_cases e5_5 : x1 = 5
  · rw [if_pos e5_5] at h
    refine ww_tabIn C 152 (dq dk_Mo_namesUnknown 43 rfl) (by rw [e5_5]; decide) (by rw [e5_5]; decide) (by rw [e5_5]; rfl) (by decide) ?_
    refine ww_iload C 4 rfl (dq dk_Mo_namesUnknown 68 rfl) ?_
    refine ww_if_ne C 166 (dq dk_Mo_namesUnknown 69 rfl) (by decide) h (fun h => ?_) (fun h => ?_)
    · refine ww_iconst C (dq dk_Mo_namesUnknown 74 rfl) ic_1 ?_
      refine ww_goto C 171 (dq dk_Mo_namesUnknown 75 rfl) (by decide) ?_
      exact ww_zretL C hR (dq dk_Mo_namesUnknown 77 rfl) (Or.inr rfl) h
    · refine ww_iload C 0 rfl (dq dk_Mo_namesUnknown 70 rfl) ?_
      refine ww_if_ne C 166 (dq dk_Mo_namesUnknown 71 rfl) (by decide) h (fun h => ?_) (fun h => ?_)
      · refine ww_iconst C (dq dk_Mo_namesUnknown 74 rfl) ic_1 ?_
        refine ww_goto C 171 (dq dk_Mo_namesUnknown 75 rfl) (by decide) ?_
        exact ww_zretL C hR (dq dk_Mo_namesUnknown 77 rfl) (Or.inr rfl) h
      · refine ww_iload_n C 2 rfl rfl (dq dk_Mo_namesUnknown 72 rfl) ?_
        refine ww_if_eq C 170 (dq dk_Mo_namesUnknown 73 rfl) (by decide) h (fun h => ?_) (fun h => ?_)
        · refine ww_iconst C (dq dk_Mo_namesUnknown 76 rfl) ic_0 ?_
          exact ww_zretL C hR (dq dk_Mo_namesUnknown 77 rfl) (Or.inl rfl) h
        · refine ww_iconst C (dq dk_Mo_namesUnknown 74 rfl) ic_1 ?_
          refine ww_goto C 171 (dq dk_Mo_namesUnknown 75 rfl) (by decide) ?_
          exact ww_zretL C hR (dq dk_Mo_namesUnknown 77 rfl) (Or.inr rfl) h
  rw [if_neg e5_5] at h
  by_cases e6_6 : x1 = 6
  · rw [if_pos e6_6] at h
    refine ww_tabIn C 137 (dq dk_Mo_namesUnknown 43 rfl) (by rw [e6_6]; decide) (by rw [e6_6]; decide) (by rw [e6_6]; rfl) (by decide) ?_
    refine ww_iload C 0 rfl (dq dk_Mo_namesUnknown 60 rfl) ?_
    refine ww_if_ne C 146 (dq dk_Mo_namesUnknown 61 rfl) (by decide) h (fun h => ?_) (fun h => ?_)
    · refine ww_iconst C (dq dk_Mo_namesUnknown 64 rfl) ic_1 ?_
      refine ww_goto C 151 (dq dk_Mo_namesUnknown 65 rfl) (by decide) ?_
      exact ww_zretL C hR (dq dk_Mo_namesUnknown 67 rfl) (Or.inr rfl) h
    · refine ww_iload_n C 2 rfl rfl (dq dk_Mo_namesUnknown 62 rfl) ?_
      refine ww_if_eq C 150 (dq dk_Mo_namesUnknown 63 rfl) (by decide) h (fun h => ?_) (fun h => ?_)
      · refine ww_iconst C (dq dk_Mo_namesUnknown 66 rfl) ic_0 ?_
        exact ww_zretL C hR (dq dk_Mo_namesUnknown 67 rfl) (Or.inl rfl) h
      · refine ww_iconst C (dq dk_Mo_namesUnknown 64 rfl) ic_1 ?_
        refine ww_goto C 151 (dq dk_Mo_namesUnknown 65 rfl) (by decide) ?_
        exact ww_zretL C hR (dq dk_Mo_namesUnknown 67 rfl) (Or.inr rfl) h
  rw [if_neg e6_6] at h
  have ne0_0 := lv_neT (a := 0) e0_0 (by decide)
  have ne1_1 := lv_neT (a := 1) e1_1 (by decide)
  have ne2_2 := lv_neT (a := 2) e2_2 (by decide)
  have ne3_3 := lv_neT (a := 3) e3_3 (by decide)
  have ne4_4 := lv_neT (a := 4) e4_4 (by decide)
  have ne5_5 := lv_neT (a := 5) e5_5 (by decide)
  have ne6_6 := lv_neT (a := 6) e6_6 (by decide)
  refine ww_tabOut C 152 (dq dk_Mo_namesUnknown 43 rfl) (by omega) (by decide) ?_
  refine ww_iload C 4 rfl (dq dk_Mo_namesUnknown 68 rfl) ?_
  refine ww_if_ne C 166 (dq dk_Mo_namesUnknown 69 rfl) (by decide) h (fun h => ?_) (fun h => ?_)
  · refine ww_iconst C (dq dk_Mo_namesUnknown 74 rfl) ic_1 ?_
    refine ww_goto C 171 (dq dk_Mo_namesUnknown 75 rfl) (by decide) ?_
    exact ww_zretL C hR (dq dk_Mo_namesUnknown 77 rfl) (Or.inr rfl) h
  · refine ww_iload C 0 rfl (dq dk_Mo_namesUnknown 70 rfl) ?_
    refine ww_if_ne C 166 (dq dk_Mo_namesUnknown 71 rfl) (by decide) h (fun h => ?_) (fun h => ?_)
    · refine ww_iconst C (dq dk_Mo_namesUnknown 74 rfl) ic_1 ?_
      refine ww_goto C 171 (dq dk_Mo_namesUnknown 75 rfl) (by decide) ?_
      exact ww_zretL C hR (dq dk_Mo_namesUnknown 77 rfl) (Or.inr rfl) h
    · refine ww_iload_n C 2 rfl rfl (dq dk_Mo_namesUnknown 72 rfl) ?_
      refine ww_if_eq C 170 (dq dk_Mo_namesUnknown 73 rfl) (by decide) h (fun h => ?_) (fun h => ?_)
      · refine ww_iconst C (dq dk_Mo_namesUnknown 76 rfl) ic_0 ?_
        exact ww_zretL C hR (dq dk_Mo_namesUnknown 77 rfl) (Or.inl rfl) h
      · refine ww_iconst C (dq dk_Mo_namesUnknown 74 rfl) ic_1 ?_
        refine ww_goto C 171 (dq dk_Mo_namesUnknown 75 rfl) (by decide) ?_
        exact ww_zretL C hR (dq dk_Mo_namesUnknown 77 rfl) (Or.inr rfl) h
set_option maxHeartbeats 4000000 in
set_option maxRecDepth 100000 in
theorem t_Mo_namesUnknown_B48 {k : Cfg} {res : Int32 × St} (C : Cx k prog_14_method_89_code "BundleHouseModel") (hR : RI k .boolean res) (hRm : k.2.2.2.1 = rm_Mo_namesUnknown) (hnL : k.2.2.2.2.2.2.2.2.2.2.2.1 = 6) (v0 : Nat) (v1 : Int32) (v2 : Int32) (v3 : Int32) (t0 : Int32) (ho_v0 : kd v0 = 12) (σ : St) (h : Mo_namesUnknown_B48 v0 v1 v2 v3 t0 σ = some res) : WW k 48 [(0, .ref (ad k v0)), (1, .int v1), (2, .int v2), (3, .int v3)] [.int t0] σ := by
  unfold Mo_namesUnknown_B48 at h
  refine ww_istore C [(4, .int t0), (0, .ref (ad k v0)), (1, .int v1), (2, .int v2), (3, .int v3)] hnL (lt_ rfl) rfl (dq dk_Mo_namesUnknown 29 rfl) ?_
  refine ww_aload_n C 1 rfl rfl (dq dk_Mo_namesUnknown 30 rfl) ?_
  refine ww_getr C ko_Mo 32 ho_v0 (lt_ rfl) g_6_82 rfl rfl (dq dk_Mo_namesUnknown 31 rfl) ?_
  refine ww_bipush C (dq dk_Mo_namesUnknown 32 rfl) bp_6 ?_
  refine ww_iald C (kc_Mo_32 _ ho_v0).1 (kc_Mo_32 _ ho_v0).2 (dq dk_Mo_namesUnknown 33 rfl) h (fun x1 h => ?_)
  refine ww_iconst C (dq dk_Mo_namesUnknown 34 rfl) ic_2 ?_
  refine ww_icmp_ne C 65 (dq dk_Mo_namesUnknown 35 rfl) (by decide) h (fun h => ?_) (fun h => ?_)
  · refine ww_iconst C (dq dk_Mo_namesUnknown 38 rfl) ic_0 ?_
    exact ww_lv [2, 3, 4, 0] rfl (t_Mo_namesUnknown_B66 C hR hRm hnL v1 v2 v3 t0 0 σ h)
  · refine ww_iconst C (dq dk_Mo_namesUnknown 36 rfl) ic_1 ?_
    refine ww_goto C 66 (dq dk_Mo_namesUnknown 37 rfl) (by decide) ?_
    exact ww_lv [2, 3, 4, 0] rfl (t_Mo_namesUnknown_B66 C hR hRm hnL v1 v2 v3 t0 1 σ h)
set_option maxHeartbeats 4000000 in
set_option maxRecDepth 100000 in
theorem t_Mo_namesUnknown_B32 {k : Cfg} {res : Int32 × St} (C : Cx k prog_14_method_89_code "BundleHouseModel") (hR : RI k .boolean res) (hRm : k.2.2.2.1 = rm_Mo_namesUnknown) (hnL : k.2.2.2.2.2.2.2.2.2.2.2.1 = 6) (v0 : Nat) (v1 : Int32) (v2 : Int32) (t0 : Int32) (ho_v0 : kd v0 = 12) (σ : St) (h : Mo_namesUnknown_B32 v0 v1 v2 t0 σ = some res) : WW k 32 [(0, .ref (ad k v0)), (1, .int v1), (2, .int v2)] [.int t0] σ := by
  unfold Mo_namesUnknown_B32 at h
  refine ww_istore_n C [(3, .int t0), (0, .ref (ad k v0)), (1, .int v1), (2, .int v2)] rfl hnL (lt_ rfl) rfl (dq dk_Mo_namesUnknown 19 rfl) ?_
  refine ww_aload_n C 1 rfl rfl (dq dk_Mo_namesUnknown 20 rfl) ?_
  refine ww_getr C ko_Mo 32 ho_v0 (lt_ rfl) g_6_82 rfl rfl (dq dk_Mo_namesUnknown 21 rfl) ?_
  refine ww_iconst C (dq dk_Mo_namesUnknown 22 rfl) ic_5 ?_
  refine ww_iald C (kc_Mo_32 _ ho_v0).1 (kc_Mo_32 _ ho_v0).2 (dq dk_Mo_namesUnknown 23 rfl) h (fun x1 h => ?_)
  refine ww_iconst C (dq dk_Mo_namesUnknown 24 rfl) ic_2 ?_
  refine ww_icmp_ne C 47 (dq dk_Mo_namesUnknown 25 rfl) (by decide) h (fun h => ?_) (fun h => ?_)
  · refine ww_iconst C (dq dk_Mo_namesUnknown 28 rfl) ic_0 ?_
    exact ww_lv [1, 2, 3, 0] rfl (t_Mo_namesUnknown_B48 C hR hRm hnL v0 v1 v2 t0 0 ho_v0 σ h)
  · refine ww_iconst C (dq dk_Mo_namesUnknown 26 rfl) ic_1 ?_
    refine ww_goto C 48 (dq dk_Mo_namesUnknown 27 rfl) (by decide) ?_
    exact ww_lv [1, 2, 3, 0] rfl (t_Mo_namesUnknown_B48 C hR hRm hnL v0 v1 v2 t0 1 ho_v0 σ h)
set_option maxHeartbeats 4000000 in
set_option maxRecDepth 100000 in
theorem t_Mo_namesUnknown_B16 {k : Cfg} {res : Int32 × St} (C : Cx k prog_14_method_89_code "BundleHouseModel") (hR : RI k .boolean res) (hRm : k.2.2.2.1 = rm_Mo_namesUnknown) (hnL : k.2.2.2.2.2.2.2.2.2.2.2.1 = 6) (v0 : Nat) (v1 : Int32) (t0 : Int32) (ho_v0 : kd v0 = 12) (σ : St) (h : Mo_namesUnknown_B16 v0 v1 t0 σ = some res) : WW k 16 [(0, .ref (ad k v0)), (1, .int v1)] [.int t0] σ := by
  unfold Mo_namesUnknown_B16 at h
  refine ww_istore_n C [(2, .int t0), (0, .ref (ad k v0)), (1, .int v1)] rfl hnL (lt_ rfl) rfl (dq dk_Mo_namesUnknown 9 rfl) ?_
  refine ww_aload_n C 1 rfl rfl (dq dk_Mo_namesUnknown 10 rfl) ?_
  refine ww_getr C ko_Mo 32 ho_v0 (lt_ rfl) g_6_82 rfl rfl (dq dk_Mo_namesUnknown 11 rfl) ?_
  refine ww_iconst C (dq dk_Mo_namesUnknown 12 rfl) ic_4 ?_
  refine ww_iald C (kc_Mo_32 _ ho_v0).1 (kc_Mo_32 _ ho_v0).2 (dq dk_Mo_namesUnknown 13 rfl) h (fun x1 h => ?_)
  refine ww_iconst C (dq dk_Mo_namesUnknown 14 rfl) ic_2 ?_
  refine ww_icmp_ne C 31 (dq dk_Mo_namesUnknown 15 rfl) (by decide) h (fun h => ?_) (fun h => ?_)
  · refine ww_iconst C (dq dk_Mo_namesUnknown 18 rfl) ic_0 ?_
    exact ww_lv [1, 2, 0] rfl (t_Mo_namesUnknown_B32 C hR hRm hnL v0 v1 t0 0 ho_v0 σ h)
  · refine ww_iconst C (dq dk_Mo_namesUnknown 16 rfl) ic_1 ?_
    refine ww_goto C 32 (dq dk_Mo_namesUnknown 17 rfl) (by decide) ?_
    exact ww_lv [1, 2, 0] rfl (t_Mo_namesUnknown_B32 C hR hRm hnL v0 v1 t0 1 ho_v0 σ h)
set_option maxHeartbeats 4000000 in
set_option maxRecDepth 100000 in
theorem c_Mo_namesUnknown (v0 : Nat) (ho_v0 : kd v0 = 12) (v1 : Int32) : MI y_Mo_namesUnknown rm_Mo_namesUnknown prog_14_method_89_code 6 .boolean (fun a => [.ref (a v0), .int v1]) (Mo_namesUnknown v0 v1) := by
  refine mi_of (by decide) (fun _ => le_ rfl) ?_
  intro k res σ C hR hRm hnL h
  unfold Mo_namesUnknown at h
  show WW k 0 [(0, .ref (ad k v0)), (1, .int v1)] [] σ
  refine ww_aload_n C 0 rfl rfl (dq dk_Mo_namesUnknown 0 rfl) ?_
  refine ww_getr C ko_Mo 32 ho_v0 (lt_ rfl) g_6_82 rfl rfl (dq dk_Mo_namesUnknown 1 rfl) ?_
  refine ww_bipush C (dq dk_Mo_namesUnknown 2 rfl) bp_7 ?_
  refine ww_iald C (kc_Mo_32 _ ho_v0).1 (kc_Mo_32 _ ho_v0).2 (dq dk_Mo_namesUnknown 3 rfl) h (fun x1 h => ?_)
  refine ww_iconst C (dq dk_Mo_namesUnknown 4 rfl) ic_2 ?_
  refine ww_icmp_ne C 15 (dq dk_Mo_namesUnknown 5 rfl) (by decide) h (fun h => ?_) (fun h => ?_)
  · refine ww_iconst C (dq dk_Mo_namesUnknown 8 rfl) ic_0 ?_
    exact ww_lv [0, 1] rfl (t_Mo_namesUnknown_B16 C hR hRm hnL v0 v1 0 ho_v0 σ h)
  · refine ww_iconst C (dq dk_Mo_namesUnknown 6 rfl) ic_1 ?_
    refine ww_goto C 16 (dq dk_Mo_namesUnknown 7 rfl) (by decide) ?_
    exact ww_lv [0, 1] rfl (t_Mo_namesUnknown_B16 C hR hRm hnL v0 v1 1 ho_v0 σ h)
abbrev y_Mo_memoryUnknown : MethodName := ⟨"BundleHouseModel", "memoryUnknown", "()Z"⟩
def dl_Mo_memoryUnknown : List (Nat × Instr × Nat) := [(0, .aload_n 0, 1), (1, .invokevirtual 359, 3), (4, .ifCond .eq 37, 3), (7, .aload_n 0, 1), (8, .aload_n 0, 1), (9, .getfield 362, 3), (12, .bipush 15, 2), (14, .iand, 1), (15, .invokevirtual 427, 3), (18, .ifCond .ne 19, 3), (21, .aload_n 0, 1), (22, .aload_n 0, 1), (23, .getfield 362, 3), (26, .iconst 4, 1), (27, .ishr, 1), (28, .bipush 15, 2), (30, .iand, 1), (31, .invokevirtual 427, 3), (34, .ifCond .eq 7, 3), (37, .iconst 1, 1), (38, .goto 4, 3), (41, .iconst 0, 1), (42, .ireturn, 1)]
set_option maxRecDepth 100000 in
theorem dk_Mo_memoryUnknown : ∀ q ∈ dl_Mo_memoryUnknown, decode prog_14_method_87_code q.1 = .ok q.2 := by decide +kernel
abbrev rm_Mo_memoryUnknown : Room := { frames := 1, cells := 0, slots := 0, locals := 21 }
theorem cw_Mo_memoryUnknown : CWV y_Mo_memoryUnknown prog_14_method_87_code 1 (some .boolean) 0 := ⟨⟨g_8_107, g_1_13, by decide, by decide, by decide +kernel⟩, g_8_106, gs_8_12⟩
set_option maxHeartbeats 4000000 in
set_option maxRecDepth 100000 in
theorem c_Mo_memoryUnknown (v0 : Nat) (ho_v0 : kd v0 = 12) : MI y_Mo_memoryUnknown rm_Mo_memoryUnknown prog_14_method_87_code 1 .boolean (fun a => [.ref (a v0)]) (Mo_memoryUnknown v0) := by
  refine mi_of (by decide) (fun _ => le_ rfl) ?_
  intro k res σ C hR hRm hnL h
  unfold Mo_memoryUnknown at h
  show WW k 0 [(0, .ref (ad k v0))] [] σ
  refine ww_aload_n C 0 rfl rfl (dq dk_Mo_memoryUnknown 0 rfl) ?_
  refine ww_cVi (st := []) C (c_Mo_isOnMemory v0 ho_v0) cw_Mo_isOnMemory ho_v0 (lt_ rfl) rfl g_8_23 hRm ⟨⟨rfl, rfl⟩, le_ rfl, le_ rfl⟩ rfl rfl rfl (le_ rfl) (dq dk_Mo_memoryUnknown 1 rfl) h (fun x2 σ1 h => ?_)
  refine ww_if_eq C 41 (dq dk_Mo_memoryUnknown 2 rfl) (by decide) h (fun h => ?_) (fun h => ?_)
  · refine ww_iconst C (dq dk_Mo_memoryUnknown 21 rfl) ic_0 ?_
    exact ww_zretL C hR (dq dk_Mo_memoryUnknown 22 rfl) (Or.inl rfl) h
  · refine ww_aload_n C 0 rfl rfl (dq dk_Mo_memoryUnknown 3 rfl) ?_
    refine ww_aload_n C 0 rfl rfl (dq dk_Mo_memoryUnknown 4 rfl) ?_
    refine ww_geti C ko_Mo 59 ho_v0 (lt_ rfl) g_6_109 rfl rfl (dq dk_Mo_memoryUnknown 5 rfl) ?_
    refine ww_bipush C (dq dk_Mo_memoryUnknown 6 rfl) bp_15 ?_
    refine ww_iand C (dq dk_Mo_memoryUnknown 7 rfl) ?_
    refine ww_cVi (st := []) C (c_Mo_isUnknown v0 ho_v0 ((σ1 v0 59) &&& 15)) cw_Mo_isUnknown ho_v0 (lt_ rfl) rfl g_8_108 hRm ⟨⟨rfl, rfl⟩, le_ rfl, le_ rfl⟩ rfl rfl rfl (le_ rfl) (dq dk_Mo_memoryUnknown 8 rfl) h (fun x4 σ3 h => ?_)
    refine ww_if_ne C 37 (dq dk_Mo_memoryUnknown 9 rfl) (by decide) h (fun h => ?_) (fun h => ?_)
    · refine ww_iconst C (dq dk_Mo_memoryUnknown 19 rfl) ic_1 ?_
      refine ww_goto C 42 (dq dk_Mo_memoryUnknown 20 rfl) (by decide) ?_
      exact ww_zretL C hR (dq dk_Mo_memoryUnknown 22 rfl) (Or.inr rfl) h
    · refine ww_aload_n C 0 rfl rfl (dq dk_Mo_memoryUnknown 10 rfl) ?_
      refine ww_aload_n C 0 rfl rfl (dq dk_Mo_memoryUnknown 11 rfl) ?_
      refine ww_geti C ko_Mo 59 ho_v0 (lt_ rfl) g_6_109 rfl rfl (dq dk_Mo_memoryUnknown 12 rfl) ?_
      refine ww_iconst C (dq dk_Mo_memoryUnknown 13 rfl) ic_4 ?_
      refine ww_ishr C (dq dk_Mo_memoryUnknown 14 rfl) ?_
      refine ww_bipush C (dq dk_Mo_memoryUnknown 15 rfl) bp_15 ?_
      refine ww_iand C (dq dk_Mo_memoryUnknown 16 rfl) ?_
      refine ww_cVi (st := []) C (c_Mo_isUnknown v0 ho_v0 ((shr (σ3 v0 59) 4) &&& 15)) cw_Mo_isUnknown ho_v0 (lt_ rfl) rfl g_8_108 hRm ⟨⟨rfl, rfl⟩, le_ rfl, le_ rfl⟩ rfl rfl rfl (le_ rfl) (dq dk_Mo_memoryUnknown 17 rfl) h (fun x6 σ5 h => ?_)
      refine ww_if_eq C 41 (dq dk_Mo_memoryUnknown 18 rfl) (by decide) h (fun h => ?_) (fun h => ?_)
      · refine ww_iconst C (dq dk_Mo_memoryUnknown 21 rfl) ic_0 ?_
        exact ww_zretL C hR (dq dk_Mo_memoryUnknown 22 rfl) (Or.inl rfl) h
      · refine ww_iconst C (dq dk_Mo_memoryUnknown 19 rfl) ic_1 ?_
        refine ww_goto C 42 (dq dk_Mo_memoryUnknown 20 rfl) (by decide) ?_
        exact ww_zretL C hR (dq dk_Mo_memoryUnknown 22 rfl) (Or.inr rfl) h
abbrev y_Mo_readsUnknown : MethodName := ⟨"BundleHouseModel", "readsUnknown", "()Z"⟩
def dl_Mo_readsUnknown : List (Nat × Instr × Nat) := [(0, .aload_n 0, 1), (1, .invokevirtual 430, 3), (4, .ifCond .eq 5, 3), (7, .iconst 1, 1), (8, .ireturn, 1), (9, .aload_n 0, 1), (10, .getfield 353, 3), (13, .iconst 2, 1), (14, .if_icmp .eq 11, 3), (17, .aload_n 0, 1), (18, .getfield 353, 3), (21, .iconst 3, 1), (22, .if_icmp .ne 15, 3), (25, .aload_n 0, 1), (26, .getfield 78, 3), (29, .iconst 4, 1), (30, .iaload, 1), (31, .iconst 2, 1), (32, .if_icmp .ne 5, 3), (35, .iconst 1, 1), (36, .ireturn, 1), (37, .aload_n 0, 1), (38, .getfield 350, 3), (41, .iconst 2, 1), (42, .if_icmp .ne 14, 3), (45, .aload_n 0, 1), (46, .aload_n 0, 1), (47, .getfield 362, 3), (50, .invokevirtual 427, 3), (53, .ifCond .ne 22, 3), (56, .aload_n 0, 1), (57, .getfield 350, 3), (60, .iconst 4, 1), (61, .if_icmp .ne 16, 3), (64, .aload_n 0, 1), (65, .aload_n 0, 1), (66, .getfield 384, 3), (69, .invokevirtual 427, 3), (72, .ifCond .eq 5, 3), (75, .iconst 1, 1), (76, .ireturn, 1), (77, .aload_n 0, 1), (78, .getfield 350, 3), (81, .iconst 1, 1), (82, .if_icmp .eq 27, 3), (85, .aload_n 0, 1), (86, .getfield 350, 3), (89, .iconst 2, 1), (90, .if_icmp .eq 19, 3), (93, .aload_n 0, 1), (94, .getfield 350, 3), (97, .iconst 3, 1), (98, .if_icmp .eq 11, 3), (101, .aload_n 0, 1), (102, .getfield 350, 3), (105, .iconst 5, 1), (106, .if_icmp .ne 7, 3), (109, .iconst 1, 1), (110, .goto 4, 3), (113, .iconst 0, 1), (114, .istore_n 1, 1), (115, .iload_n 1, 1), (116, .ifCond .eq 45, 3), (119, .aload_n 0, 1), (120, .aload_n 0, 1), (121, .getfield 384, 3), (124, .invokevirtual 427, 3), (127, .ifCond .eq 34, 3), (130, .aload_n 0, 1), (131, .getfield 353, 3), (134, .bipush 8, 2), (136, .if_icmp .eq 25, 3), (139, .aload_n 0, 1), (140, .getfield 353, 3), (143, .bipush 10, 2), (145, .if_icmp .eq 16, 3), (148, .aload_n 0, 1), (149, .getfield 353, 3), (152, .bipush 20, 2), (154, .if_icmp .eq 7, 3), (157, .iconst 1, 1), (158, .goto 4, 3), (161, .iconst 0, 1), (162, .ireturn, 1)]
set_option maxRecDepth 100000 in
theorem dk_Mo_readsUnknown : ∀ q ∈ dl_Mo_readsUnknown, decode prog_14_method_88_code q.1 = .ok q.2 := by decide +kernel
abbrev rm_Mo_readsUnknown : Room := { frames := 2, cells := 0, slots := 0, locals := 41 }
theorem cw_Mo_readsUnknown : CWV y_Mo_readsUnknown prog_14_method_88_code 2 (some .boolean) 0 := ⟨⟨g_8_103, g_1_13, by decide, by decide, by decide +kernel⟩, g_8_102, gs_8_11⟩
set_option maxHeartbeats 4000000 in
set_option maxRecDepth 100000 in
theorem t_Mo_readsUnknown_B114 {k : Cfg} {res : Int32 × St} (C : Cx k prog_14_method_88_code "BundleHouseModel") (hR : RI k .boolean res) (hRm : k.2.2.2.1 = rm_Mo_readsUnknown) (hnL : k.2.2.2.2.2.2.2.2.2.2.2.1 = 2) (v0 : Nat) (t0 : Int32) (ho_v0 : kd v0 = 12) (σ : St) (h : Mo_readsUnknown_B114 v0 t0 σ = some res) : WW k 114 [(0, .ref (ad k v0))] [.int t0] σ := by
  unfold Mo_readsUnknown_B114 at h
  refine ww_istore_n C [(1, .int t0), (0, .ref (ad k v0))] rfl hnL (lt_ rfl) rfl (dq dk_Mo_readsUnknown 60 rfl) ?_
  refine ww_iload_n C 0 rfl rfl (dq dk_Mo_readsUnknown 61 rfl) ?_
  refine ww_if_eq C 161 (dq dk_Mo_readsUnknown 62 rfl) (by decide) h (fun h => ?_) (fun h => ?_)
  · refine ww_iconst C (dq dk_Mo_readsUnknown 82 rfl) ic_0 ?_
    exact ww_zretL C hR (dq dk_Mo_readsUnknown 83 rfl) (Or.inl rfl) h
  · refine ww_aload_n C 1 rfl rfl (dq dk_Mo_readsUnknown 63 rfl) ?_
    refine ww_aload_n C 1 rfl rfl (dq dk_Mo_readsUnknown 64 rfl) ?_
    refine ww_geti C ko_Mo 58 ho_v0 (lt_ rfl) g_6_108 rfl rfl (dq dk_Mo_readsUnknown 65 rfl) ?_
    refine ww_cVi (st := []) C (c_Mo_isUnknown v0 ho_v0 (σ v0 58)) cw_Mo_isUnknown ho_v0 (lt_ rfl) rfl g_8_108 hRm ⟨⟨rfl, rfl⟩, le_ rfl, le_ rfl⟩ rfl rfl rfl (le_ rfl) (dq dk_Mo_readsUnknown 66 rfl) h (fun x2 σ1 h => ?_)
    refine ww_if_eq C 161 (dq dk_Mo_readsUnknown 67 rfl) (by decide) h (fun h => ?_) (fun h => ?_)
    · refine ww_iconst C (dq dk_Mo_readsUnknown 82 rfl) ic_0 ?_
      exact ww_zretL C hR (dq dk_Mo_readsUnknown 83 rfl) (Or.inl rfl) h
    · refine ww_aload_n C 1 rfl rfl (dq dk_Mo_readsUnknown 68 rfl) ?_
      refine ww_geti C ko_Mo 56 ho_v0 (lt_ rfl) g_6_106 rfl rfl (dq dk_Mo_readsUnknown 69 rfl) ?_
      refine ww_bipush C (dq dk_Mo_readsUnknown 70 rfl) bp_8 ?_
      refine ww_icmp_eq C 161 (dq dk_Mo_readsUnknown 71 rfl) (by decide) h (fun h => ?_) (fun h => ?_)
      · refine ww_iconst C (dq dk_Mo_readsUnknown 82 rfl) ic_0 ?_
        exact ww_zretL C hR (dq dk_Mo_readsUnknown 83 rfl) (Or.inl rfl) h
      · refine ww_aload_n C 1 rfl rfl (dq dk_Mo_readsUnknown 72 rfl) ?_
        refine ww_geti C ko_Mo 56 ho_v0 (lt_ rfl) g_6_106 rfl rfl (dq dk_Mo_readsUnknown 73 rfl) ?_
        refine ww_bipush C (dq dk_Mo_readsUnknown 74 rfl) bp_10 ?_
        refine ww_icmp_eq C 161 (dq dk_Mo_readsUnknown 75 rfl) (by decide) h (fun h => ?_) (fun h => ?_)
        · refine ww_iconst C (dq dk_Mo_readsUnknown 82 rfl) ic_0 ?_
          exact ww_zretL C hR (dq dk_Mo_readsUnknown 83 rfl) (Or.inl rfl) h
        · refine ww_aload_n C 1 rfl rfl (dq dk_Mo_readsUnknown 76 rfl) ?_
          refine ww_geti C ko_Mo 56 ho_v0 (lt_ rfl) g_6_106 rfl rfl (dq dk_Mo_readsUnknown 77 rfl) ?_
          refine ww_bipush C (dq dk_Mo_readsUnknown 78 rfl) bp_20 ?_
          refine ww_icmp_eq C 161 (dq dk_Mo_readsUnknown 79 rfl) (by decide) h (fun h => ?_) (fun h => ?_)
          · refine ww_iconst C (dq dk_Mo_readsUnknown 82 rfl) ic_0 ?_
            exact ww_zretL C hR (dq dk_Mo_readsUnknown 83 rfl) (Or.inl rfl) h
          · refine ww_iconst C (dq dk_Mo_readsUnknown 80 rfl) ic_1 ?_
            refine ww_goto C 162 (dq dk_Mo_readsUnknown 81 rfl) (by decide) ?_
            exact ww_zretL C hR (dq dk_Mo_readsUnknown 83 rfl) (Or.inr rfl) h
set_option maxHeartbeats 4000000 in
set_option maxRecDepth 100000 in
theorem t_Mo_readsUnknown_B77 {k : Cfg} {res : Int32 × St} (C : Cx k prog_14_method_88_code "BundleHouseModel") (hR : RI k .boolean res) (hRm : k.2.2.2.1 = rm_Mo_readsUnknown) (hnL : k.2.2.2.2.2.2.2.2.2.2.2.1 = 2) (v0 : Nat) (ho_v0 : kd v0 = 12) (σ : St) (h : Mo_readsUnknown_B77 v0 σ = some res) : WW k 77 [(0, .ref (ad k v0))] [] σ := by
  unfold Mo_readsUnknown_B77 at h
  refine ww_aload_n C 0 rfl rfl (dq dk_Mo_readsUnknown 41 rfl) ?_
  refine ww_geti C ko_Mo 57 ho_v0 (lt_ rfl) g_6_107 rfl rfl (dq dk_Mo_readsUnknown 42 rfl) ?_
  refine ww_iconst C (dq dk_Mo_readsUnknown 43 rfl) ic_1 ?_
  refine ww_icmp_eq C 109 (dq dk_Mo_readsUnknown 44 rfl) (by decide) h (fun h => ?_) (fun h => ?_)
  · refine ww_iconst C (dq dk_Mo_readsUnknown 57 rfl) ic_1 ?_
    refine ww_goto C 114 (dq dk_Mo_readsUnknown 58 rfl) (by decide) ?_
    exact ww_lv [0] rfl (t_Mo_readsUnknown_B114 C hR hRm hnL v0 1 ho_v0 σ h)
  · refine ww_aload_n C 0 rfl rfl (dq dk_Mo_readsUnknown 45 rfl) ?_
    refine ww_geti C ko_Mo 57 ho_v0 (lt_ rfl) g_6_107 rfl rfl (dq dk_Mo_readsUnknown 46 rfl) ?_
    refine ww_iconst C (dq dk_Mo_readsUnknown 47 rfl) ic_2 ?_
    refine ww_icmp_eq C 109 (dq dk_Mo_readsUnknown 48 rfl) (by decide) h (fun h => ?_) (fun h => ?_)
    · refine ww_iconst C (dq dk_Mo_readsUnknown 57 rfl) ic_1 ?_
      refine ww_goto C 114 (dq dk_Mo_readsUnknown 58 rfl) (by decide) ?_
      exact ww_lv [0] rfl (t_Mo_readsUnknown_B114 C hR hRm hnL v0 1 ho_v0 σ h)
    · refine ww_aload_n C 0 rfl rfl (dq dk_Mo_readsUnknown 49 rfl) ?_
      refine ww_geti C ko_Mo 57 ho_v0 (lt_ rfl) g_6_107 rfl rfl (dq dk_Mo_readsUnknown 50 rfl) ?_
      refine ww_iconst C (dq dk_Mo_readsUnknown 51 rfl) ic_3 ?_
      refine ww_icmp_eq C 109 (dq dk_Mo_readsUnknown 52 rfl) (by decide) h (fun h => ?_) (fun h => ?_)
      · refine ww_iconst C (dq dk_Mo_readsUnknown 57 rfl) ic_1 ?_
        refine ww_goto C 114 (dq dk_Mo_readsUnknown 58 rfl) (by decide) ?_
        exact ww_lv [0] rfl (t_Mo_readsUnknown_B114 C hR hRm hnL v0 1 ho_v0 σ h)
      · refine ww_aload_n C 0 rfl rfl (dq dk_Mo_readsUnknown 53 rfl) ?_
        refine ww_geti C ko_Mo 57 ho_v0 (lt_ rfl) g_6_107 rfl rfl (dq dk_Mo_readsUnknown 54 rfl) ?_
        refine ww_iconst C (dq dk_Mo_readsUnknown 55 rfl) ic_5 ?_
        refine ww_icmp_ne C 113 (dq dk_Mo_readsUnknown 56 rfl) (by decide) h (fun h => ?_) (fun h => ?_)
        · refine ww_iconst C (dq dk_Mo_readsUnknown 59 rfl) ic_0 ?_
          exact ww_lv [0] rfl (t_Mo_readsUnknown_B114 C hR hRm hnL v0 0 ho_v0 σ h)
        · refine ww_iconst C (dq dk_Mo_readsUnknown 57 rfl) ic_1 ?_
          refine ww_goto C 114 (dq dk_Mo_readsUnknown 58 rfl) (by decide) ?_
          exact ww_lv [0] rfl (t_Mo_readsUnknown_B114 C hR hRm hnL v0 1 ho_v0 σ h)
set_option maxHeartbeats 4000000 in
set_option maxRecDepth 100000 in
theorem t_Mo_readsUnknown_B56 {k : Cfg} {res : Int32 × St} (C : Cx k prog_14_method_88_code "BundleHouseModel") (hR : RI k .boolean res) (hRm : k.2.2.2.1 = rm_Mo_readsUnknown) (hnL : k.2.2.2.2.2.2.2.2.2.2.2.1 = 2) (v0 : Nat) (ho_v0 : kd v0 = 12) (σ : St) (h : Mo_readsUnknown_B56 v0 σ = some res) : WW k 56 [(0, .ref (ad k v0))] [] σ := by
  unfold Mo_readsUnknown_B56 at h
  refine ww_aload_n C 0 rfl rfl (dq dk_Mo_readsUnknown 30 rfl) ?_
  refine ww_geti C ko_Mo 57 ho_v0 (lt_ rfl) g_6_107 rfl rfl (dq dk_Mo_readsUnknown 31 rfl) ?_
  refine ww_iconst C (dq dk_Mo_readsUnknown 32 rfl) ic_4 ?_
  refine ww_icmp_ne C 77 (dq dk_Mo_readsUnknown 33 rfl) (by decide) h (fun h => ?_) (fun h => ?_)
  · exact ww_lv [0] rfl (t_Mo_readsUnknown_B77 C hR hRm hnL v0 ho_v0 σ h)
  · refine ww_aload_n C 0 rfl rfl (dq dk_Mo_readsUnknown 34 rfl) ?_
    refine ww_aload_n C 0 rfl rfl (dq dk_Mo_readsUnknown 35 rfl) ?_
    refine ww_geti C ko_Mo 58 ho_v0 (lt_ rfl) g_6_108 rfl rfl (dq dk_Mo_readsUnknown 36 rfl) ?_
    refine ww_cVi (st := []) C (c_Mo_isUnknown v0 ho_v0 (σ v0 58)) cw_Mo_isUnknown ho_v0 (lt_ rfl) rfl g_8_108 hRm ⟨⟨rfl, rfl⟩, le_ rfl, le_ rfl⟩ rfl rfl rfl (le_ rfl) (dq dk_Mo_readsUnknown 37 rfl) h (fun x2 σ1 h => ?_)
    refine ww_if_eq C 77 (dq dk_Mo_readsUnknown 38 rfl) (by decide) h (fun h => ?_) (fun h => ?_)
    · exact ww_lv [0] rfl (t_Mo_readsUnknown_B77 C hR hRm hnL v0 ho_v0 σ1 h)
    · refine ww_iconst C (dq dk_Mo_readsUnknown 39 rfl) ic_1 ?_
      exact ww_zretL C hR (dq dk_Mo_readsUnknown 40 rfl) (Or.inr rfl) h
set_option maxHeartbeats 4000000 in
set_option maxRecDepth 100000 in
theorem t_Mo_readsUnknown_B37 {k : Cfg} {res : Int32 × St} (C : Cx k prog_14_method_88_code "BundleHouseModel") (hR : RI k .boolean res) (hRm : k.2.2.2.1 = rm_Mo_readsUnknown) (hnL : k.2.2.2.2.2.2.2.2.2.2.2.1 = 2) (v0 : Nat) (ho_v0 : kd v0 = 12) (σ : St) (h : Mo_readsUnknown_B37 v0 σ = some res) : WW k 37 [(0, .ref (ad k v0))] [] σ := by
  unfold Mo_readsUnknown_B37 at h
  refine ww_aload_n C 0 rfl rfl (dq dk_Mo_readsUnknown 21 rfl) ?_
  refine ww_geti C ko_Mo 57 ho_v0 (lt_ rfl) g_6_107 rfl rfl (dq dk_Mo_readsUnknown 22 rfl) ?_
  refine ww_iconst C (dq dk_Mo_readsUnknown 23 rfl) ic_2 ?_
  refine ww_icmp_ne C 56 (dq dk_Mo_readsUnknown 24 rfl) (by decide) h (fun h => ?_) (fun h => ?_)
  · exact ww_lv [0] rfl (t_Mo_readsUnknown_B56 C hR hRm hnL v0 ho_v0 σ h)
  · refine ww_aload_n C 0 rfl rfl (dq dk_Mo_readsUnknown 25 rfl) ?_
    refine ww_aload_n C 0 rfl rfl (dq dk_Mo_readsUnknown 26 rfl) ?_
    refine ww_geti C ko_Mo 59 ho_v0 (lt_ rfl) g_6_109 rfl rfl (dq dk_Mo_readsUnknown 27 rfl) ?_
    refine ww_cVi (st := []) C (c_Mo_isUnknown v0 ho_v0 (σ v0 59)) cw_Mo_isUnknown ho_v0 (lt_ rfl) rfl g_8_108 hRm ⟨⟨rfl, rfl⟩, le_ rfl, le_ rfl⟩ rfl rfl rfl (le_ rfl) (dq dk_Mo_readsUnknown 28 rfl) h (fun x2 σ1 h => ?_)
    refine ww_if_ne C 75 (dq dk_Mo_readsUnknown 29 rfl) (by decide) h (fun h => ?_) (fun h => ?_)
    · refine ww_iconst C (dq dk_Mo_readsUnknown 39 rfl) ic_1 ?_
      exact ww_zretL C hR (dq dk_Mo_readsUnknown 40 rfl) (Or.inr rfl) h
    · exact ww_lv [0] rfl (t_Mo_readsUnknown_B56 C hR hRm hnL v0 ho_v0 σ1 h)
set_option maxHeartbeats 4000000 in
set_option maxRecDepth 100000 in
theorem t_Mo_readsUnknown_B25 {k : Cfg} {res : Int32 × St} (C : Cx k prog_14_method_88_code "BundleHouseModel") (hR : RI k .boolean res) (hRm : k.2.2.2.1 = rm_Mo_readsUnknown) (hnL : k.2.2.2.2.2.2.2.2.2.2.2.1 = 2) (v0 : Nat) (ho_v0 : kd v0 = 12) (σ : St) (h : Mo_readsUnknown_B25 v0 σ = some res) : WW k 25 [(0, .ref (ad k v0))] [] σ := by
  unfold Mo_readsUnknown_B25 at h
  refine ww_aload_n C 0 rfl rfl (dq dk_Mo_readsUnknown 13 rfl) ?_
  refine ww_getr C ko_Mo 32 ho_v0 (lt_ rfl) g_6_82 rfl rfl (dq dk_Mo_readsUnknown 14 rfl) ?_
  refine ww_iconst C (dq dk_Mo_readsUnknown 15 rfl) ic_4 ?_
  refine ww_iald C (kc_Mo_32 _ ho_v0).1 (kc_Mo_32 _ ho_v0).2 (dq dk_Mo_readsUnknown 16 rfl) h (fun x1 h => ?_)
  refine ww_iconst C (dq dk_Mo_readsUnknown 17 rfl) ic_2 ?_
  refine ww_icmp_ne C 37 (dq dk_Mo_readsUnknown 18 rfl) (by decide) h (fun h => ?_) (fun h => ?_)
  · exact ww_lv [0] rfl (t_Mo_readsUnknown_B37 C hR hRm hnL v0 ho_v0 σ h)
  · refine ww_iconst C (dq dk_Mo_readsUnknown 19 rfl) ic_1 ?_
    exact ww_zretL C hR (dq dk_Mo_readsUnknown 20 rfl) (Or.inr rfl) h
set_option maxHeartbeats 4000000 in
set_option maxRecDepth 100000 in
theorem c_Mo_readsUnknown (v0 : Nat) (ho_v0 : kd v0 = 12) : MI y_Mo_readsUnknown rm_Mo_readsUnknown prog_14_method_88_code 2 .boolean (fun a => [.ref (a v0)]) (Mo_readsUnknown v0) := by
  refine mi_of (by decide) (fun _ => le_ rfl) ?_
  intro k res σ C hR hRm hnL h
  unfold Mo_readsUnknown at h
  show WW k 0 [(0, .ref (ad k v0))] [] σ
  refine ww_aload_n C 0 rfl rfl (dq dk_Mo_readsUnknown 0 rfl) ?_
  refine ww_cVi (st := []) C (c_Mo_memoryUnknown v0 ho_v0) cw_Mo_memoryUnknown ho_v0 (lt_ rfl) rfl g_8_104 hRm ⟨⟨rfl, rfl⟩, le_ rfl, le_ rfl⟩ rfl rfl rfl (le_ rfl) (dq dk_Mo_readsUnknown 1 rfl) h (fun x2 σ1 h => ?_)
  refine ww_if_eq C 9 (dq dk_Mo_readsUnknown 2 rfl) (by decide) h (fun h => ?_) (fun h => ?_)
  · refine ww_aload_n C 0 rfl rfl (dq dk_Mo_readsUnknown 5 rfl) ?_
    refine ww_geti C ko_Mo 56 ho_v0 (lt_ rfl) g_6_106 rfl rfl (dq dk_Mo_readsUnknown 6 rfl) ?_
    refine ww_iconst C (dq dk_Mo_readsUnknown 7 rfl) ic_2 ?_
    refine ww_icmp_eq C 25 (dq dk_Mo_readsUnknown 8 rfl) (by decide) h (fun h => ?_) (fun h => ?_)
    · exact ww_lv [0] rfl (t_Mo_readsUnknown_B25 C hR hRm hnL v0 ho_v0 σ1 h)
    · refine ww_aload_n C 0 rfl rfl (dq dk_Mo_readsUnknown 9 rfl) ?_
      refine ww_geti C ko_Mo 56 ho_v0 (lt_ rfl) g_6_106 rfl rfl (dq dk_Mo_readsUnknown 10 rfl) ?_
      refine ww_iconst C (dq dk_Mo_readsUnknown 11 rfl) ic_3 ?_
      refine ww_icmp_ne C 37 (dq dk_Mo_readsUnknown 12 rfl) (by decide) h (fun h => ?_) (fun h => ?_)
      · exact ww_lv [0] rfl (t_Mo_readsUnknown_B37 C hR hRm hnL v0 ho_v0 σ1 h)
      · exact ww_lv [0] rfl (t_Mo_readsUnknown_B25 C hR hRm hnL v0 ho_v0 σ1 h)
  · refine ww_iconst C (dq dk_Mo_readsUnknown 3 rfl) ic_1 ?_
    exact ww_zretL C hR (dq dk_Mo_readsUnknown 4 rfl) (Or.inr rfl) h
abbrev y_Mo_plainStride : MethodName := ⟨"BundleHouseModel", "plainStride", "(I)I"⟩
def dl_Mo_plainStride : List (Nat × Instr × Nat) := [(0, .aload_n 0, 1), (1, .aload_n 0, 1), (2, .getfield 26, 3), (5, .iload_n 1, 1), (6, .iaload, 1), (7, .aload_n 0, 1), (8, .getfield 29, 3), (11, .iload_n 1, 1), (12, .iaload, 1), (13, .aload_n 0, 1), (14, .getfield 32, 3), (17, .iload_n 1, 1), (18, .iaload, 1), (19, .aload_n 0, 1), (20, .getfield 35, 3), (23, .iload_n 1, 1), (24, .iaload, 1), (25, .aload_n 0, 1), (26, .getfield 38, 3), (29, .iload_n 1, 1), (30, .iaload, 1), (31, .aload_n 0, 1), (32, .getfield 41, 3), (35, .iload_n 1, 1), (36, .iaload, 1), (37, .invokevirtual 405, 3), (40, .aload_n 0, 1), (41, .invokevirtual 448, 3), (44, .ifCond .eq 6, 3), (47, .bipush 7, 2), (49, .ireturn, 1), (50, .aload_n 0, 1), (51, .invokevirtual 409, 3), (54, .ifCond .eq 5, 3), (57, .iconst 3, 1), (58, .ireturn, 1), (59, .aload_n 0, 1), (60, .getfield 93, 3), (63, .iconst 1, 1), (64, .dup2, 1), (65, .iaload, 1), (66, .iconst 1, 1), (67, .iadd, 1), (68, .iastore, 1), (69, .aload_n 0, 1), (70, .getfield 353, 3), (73, .bipush 22, 2), (75, .if_icmp .ne 5, 3), (78, .iconst 1, 1), (79, .ireturn, 1), (80, .aload_n 0, 1), (81, .getfield 78, 3), (84, .iconst 4, 1), (85, .iaload, 1), (86, .iconst 2, 1), (87, .if_icmp .ne 25, 3), (90, .aload_n 0, 1), (91, .getfield 353, 3), (94, .bipush 17, 2), (96, .if_icmp .eq 12, 3), (99, .aload_n 0, 1), (100, .getfield 353, 3), (103, .bipush 18, 2), (105, .if_icmp .ne 7, 3), (108, .iconst 1, 1), (109, .goto 4, 3), (112, .iconst 0, 1), (113, .istore_n 2, 1), (114, .aload_n 0, 1), (115, .invokevirtual 415, 3), (118, .iload_n 2, 1), (119, .ifCond .eq 10, 3), (122, .aload_n 0, 1), (123, .getfield 78, 3), (126, .iconst 4, 1), (127, .iconst 2, 1), (128, .iastore, 1), (129, .aload_n 0, 1), (130, .aload_n 0, 1), (131, .aload_n 0, 1), (132, .getfield 421, 3), (135, .iconst 1, 1), (136, .iadd, 1), (137, .invokevirtual 418, 3), (140, .putfield 421, 3), (143, .iconst (-1), 1), (144, .ireturn, 1)]
set_option maxRecDepth 100000 in
theorem dk_Mo_plainStride : ∀ q ∈ dl_Mo_plainStride, decode prog_14_method_92_code q.1 = .ok q.2 := by decide +kernel
abbrev rm_Mo_plainStride : Room := { frames := 4, cells := 0, slots := 0, locals := 102 }
theorem cw_Mo_plainStride : CWV y_Mo_plainStride prog_14_method_92_code 3 (some .int) 1 := ⟨⟨g_8_99, g_1_13, by decide, by decide, by decide +kernel⟩, g_8_98, gs_8_10⟩
set_option maxHeartbeats 4000000 in
set_option maxRecDepth 100000 in
theorem t_Mo_plainStride_B129 {k : Cfg} {res : Int32 × St} (C : Cx k prog_14_method_92_code "BundleHouseModel") (hR : RI k .int res) (hRm : k.2.2.2.1 = rm_Mo_plainStride) (hnL : k.2.2.2.2.2.2.2.2.2.2.2.1 = 3) (v0 : Nat) (ho_v0 : kd v0 = 12) (σ : St) (h : Mo_plainStride_B129 v0 σ = some res) : WW k 129 [(0, .ref (ad k v0))] [] σ := by
  unfold Mo_plainStride_B129 at h
  refine ww_aload_n C 0 rfl rfl (dq dk_Mo_plainStride 77 rfl) ?_
  refine ww_aload_n C 0 rfl rfl (dq dk_Mo_plainStride 78 rfl) ?_
  refine ww_aload_n C 0 rfl rfl (dq dk_Mo_plainStride 79 rfl) ?_
  refine ww_geti C ko_Mo 62 ho_v0 (lt_ rfl) g_6_112 rfl rfl (dq dk_Mo_plainStride 80 rfl) ?_
  refine ww_iconst C (dq dk_Mo_plainStride 81 rfl) ic_1 ?_
  refine ww_iadd C (dq dk_Mo_plainStride 82 rfl) ?_
  refine ww_cVi (st := [.ref (ad k v0)]) C (c_Mo_passed v0 ho_v0 ((σ v0 62) + 1)) cw_Mo_passed ho_v0 (lt_ rfl) rfl g_8_80 hRm ⟨⟨rfl, rfl⟩, le_ rfl, le_ rfl⟩ rfl rfl rfl (le_ rfl) (dq dk_Mo_plainStride 83 rfl) h (fun x2 σ1 h => ?_)
  refine ww_puti C ko_Mo 62 ho_v0 (lt_ rfl) g_6_112 rfl rfl rfl rfl (dq dk_Mo_plainStride 84 rfl) h (fun σ3 h => ?_)
  refine ww_iconst C (dq dk_Mo_plainStride 85 rfl) ic_m1 ?_
  exact ww_iret C hR (dq dk_Mo_plainStride 86 rfl) h
set_option maxHeartbeats 4000000 in
set_option maxRecDepth 100000 in
theorem t_Mo_plainStride_B113 {k : Cfg} {res : Int32 × St} (C : Cx k prog_14_method_92_code "BundleHouseModel") (hR : RI k .int res) (hRm : k.2.2.2.1 = rm_Mo_plainStride) (hnL : k.2.2.2.2.2.2.2.2.2.2.2.1 = 3) (v0 : Nat) (t0 : Int32) (ho_v0 : kd v0 = 12) (σ : St) (h : Mo_plainStride_B113 v0 t0 σ = some res) : WW k 113 [(0, .ref (ad k v0))] [.int t0] σ := by
  unfold Mo_plainStride_B113 at h
  refine ww_istore_n C [(2, .int t0), (0, .ref (ad k v0))] rfl hnL (lt_ rfl) rfl (dq dk_Mo_plainStride 67 rfl) ?_
  refine ww_aload_n C 1 rfl rfl (dq dk_Mo_plainStride 68 rfl) ?_
  refine ww_cVv (st := []) C (c_Mo_does v0 ho_v0) cw_Mo_does ho_v0 (lt_ rfl) rfl g_8_43 hRm ⟨⟨rfl, rfl⟩, le_ rfl, le_ rfl⟩ rfl rfl rfl (le_ rfl) (dq dk_Mo_plainStride 69 rfl) h (fun σ1 h => ?_)
  refine ww_iload_n C 0 rfl rfl (dq dk_Mo_plainStride 70 rfl) ?_
  refine ww_if_eq C 129 (dq dk_Mo_plainStride 71 rfl) (by decide) h (fun h => ?_) (fun h => ?_)
  · exact ww_lv [1] rfl (t_Mo_plainStride_B129 C hR hRm hnL v0 ho_v0 σ1 h)
  · refine ww_aload_n C 1 rfl rfl (dq dk_Mo_plainStride 72 rfl) ?_
    refine ww_getr C ko_Mo 32 ho_v0 (lt_ rfl) g_6_82 rfl rfl (dq dk_Mo_plainStride 73 rfl) ?_
    refine ww_iconst C (dq dk_Mo_plainStride 74 rfl) ic_4 ?_
    refine ww_iconst C (dq dk_Mo_plainStride 75 rfl) ic_2 ?_
    refine ww_iast C (kc_Mo_32 _ ho_v0).1 (kc_Mo_32 _ ho_v0).2 (dq dk_Mo_plainStride 76 rfl) h (fun σ2 h => ?_)
    exact ww_lv [1] rfl (t_Mo_plainStride_B129 C hR hRm hnL v0 ho_v0 σ2 h)
set_option maxHeartbeats 4000000 in
set_option maxRecDepth 100000 in
theorem c_Mo_plainStride (v0 : Nat) (ho_v0 : kd v0 = 12) (v1 : Int32) : MI y_Mo_plainStride rm_Mo_plainStride prog_14_method_92_code 3 .int (fun a => [.ref (a v0), .int v1]) (Mo_plainStride v0 v1) := by
  refine mi_of (by decide) (fun _ => le_ rfl) ?_
  intro k res σ C hR hRm hnL h
  unfold Mo_plainStride at h
  show WW k 0 [(0, .ref (ad k v0)), (1, .int v1)] [] σ
  refine ww_aload_n C 0 rfl rfl (dq dk_Mo_plainStride 0 rfl) ?_
  refine ww_aload_n C 0 rfl rfl (dq dk_Mo_plainStride 1 rfl) ?_
  refine ww_getr C ko_Mo 12 ho_v0 (lt_ rfl) g_6_62 rfl rfl (dq dk_Mo_plainStride 2 rfl) ?_
  refine ww_iload_n C 1 rfl rfl (dq dk_Mo_plainStride 3 rfl) ?_
  refine ww_iald C (kc_Mo_12 _ ho_v0).1 (kc_Mo_12 _ ho_v0).2 (dq dk_Mo_plainStride 4 rfl) h (fun x1 h => ?_)
  refine ww_aload_n C 0 rfl rfl (dq dk_Mo_plainStride 5 rfl) ?_
  refine ww_getr C ko_Mo 13 ho_v0 (lt_ rfl) g_6_63 rfl rfl (dq dk_Mo_plainStride 6 rfl) ?_
  refine ww_iload_n C 1 rfl rfl (dq dk_Mo_plainStride 7 rfl) ?_
  refine ww_iald C (kc_Mo_13 _ ho_v0).1 (kc_Mo_13 _ ho_v0).2 (dq dk_Mo_plainStride 8 rfl) h (fun x2 h => ?_)
  refine ww_aload_n C 0 rfl rfl (dq dk_Mo_plainStride 9 rfl) ?_
  refine ww_getr C ko_Mo 14 ho_v0 (lt_ rfl) g_6_64 rfl rfl (dq dk_Mo_plainStride 10 rfl) ?_
  refine ww_iload_n C 1 rfl rfl (dq dk_Mo_plainStride 11 rfl) ?_
  refine ww_iald C (kc_Mo_14 _ ho_v0).1 (kc_Mo_14 _ ho_v0).2 (dq dk_Mo_plainStride 12 rfl) h (fun x3 h => ?_)
  refine ww_aload_n C 0 rfl rfl (dq dk_Mo_plainStride 13 rfl) ?_
  refine ww_getr C ko_Mo 15 ho_v0 (lt_ rfl) g_6_65 rfl rfl (dq dk_Mo_plainStride 14 rfl) ?_
  refine ww_iload_n C 1 rfl rfl (dq dk_Mo_plainStride 15 rfl) ?_
  refine ww_iald C (kc_Mo_15 _ ho_v0).1 (kc_Mo_15 _ ho_v0).2 (dq dk_Mo_plainStride 16 rfl) h (fun x4 h => ?_)
  refine ww_aload_n C 0 rfl rfl (dq dk_Mo_plainStride 17 rfl) ?_
  refine ww_getr C ko_Mo 16 ho_v0 (lt_ rfl) g_6_66 rfl rfl (dq dk_Mo_plainStride 18 rfl) ?_
  refine ww_iload_n C 1 rfl rfl (dq dk_Mo_plainStride 19 rfl) ?_
  refine ww_iald C (kc_Mo_16 _ ho_v0).1 (kc_Mo_16 _ ho_v0).2 (dq dk_Mo_plainStride 20 rfl) h (fun x5 h => ?_)
  refine ww_aload_n C 0 rfl rfl (dq dk_Mo_plainStride 21 rfl) ?_
  refine ww_getr C ko_Mo 17 ho_v0 (lt_ rfl) g_6_67 rfl rfl (dq dk_Mo_plainStride 22 rfl) ?_
  refine ww_iload_n C 1 rfl rfl (dq dk_Mo_plainStride 23 rfl) ?_
  refine ww_iald C (kc_Mo_17 _ ho_v0).1 (kc_Mo_17 _ ho_v0).2 (dq dk_Mo_plainStride 24 rfl) h (fun x6 h => ?_)
  refine ww_cVv (st := []) C (c_Mo_takes v0 ho_v0 x1 x2 x3 x4 x5 x6) cw_Mo_takes ho_v0 (lt_ rfl) rfl g_8_15 hRm ⟨⟨rfl, rfl⟩, le_ rfl, le_ rfl⟩ rfl rfl rfl (le_ rfl) (dq dk_Mo_plainStride 25 rfl) h (fun σ7 h => ?_)
  refine ww_aload_n C 0 rfl rfl (dq dk_Mo_plainStride 26 rfl) ?_
  refine ww_cVi (st := []) C (c_Mo_readsUnknown v0 ho_v0) cw_Mo_readsUnknown ho_v0 (lt_ rfl) rfl g_8_100 hRm ⟨⟨rfl, rfl⟩, le_ rfl, le_ rfl⟩ rfl rfl rfl (le_ rfl) (dq dk_Mo_plainStride 27 rfl) h (fun x9 σ8 h => ?_)
  refine ww_if_eq C 50 (dq dk_Mo_plainStride 28 rfl) (by decide) h (fun h => ?_) (fun h => ?_)
  · refine ww_aload_n C 0 rfl rfl (dq dk_Mo_plainStride 31 rfl) ?_
    refine ww_cVi (st := []) C (c_Mo_wants v0 ho_v0) cw_Mo_wants ho_v0 (lt_ rfl) rfl g_8_19 hRm ⟨⟨rfl, rfl⟩, le_ rfl, le_ rfl⟩ rfl rfl rfl (le_ rfl) (dq dk_Mo_plainStride 32 rfl) h (fun x11 σ10 h => ?_)
    refine ww_if_eq C 59 (dq dk_Mo_plainStride 33 rfl) (by decide) h (fun h => ?_) (fun h => ?_)
    · refine ww_aload_n C 0 rfl rfl (dq dk_Mo_plainStride 36 rfl) ?_
      refine ww_getr C ko_Mo 37 ho_v0 (lt_ rfl) g_6_87 rfl rfl (dq dk_Mo_plainStride 37 rfl) ?_
      refine ww_iconst C (dq dk_Mo_plainStride 38 rfl) ic_1 ?_
      refine ww_dup2 C rfl rfl (dq dk_Mo_plainStride 39 rfl) ?_
      refine ww_iald C (kc_Mo_37 _ ho_v0).1 (kc_Mo_37 _ ho_v0).2 (dq dk_Mo_plainStride 40 rfl) h (fun x12 h => ?_)
      refine ww_iconst C (dq dk_Mo_plainStride 41 rfl) ic_1 ?_
      refine ww_iadd C (dq dk_Mo_plainStride 42 rfl) ?_
      refine ww_iast C (kc_Mo_37 _ ho_v0).1 (kc_Mo_37 _ ho_v0).2 (dq dk_Mo_plainStride 43 rfl) h (fun σ13 h => ?_)
      refine ww_aload_n C 0 rfl rfl (dq dk_Mo_plainStride 44 rfl) ?_
      refine ww_geti C ko_Mo 56 ho_v0 (lt_ rfl) g_6_106 rfl rfl (dq dk_Mo_plainStride 45 rfl) ?_
      refine ww_bipush C (dq dk_Mo_plainStride 46 rfl) bp_22 ?_
      refine ww_icmp_ne C 80 (dq dk_Mo_plainStride 47 rfl) (by decide) h (fun h => ?_) (fun h => ?_)
      · refine ww_aload_n C 0 rfl rfl (dq dk_Mo_plainStride 50 rfl) ?_
        refine ww_getr C ko_Mo 32 ho_v0 (lt_ rfl) g_6_82 rfl rfl (dq dk_Mo_plainStride 51 rfl) ?_
        refine ww_iconst C (dq dk_Mo_plainStride 52 rfl) ic_4 ?_
        refine ww_iald C (kc_Mo_32 _ ho_v0).1 (kc_Mo_32 _ ho_v0).2 (dq dk_Mo_plainStride 53 rfl) h (fun x14 h => ?_)
        refine ww_iconst C (dq dk_Mo_plainStride 54 rfl) ic_2 ?_
        refine ww_icmp_ne C 112 (dq dk_Mo_plainStride 55 rfl) (by decide) h (fun h => ?_) (fun h => ?_)
        · refine ww_iconst C (dq dk_Mo_plainStride 66 rfl) ic_0 ?_
          exact ww_lv [0] rfl (t_Mo_plainStride_B113 C hR hRm hnL v0 0 ho_v0 σ13 h)
        · refine ww_aload_n C 0 rfl rfl (dq dk_Mo_plainStride 56 rfl) ?_
          refine ww_geti C ko_Mo 56 ho_v0 (lt_ rfl) g_6_106 rfl rfl (dq dk_Mo_plainStride 57 rfl) ?_
          refine ww_bipush C (dq dk_Mo_plainStride 58 rfl) bp_17 ?_
          refine ww_icmp_eq C 108 (dq dk_Mo_plainStride 59 rfl) (by decide) h (fun h => ?_) (fun h => ?_)
          · refine ww_iconst C (dq dk_Mo_plainStride 64 rfl) ic_1 ?_
            refine ww_goto C 113 (dq dk_Mo_plainStride 65 rfl) (by decide) ?_
            exact ww_lv [0] rfl (t_Mo_plainStride_B113 C hR hRm hnL v0 1 ho_v0 σ13 h)
          · refine ww_aload_n C 0 rfl rfl (dq dk_Mo_plainStride 60 rfl) ?_
            refine ww_geti C ko_Mo 56 ho_v0 (lt_ rfl) g_6_106 rfl rfl (dq dk_Mo_plainStride 61 rfl) ?_
            refine ww_bipush C (dq dk_Mo_plainStride 62 rfl) bp_18 ?_
            refine ww_icmp_ne C 112 (dq dk_Mo_plainStride 63 rfl) (by decide) h (fun h => ?_) (fun h => ?_)
            · refine ww_iconst C (dq dk_Mo_plainStride 66 rfl) ic_0 ?_
              exact ww_lv [0] rfl (t_Mo_plainStride_B113 C hR hRm hnL v0 0 ho_v0 σ13 h)
            · refine ww_iconst C (dq dk_Mo_plainStride 64 rfl) ic_1 ?_
              refine ww_goto C 113 (dq dk_Mo_plainStride 65 rfl) (by decide) ?_
              exact ww_lv [0] rfl (t_Mo_plainStride_B113 C hR hRm hnL v0 1 ho_v0 σ13 h)
      · refine ww_iconst C (dq dk_Mo_plainStride 48 rfl) ic_1 ?_
        exact ww_iret C hR (dq dk_Mo_plainStride 49 rfl) h
    · refine ww_iconst C (dq dk_Mo_plainStride 34 rfl) ic_3 ?_
      exact ww_iret C hR (dq dk_Mo_plainStride 35 rfl) h
  · refine ww_bipush C (dq dk_Mo_plainStride 29 rfl) bp_7 ?_
    exact ww_iret C hR (dq dk_Mo_plainStride 30 rfl) h
