abbrev y_Mo_stride : MethodName := ⟨"BundleHouseModel", "stride", "()I"⟩
def dl_Mo_stride : List (Nat × Instr × Nat) := [(0, .aload_n 0, 1), (1, .getfield 421, 3), (4, .ifCond .ge 17, 3), (7, .aload_n 0, 1), (8, .bipush 16, 2), (10, .iconst (-1), 1), (11, .aload_n 0, 1), (12, .getfield 421, 3), (15, .isub, 1), (16, .imul, 1), (17, .invokevirtual 433, 3), (20, .ireturn, 1), (21, .aload_n 0, 1), (22, .getfield 421, 3), (25, .aload_n 0, 1), (26, .getfield 300, 3), (29, .if_icmp .ne 15, 3), (32, .aload_n 0, 1), (33, .getfield 93, 3), (36, .iconst 1, 1), (37, .dup2, 1), (38, .iaload, 1), (39, .iconst 1, 1), (40, .iadd, 1), (41, .iastore, 1), (42, .iconst 1, 1), (43, .ireturn, 1), (44, .bipush 120, 2), (46, .aload_n 0, 1), (47, .getfield 421, 3), (50, .iadd, 1), (51, .istore_n 1, 1), (52, .aload_n 0, 1), (53, .getfield 23, 3), (56, .iload_n 1, 1), (57, .iaload, 1), (58, .istore_n 2, 1), (59, .iload_n 2, 1), (60, .bipush 9, 2), (62, .if_icmp .ne 9, 3), (65, .aload_n 0, 1), (66, .iload_n 1, 1), (67, .invokevirtual 436, 3), (70, .ireturn, 1), (71, .aload_n 0, 1), (72, .aload_n 0, 1), (73, .getfield 421, 3), (76, .iconst 1, 1), (77, .iadd, 1), (78, .invokevirtual 418, 3), (81, .istore_n 3, 1), (82, .sipush 256, 3), (85, .aload_n 0, 1), (86, .getfield 44, 3), (89, .iload_n 1, 1), (90, .iaload, 1), (91, .iadd, 1), (92, .iconst 5, 1), (93, .iadd, 1), (94, .istore 4, 2), (96, .iload_n 2, 1), (97, .tableswitch 323 1 7 #[43, 65, 116, 116, 175, 175, 255], 43), (140, .aload_n 0, 1), (141, .aload_n 0, 1), (142, .getfield 50, 3), (145, .bipush 40, 2), (147, .aload_n 0, 1), (148, .getfield 32, 3), (151, .iload_n 1, 1), (152, .iaload, 1), (153, .iadd, 1), (154, .iaload, 1), (155, .invokevirtual 418, 3), (158, .istore_n 3, 1), (159, .goto 289, 3), (162, .aload_n 0, 1), (163, .aload_n 0, 1), (164, .getfield 35, 3), (167, .iload_n 1, 1), (168, .iaload, 1), (169, .invokevirtual 439, 3), (172, .ifCond .eq 6, 3), (175, .bipush 7, 2), (177, .ireturn, 1), (178, .aload_n 0, 1), (179, .aload_n 0, 1), (180, .getfield 35, 3), (183, .iload_n 1, 1), (184, .iaload, 1), (185, .invokevirtual 412, 3), (188, .ifCond .eq 260, 3), (191, .aload_n 0, 1), (192, .aload_n 0, 1), (193, .getfield 50, 3), (196, .bipush 40, 2), (198, .aload_n 0, 1), (199, .getfield 32, 3), (202, .iload_n 1, 1), (203, .iaload, 1), (204, .iadd, 1), (205, .iaload, 1), (206, .invokevirtual 418, 3), (209, .istore_n 3, 1), (210, .goto 238, 3), (213, .aload_n 0, 1), (214, .iconst 4, 1), (215, .invokevirtual 319, 3), (218, .iconst 4, 1), (219, .isub, 1), (220, .invokestatic 356, 3), (223, .ifCond .ne 5, 3), (226, .iconst 3, 1), (227, .ireturn, 1), (228, .aload_n 0, 1), (229, .iload 4, 2), (231, .invokevirtual 387, 3), (234, .iload_n 2, 1), (235, .iconst 3, 1), (236, .if_icmp .ne 24, 3), (239, .aload_n 0, 1), (240, .aload_n 0, 1), (241, .getfield 50, 3), (244, .bipush 40, 2), (246, .aload_n 0, 1), (247, .getfield 32, 3), (250, .iload_n 1, 1), (251, .iaload, 1), (252, .iadd, 1), (253, .iaload, 1), (254, .invokevirtual 418, 3), (257, .goto 11, 3), (260, .iconst (-1), 1), (261, .aload_n 0, 1), (262, .getfield 32, 3), (265, .iload_n 1, 1), (266, .iaload, 1), (267, .isub, 1), (268, .istore_n 3, 1), (269, .goto 179, 3), (272, .aload_n 0, 1), (273, .aload_n 0, 1), (274, .getfield 32, 3), (277, .iload_n 1, 1), (278, .iaload, 1), (279, .invokevirtual 427, 3), (282, .ifCond .eq 6, 3), (285, .bipush 7, 2), (287, .ireturn, 1), (288, .aload_n 0, 1), (289, .aload_n 0, 1), (290, .aload_n 0, 1), (291, .getfield 32, 3), (294, .iload_n 1, 1), (295, .iaload, 1), (296, .invokevirtual 319, 3), (299, .invokevirtual 442, 3), (302, .istore_n 3, 1), (303, .iload_n 3, 1), (304, .bipush (-100), 2), (306, .if_icmp .ne 6, 3), (309, .bipush 9, 2), (311, .ireturn, 1), (312, .iload_n 2, 1), (313, .bipush 6, 2), (315, .if_icmp .ne 18, 3), (318, .aload_n 0, 1), (319, .iconst 4, 1), (320, .invokevirtual 319, 3), (323, .iconst 4, 1), (324, .isub, 1), (325, .invokestatic 356, 3), (328, .ifCond .ne 5, 3), (331, .iconst 3, 1), (332, .ireturn, 1), (333, .iload_n 2, 1), (334, .bipush 6, 2), (336, .if_icmp .ne 9, 3), (339, .aload_n 0, 1), (340, .iload 4, 2), (342, .invokevirtual 387, 3), (345, .aload_n 0, 1), (346, .invokevirtual 445, 3), (349, .goto 99, 3), (352, .aload_n 0, 1), (353, .iconst 4, 1), (354, .invokevirtual 319, 3), (357, .invokestatic 356, 3), (360, .ifCond .ne 5, 3), (363, .iconst 3, 1), (364, .ireturn, 1), (365, .aload_n 0, 1), (366, .aload_n 0, 1), (367, .aload_n 0, 1), (368, .iconst 4, 1), (369, .invokevirtual 319, 3), (372, .invokevirtual 378, 3), (375, .invokevirtual 442, 3), (378, .istore_n 3, 1), (379, .iload_n 3, 1), (380, .bipush (-100), 2), (382, .if_icmp .ne 6, 3), (385, .bipush 9, 2), (387, .ireturn, 1), (388, .aload_n 0, 1), (389, .iconst 4, 1), (390, .aload_n 0, 1), (391, .iconst 4, 1), (392, .invokevirtual 319, 3), (395, .iconst 4, 1), (396, .iadd, 1), (397, .invokevirtual 375, 3), (400, .aload_n 0, 1), (401, .getfield 75, 3), (404, .bipush 9, 2), (406, .iconst 0, 1), (407, .iastore, 1), (408, .aload_n 0, 1), (409, .iconst 1, 1), (410, .putfield 316, 3), (413, .aload_n 0, 1), (414, .invokevirtual 445, 3), (417, .goto 31, 3), (420, .aload_n 0, 1), (421, .aload_n 0, 1), (422, .getfield 35, 3), (425, .iload_n 1, 1), (426, .iaload, 1), (427, .sipush 256, 3), (430, .aload_n 0, 1), (431, .getfield 47, 3), (434, .bipush 40, 2), (436, .aload_n 0, 1), (437, .getfield 32, 3), (440, .iload_n 1, 1), (441, .iaload, 1), (442, .iadd, 1), (443, .iaload, 1), (444, .iadd, 1), (445, .invokevirtual 375, 3), (448, .aload_n 0, 1), (449, .iload_n 3, 1), (450, .putfield 421, 3), (453, .aload_n 0, 1), (454, .getfield 93, 3), (457, .iconst 1, 1), (458, .dup2, 1), (459, .iaload, 1), (460, .iconst 1, 1), (461, .iadd, 1), (462, .iastore, 1), (463, .iconst (-1), 1), (464, .ireturn, 1)]
set_option maxRecDepth 100000 in
theorem dk_Mo_stride : ∀ q ∈ dl_Mo_stride, decode prog_14_method_91_code q.1 = .ok q.2 := by decide +kernel
abbrev rm_Mo_stride : Room := { frames := 5, cells := 0, slots := 0, locals := 124 }
theorem cw_Mo_stride : CWV y_Mo_stride prog_14_method_91_code 5 (some .int) 0 := ⟨⟨g_8_87, g_1_13, by decide, by decide, by decide +kernel⟩, g_8_86, gs_8_7⟩
set_option maxHeartbeats 4000000 in
set_option maxRecDepth 100000 in
theorem t_Mo_stride_B448 {k : Cfg} {res : Int32 × St} (C : Cx k prog_14_method_91_code "BundleHouseModel") (hR : RI k .int res) (hRm : k.2.2.2.1 = rm_Mo_stride) (hnL : k.2.2.2.2.2.2.2.2.2.2.2.1 = 5) (v0 : Nat) (v3 : Int32) (ho_v0 : kd v0 = 12) (σ : St) (h : Mo_stride_B448 v0 v3 σ = some res) : WW k 448 [(0, .ref (ad k v0)), (3, .int v3)] [] σ := by
  unfold Mo_stride_B448 at h
  refine ww_aload_n C 0 rfl rfl (dq dk_Mo_stride 239 rfl) ?_
  refine ww_iload_n C 1 rfl rfl (dq dk_Mo_stride 240 rfl) ?_
  refine ww_puti C ko_Mo 62 ho_v0 (lt_ rfl) g_6_112 rfl rfl rfl rfl (dq dk_Mo_stride 241 rfl) h (fun σ1 h => ?_)
  refine ww_aload_n C 0 rfl rfl (dq dk_Mo_stride 242 rfl) ?_
  refine ww_getr C ko_Mo 37 ho_v0 (lt_ rfl) g_6_87 rfl rfl (dq dk_Mo_stride 243 rfl) ?_
  refine ww_iconst C (dq dk_Mo_stride 244 rfl) ic_1 ?_
  refine ww_dup2 C rfl rfl (dq dk_Mo_stride 245 rfl) ?_
  refine ww_iald C (kc_Mo_37 _ ho_v0).1 (kc_Mo_37 _ ho_v0).2 (dq dk_Mo_stride 246 rfl) h (fun x2 h => ?_)
  refine ww_iconst C (dq dk_Mo_stride 247 rfl) ic_1 ?_
  refine ww_iadd C (dq dk_Mo_stride 248 rfl) ?_
  refine ww_iast C (kc_Mo_37 _ ho_v0).1 (kc_Mo_37 _ ho_v0).2 (dq dk_Mo_stride 249 rfl) h (fun σ3 h => ?_)
  refine ww_iconst C (dq dk_Mo_stride 250 rfl) ic_m1 ?_
  exact ww_iret C hR (dq dk_Mo_stride 251 rfl) h
set_option maxHeartbeats 4000000 in
set_option maxRecDepth 100000 in
theorem t_Mo_stride_B213 {k : Cfg} {res : Int32 × St} (C : Cx k prog_14_method_91_code "BundleHouseModel") (hR : RI k .int res) (hRm : k.2.2.2.1 = rm_Mo_stride) (hnL : k.2.2.2.2.2.2.2.2.2.2.2.1 = 5) (v0 : Nat) (v1 : Int32) (v2 : Int32) (v4 : Int32) (ho_v0 : kd v0 = 12) (σ : St) (h : Mo_stride_B213 v0 v1 v2 v4 σ = some res) : WW k 213 [(0, .ref (ad k v0)), (1, .int v1), (2, .int v2), (4, .int v4)] [] σ := by
  unfold Mo_stride_B213 at h
  refine ww_aload_n C 0 rfl rfl (dq dk_Mo_stride 104 rfl) ?_
  refine ww_iconst C (dq dk_Mo_stride 105 rfl) ic_4 ?_
  refine ww_cVi (st := []) C (c_Mo_reg v0 ho_v0 4) cw_Mo_reg ho_v0 (lt_ rfl) rfl g_7_232 hRm ⟨⟨rfl, rfl⟩, le_ rfl, le_ rfl⟩ rfl rfl rfl (le_ rfl) (dq dk_Mo_stride 106 rfl) h (fun x2 σ1 h => ?_)
  refine ww_iconst C (dq dk_Mo_stride 107 rfl) ic_4 ?_
  refine ww_isub C (dq dk_Mo_stride 108 rfl) ?_
  refine ww_cSi (st := []) C (c_Mo_isThere (x2 - 4)) cw_Mo_isThere g_7_236 hRm ⟨⟨rfl, rfl⟩, le_ rfl, le_ rfl⟩ rfl rfl rfl (le_ rfl) (dq dk_Mo_stride 109 rfl) h (fun x4 σ3 h => ?_)
  refine ww_if_ne C 228 (dq dk_Mo_stride 110 rfl) (by decide) h (fun h => ?_) (fun h => ?_)
  · refine ww_aload_n C 0 rfl rfl (dq dk_Mo_stride 113 rfl) ?_
    refine ww_iload C 3 rfl (dq dk_Mo_stride 114 rfl) ?_
    refine ww_cVv (st := []) C (c_Mo_push v0 ho_v0 v4) cw_Mo_push ho_v0 (lt_ rfl) rfl g_8_35 hRm ⟨⟨rfl, rfl⟩, le_ rfl, le_ rfl⟩ rfl rfl rfl (le_ rfl) (dq dk_Mo_stride 115 rfl) h (fun σ5 h => ?_)
    refine ww_iload_n C 2 rfl rfl (dq dk_Mo_stride 116 rfl) ?_
    refine ww_iconst C (dq dk_Mo_stride 117 rfl) ic_3 ?_
    refine ww_icmp_ne C 260 (dq dk_Mo_stride 118 rfl) (by decide) h (fun h => ?_) (fun h => ?_)
    · refine ww_iconst C (dq dk_Mo_stride 131 rfl) ic_m1 ?_
      refine ww_aload_n C 0 rfl rfl (dq dk_Mo_stride 132 rfl) ?_
      refine ww_getr C ko_Mo 14 ho_v0 (lt_ rfl) g_6_64 rfl rfl (dq dk_Mo_stride 133 rfl) ?_
      refine ww_iload_n C 1 rfl rfl (dq dk_Mo_stride 134 rfl) ?_
      refine ww_iald C (kc_Mo_14 _ ho_v0).1 (kc_Mo_14 _ ho_v0).2 (dq dk_Mo_stride 135 rfl) h (fun x6 h => ?_)
      refine ww_isub C (dq dk_Mo_stride 136 rfl) ?_
      refine ww_nmi h (fun x7 h => ?_)
      refine ww_istore_n C [(3, .int x7), (0, .ref (ad k v0)), (1, .int v1), (2, .int v2), (4, .int v4)] rfl hnL (lt_ rfl) rfl (dq dk_Mo_stride 137 rfl) ?_
      refine ww_goto C 448 (dq dk_Mo_stride 138 rfl) (by decide) ?_
      exact ww_lv [1, 0] rfl (t_Mo_stride_B448 C hR hRm hnL v0 x7 ho_v0 σ5 h)
    · refine ww_aload_n C 0 rfl rfl (dq dk_Mo_stride 119 rfl) ?_
      refine ww_aload_n C 0 rfl rfl (dq dk_Mo_stride 120 rfl) ?_
      refine ww_getr C ko_Mo 20 ho_v0 (lt_ rfl) g_6_70 rfl rfl (dq dk_Mo_stride 121 rfl) ?_
      refine ww_bipush C (dq dk_Mo_stride 122 rfl) bp_40 ?_
      refine ww_aload_n C 0 rfl rfl (dq dk_Mo_stride 123 rfl) ?_
      refine ww_getr C ko_Mo 14 ho_v0 (lt_ rfl) g_6_64 rfl rfl (dq dk_Mo_stride 124 rfl) ?_
      refine ww_iload_n C 1 rfl rfl (dq dk_Mo_stride 125 rfl) ?_
      refine ww_iald C (kc_Mo_14 _ ho_v0).1 (kc_Mo_14 _ ho_v0).2 (dq dk_Mo_stride 126 rfl) h (fun x8 h => ?_)
      refine ww_iadd C (dq dk_Mo_stride 127 rfl) ?_
      refine ww_iald C (kc_Mo_20 _ ho_v0).1 (kc_Mo_20 _ ho_v0).2 (dq dk_Mo_stride 128 rfl) h (fun x9 h => ?_)
      refine ww_cVi (st := []) C (c_Mo_passed v0 ho_v0 x9) cw_Mo_passed ho_v0 (lt_ rfl) rfl g_8_80 hRm ⟨⟨rfl, rfl⟩, le_ rfl, le_ rfl⟩ rfl rfl rfl (le_ rfl) (dq dk_Mo_stride 129 rfl) h (fun x11 σ10 h => ?_)
      refine ww_goto C 268 (dq dk_Mo_stride 130 rfl) (by decide) ?_
      refine ww_istore_n C [(3, .int x11), (0, .ref (ad k v0)), (1, .int v1), (2, .int v2), (4, .int v4)] rfl hnL (lt_ rfl) rfl (dq dk_Mo_stride 137 rfl) ?_
      refine ww_goto C 448 (dq dk_Mo_stride 138 rfl) (by decide) ?_
      exact ww_lv [1, 0] rfl (t_Mo_stride_B448 C hR hRm hnL v0 x11 ho_v0 σ10 h)
  · refine ww_iconst C (dq dk_Mo_stride 111 rfl) ic_3 ?_
    exact ww_iret C hR (dq dk_Mo_stride 112 rfl) h
set_option maxHeartbeats 4000000 in
set_option maxRecDepth 100000 in
theorem t_Mo_stride_B333 {k : Cfg} {res : Int32 × St} (C : Cx k prog_14_method_91_code "BundleHouseModel") (hR : RI k .int res) (hRm : k.2.2.2.1 = rm_Mo_stride) (hnL : k.2.2.2.2.2.2.2.2.2.2.2.1 = 5) (v0 : Nat) (v2 : Int32) (v3 : Int32) (v4 : Int32) (ho_v0 : kd v0 = 12) (σ : St) (h : Mo_stride_B333 v0 v2 v3 v4 σ = some res) : WW k 333 [(0, .ref (ad k v0)), (2, .int v2), (3, .int v3), (4, .int v4)] [] σ := by
  unfold Mo_stride_B333 at h
  refine ww_iload_n C 1 rfl rfl (dq dk_Mo_stride 174 rfl) ?_
  refine ww_bipush C (dq dk_Mo_stride 175 rfl) bp_6 ?_
  refine ww_icmp_ne C 345 (dq dk_Mo_stride 176 rfl) (by decide) h (fun h => ?_) (fun h => ?_)
  · refine ww_aload_n C 0 rfl rfl (dq dk_Mo_stride 180 rfl) ?_
    refine ww_cVv (st := []) C (c_Mo_forgetFlags v0 ho_v0) cw_Mo_forgetFlags ho_v0 (lt_ rfl) rfl g_8_116 hRm ⟨⟨rfl, rfl⟩, le_ rfl, le_ rfl⟩ rfl rfl rfl (le_ rfl) (dq dk_Mo_stride 181 rfl) h (fun σ1 h => ?_)
    refine ww_goto C 448 (dq dk_Mo_stride 182 rfl) (by decide) ?_
    exact ww_lv [0, 2] rfl (t_Mo_stride_B448 C hR hRm hnL v0 v3 ho_v0 σ1 h)
  · refine ww_aload_n C 0 rfl rfl (dq dk_Mo_stride 177 rfl) ?_
    refine ww_iload C 3 rfl (dq dk_Mo_stride 178 rfl) ?_
    refine ww_cVv (st := []) C (c_Mo_push v0 ho_v0 v4) cw_Mo_push ho_v0 (lt_ rfl) rfl g_8_35 hRm ⟨⟨rfl, rfl⟩, le_ rfl, le_ rfl⟩ rfl rfl rfl (le_ rfl) (dq dk_Mo_stride 179 rfl) h (fun σ2 h => ?_)
    refine ww_aload_n C 0 rfl rfl (dq dk_Mo_stride 180 rfl) ?_
    refine ww_cVv (st := []) C (c_Mo_forgetFlags v0 ho_v0) cw_Mo_forgetFlags ho_v0 (lt_ rfl) rfl g_8_116 hRm ⟨⟨rfl, rfl⟩, le_ rfl, le_ rfl⟩ rfl rfl rfl (le_ rfl) (dq dk_Mo_stride 181 rfl) h (fun σ3 h => ?_)
    refine ww_goto C 448 (dq dk_Mo_stride 182 rfl) (by decide) ?_
    exact ww_lv [0, 2] rfl (t_Mo_stride_B448 C hR hRm hnL v0 v3 ho_v0 σ3 h)
set_option maxHeartbeats 4000000 in
set_option maxRecDepth 100000 in
theorem t_Mo_stride_B272 {k : Cfg} {res : Int32 × St} (C : Cx k prog_14_method_91_code "BundleHouseModel") (hR : RI k .int res) (hRm : k.2.2.2.1 = rm_Mo_stride) (hnL : k.2.2.2.2.2.2.2.2.2.2.2.1 = 5) (v0 : Nat) (v1 : Int32) (v2 : Int32) (v4 : Int32) (ho_v0 : kd v0 = 12) (σ : St) (h : Mo_stride_B272 v0 v1 v2 v4 σ = some res) : WW k 272 [(0, .ref (ad k v0)), (1, .int v1), (2, .int v2), (4, .int v4)] [] σ := by
  unfold Mo_stride_B272 at h
  refine ww_aload_n C 0 rfl rfl (dq dk_Mo_stride 139 rfl) ?_
  refine ww_aload_n C 0 rfl rfl (dq dk_Mo_stride 140 rfl) ?_
  refine ww_getr C ko_Mo 14 ho_v0 (lt_ rfl) g_6_64 rfl rfl (dq dk_Mo_stride 141 rfl) ?_
  refine ww_iload_n C 1 rfl rfl (dq dk_Mo_stride 142 rfl) ?_
  refine ww_iald C (kc_Mo_14 _ ho_v0).1 (kc_Mo_14 _ ho_v0).2 (dq dk_Mo_stride 143 rfl) h (fun x1 h => ?_)
  refine ww_cVi (st := []) C (c_Mo_isUnknown v0 ho_v0 x1) cw_Mo_isUnknown ho_v0 (lt_ rfl) rfl g_8_108 hRm ⟨⟨rfl, rfl⟩, le_ rfl, le_ rfl⟩ rfl rfl rfl (le_ rfl) (dq dk_Mo_stride 144 rfl) h (fun x3 σ2 h => ?_)
  refine ww_if_eq C 288 (dq dk_Mo_stride 145 rfl) (by decide) h (fun h => ?_) (fun h => ?_)
  · refine ww_aload_n C 0 rfl rfl (dq dk_Mo_stride 148 rfl) ?_
    refine ww_aload_n C 0 rfl rfl (dq dk_Mo_stride 149 rfl) ?_
    refine ww_aload_n C 0 rfl rfl (dq dk_Mo_stride 150 rfl) ?_
    refine ww_getr C ko_Mo 14 ho_v0 (lt_ rfl) g_6_64 rfl rfl (dq dk_Mo_stride 151 rfl) ?_
    refine ww_iload_n C 1 rfl rfl (dq dk_Mo_stride 152 rfl) ?_
    refine ww_iald C (kc_Mo_14 _ ho_v0).1 (kc_Mo_14 _ ho_v0).2 (dq dk_Mo_stride 153 rfl) h (fun x4 h => ?_)
    refine ww_cVi (st := [.ref (ad k v0)]) C (c_Mo_reg v0 ho_v0 x4) cw_Mo_reg ho_v0 (lt_ rfl) rfl g_7_232 hRm ⟨⟨rfl, rfl⟩, le_ rfl, le_ rfl⟩ rfl rfl rfl (le_ rfl) (dq dk_Mo_stride 154 rfl) h (fun x6 σ5 h => ?_)
    refine ww_cVi (st := []) C (c_Mo_leads v0 ho_v0 x6) cw_Mo_leads ho_v0 (lt_ rfl) rfl g_8_92 hRm ⟨⟨rfl, rfl⟩, le_ rfl, le_ rfl⟩ rfl rfl rfl (le_ rfl) (dq dk_Mo_stride 155 rfl) h (fun x8 σ7 h => ?_)
    refine ww_istore_n C [(3, .int x8), (0, .ref (ad k v0)), (1, .int v1), (2, .int v2), (4, .int v4)] rfl hnL (lt_ rfl) rfl (dq dk_Mo_stride 156 rfl) ?_
    refine ww_iload_n C 0 rfl rfl (dq dk_Mo_stride 157 rfl) ?_
    refine ww_bipush C (dq dk_Mo_stride 158 rfl) bp_m100 ?_
    refine ww_icmp_ne C 312 (dq dk_Mo_stride 159 rfl) (by decide) h (fun h => ?_) (fun h => ?_)
    · refine ww_iload_n C 3 rfl rfl (dq dk_Mo_stride 162 rfl) ?_
      refine ww_bipush C (dq dk_Mo_stride 163 rfl) bp_6 ?_
      refine ww_icmp_ne C 333 (dq dk_Mo_stride 164 rfl) (by decide) h (fun h => ?_) (fun h => ?_)
      · exact ww_lv [1, 3, 0, 4] rfl (t_Mo_stride_B333 C hR hRm hnL v0 v2 x8 v4 ho_v0 σ7 h)
      · refine ww_aload_n C 1 rfl rfl (dq dk_Mo_stride 165 rfl) ?_
        refine ww_iconst C (dq dk_Mo_stride 166 rfl) ic_4 ?_
        refine ww_cVi (st := []) C (c_Mo_reg v0 ho_v0 4) cw_Mo_reg ho_v0 (lt_ rfl) rfl g_7_232 hRm ⟨⟨rfl, rfl⟩, le_ rfl, le_ rfl⟩ rfl rfl rfl (le_ rfl) (dq dk_Mo_stride 167 rfl) h (fun x10 σ9 h => ?_)
        refine ww_iconst C (dq dk_Mo_stride 168 rfl) ic_4 ?_
        refine ww_isub C (dq dk_Mo_stride 169 rfl) ?_
        refine ww_cSi (st := []) C (c_Mo_isThere (x10 - 4)) cw_Mo_isThere g_7_236 hRm ⟨⟨rfl, rfl⟩, le_ rfl, le_ rfl⟩ rfl rfl rfl (le_ rfl) (dq dk_Mo_stride 170 rfl) h (fun x12 σ11 h => ?_)
        refine ww_if_ne C 333 (dq dk_Mo_stride 171 rfl) (by decide) h (fun h => ?_) (fun h => ?_)
        · exact ww_lv [1, 3, 0, 4] rfl (t_Mo_stride_B333 C hR hRm hnL v0 v2 x8 v4 ho_v0 σ11 h)
        · refine ww_iconst C (dq dk_Mo_stride 172 rfl) ic_3 ?_
          exact ww_iret C hR (dq dk_Mo_stride 173 rfl) h
    · refine ww_bipush C (dq dk_Mo_stride 160 rfl) bp_9 ?_
      exact ww_iret C hR (dq dk_Mo_stride 161 rfl) h
  · refine ww_bipush C (dq dk_Mo_stride 146 rfl) bp_7 ?_
    exact ww_iret C hR (dq dk_Mo_stride 147 rfl) h
set_option maxHeartbeats 4000000 in
set_option maxRecDepth 100000 in
theorem c_Mo_stride (v0 : Nat) (ho_v0 : kd v0 = 12) : MI y_Mo_stride rm_Mo_stride prog_14_method_91_code 5 .int (fun a => [.ref (a v0)]) (Mo_stride v0) := by
  refine mi_of (by decide) (fun _ => le_ rfl) ?_
  intro k res σ C hR hRm hnL h
  unfold Mo_stride at h
  show WW k 0 [(0, .ref (ad k v0))] [] σ
  refine ww_aload_n C 0 rfl rfl (dq dk_Mo_stride 0 rfl) ?_
  refine ww_geti C ko_Mo 62 ho_v0 (lt_ rfl) g_6_112 rfl rfl (dq dk_Mo_stride 1 rfl) ?_
  refine ww_if_ge C 21 (dq dk_Mo_stride 2 rfl) (by decide) h (fun h => ?_) (fun h => ?_)
  · refine ww_aload_n C 0 rfl rfl (dq dk_Mo_stride 12 rfl) ?_
    refine ww_geti C ko_Mo 62 ho_v0 (lt_ rfl) g_6_112 rfl rfl (dq dk_Mo_stride 13 rfl) ?_
    refine ww_aload_n C 0 rfl rfl (dq dk_Mo_stride 14 rfl) ?_
    refine ww_geti C ko_Mo 9 ho_v0 (lt_ rfl) g_6_59 rfl rfl (dq dk_Mo_stride 15 rfl) ?_
    refine ww_icmp_ne C 44 (dq dk_Mo_stride 16 rfl) (by decide) h (fun h => ?_) (fun h => ?_)
    · refine ww_bipush C (dq dk_Mo_stride 27 rfl) bp_120 ?_
      refine ww_aload_n C 0 rfl rfl (dq dk_Mo_stride 28 rfl) ?_
      refine ww_geti C ko_Mo 62 ho_v0 (lt_ rfl) g_6_112 rfl rfl (dq dk_Mo_stride 29 rfl) ?_
      refine ww_iadd C (dq dk_Mo_stride 30 rfl) ?_
      refine ww_nmi h (fun x1 h => ?_)
      refine ww_istore_n C [(1, .int x1), (0, .ref (ad k v0))] rfl hnL (lt_ rfl) rfl (dq dk_Mo_stride 31 rfl) ?_
      refine ww_aload_n C 1 rfl rfl (dq dk_Mo_stride 32 rfl) ?_
      refine ww_getr C ko_Mo 11 ho_v0 (lt_ rfl) g_6_61 rfl rfl (dq dk_Mo_stride 33 rfl) ?_
      refine ww_iload_n C 0 rfl rfl (dq dk_Mo_stride 34 rfl) ?_
      refine ww_iald C (kc_Mo_11 _ ho_v0).1 (kc_Mo_11 _ ho_v0).2 (dq dk_Mo_stride 35 rfl) h (fun x2 h => ?_)
      refine ww_istore_n C [(2, .int x2), (1, .int x1), (0, .ref (ad k v0))] rfl hnL (lt_ rfl) rfl (dq dk_Mo_stride 36 rfl) ?_
      refine ww_iload_n C 0 rfl rfl (dq dk_Mo_stride 37 rfl) ?_
      refine ww_bipush C (dq dk_Mo_stride 38 rfl) bp_9 ?_
      refine ww_icmp_ne C 71 (dq dk_Mo_stride 39 rfl) (by decide) h (fun h => ?_) (fun h => ?_)
      · refine ww_aload_n C 2 rfl rfl (dq dk_Mo_stride 44 rfl) ?_
        refine ww_aload_n C 2 rfl rfl (dq dk_Mo_stride 45 rfl) ?_
        refine ww_geti C ko_Mo 62 ho_v0 (lt_ rfl) g_6_112 rfl rfl (dq dk_Mo_stride 46 rfl) ?_
        refine ww_iconst C (dq dk_Mo_stride 47 rfl) ic_1 ?_
        refine ww_iadd C (dq dk_Mo_stride 48 rfl) ?_
        refine ww_cVi (st := []) C (c_Mo_passed v0 ho_v0 ((σ v0 62) + 1)) cw_Mo_passed ho_v0 (lt_ rfl) rfl g_8_80 hRm ⟨⟨rfl, rfl⟩, le_ rfl, le_ rfl⟩ rfl rfl rfl (le_ rfl) (dq dk_Mo_stride 49 rfl) h (fun x4 σ3 h => ?_)
        refine ww_istore_n C [(3, .int x4), (2, .int x2), (1, .int x1), (0, .ref (ad k v0))] rfl hnL (lt_ rfl) rfl (dq dk_Mo_stride 50 rfl) ?_
        refine ww_sipush C (dq dk_Mo_stride 51 rfl) sp_256 ?_
        refine ww_aload_n C 3 rfl rfl (dq dk_Mo_stride 52 rfl) ?_
        refine ww_getr C ko_Mo 18 ho_v0 (lt_ rfl) g_6_68 rfl rfl (dq dk_Mo_stride 53 rfl) ?_
        refine ww_iload_n C 2 rfl rfl (dq dk_Mo_stride 54 rfl) ?_
        refine ww_iald C (kc_Mo_18 _ ho_v0).1 (kc_Mo_18 _ ho_v0).2 (dq dk_Mo_stride 55 rfl) h (fun x5 h => ?_)
        refine ww_iadd C (dq dk_Mo_stride 56 rfl) ?_
        refine ww_iconst C (dq dk_Mo_stride 57 rfl) ic_5 ?_
        refine ww_iadd C (dq dk_Mo_stride 58 rfl) ?_
        refine ww_nmi h (fun x6 h => ?_)
        refine ww_istore C [(4, .int x6), (3, .int x4), (2, .int x2), (1, .int x1), (0, .ref (ad k v0))] hnL (lt_ rfl) rfl (dq dk_Mo_stride 59 rfl) ?_
        refine ww_iload_n C 2 rfl rfl (dq dk_Mo_stride 60 rfl) ?_
        by_cases e0_1 : x2 = 1
        · rw [if_pos e0_1] at h
          refine ww_tabIn C 140 (dq dk_Mo_stride 61 rfl) (by rw [e0_1]; decide) (by rw [e0_1]; decide) (by rw [e0_1]; rfl) (by decide) ?_
          refine ww_aload_n C 4 rfl rfl (dq dk_Mo_stride 62 rfl) ?_
          refine ww_aload_n C 4 rfl rfl (dq dk_Mo_stride 63 rfl) ?_
          refine ww_getr C ko_Mo 20 ho_v0 (lt_ rfl) g_6_70 rfl rfl (dq dk_Mo_stride 64 rfl) ?_
          refine ww_bipush C (dq dk_Mo_stride 65 rfl) bp_40 ?_
          refine ww_aload_n C 4 rfl rfl (dq dk_Mo_stride 66 rfl) ?_
          refine ww_getr C ko_Mo 14 ho_v0 (lt_ rfl) g_6_64 rfl rfl (dq dk_Mo_stride 67 rfl) ?_
          refine ww_iload_n C 3 rfl rfl (dq dk_Mo_stride 68 rfl) ?_
          refine ww_iald C (kc_Mo_14 _ ho_v0).1 (kc_Mo_14 _ ho_v0).2 (dq dk_Mo_stride 69 rfl) h (fun x7 h => ?_)
          refine ww_iadd C (dq dk_Mo_stride 70 rfl) ?_
          refine ww_iald C (kc_Mo_20 _ ho_v0).1 (kc_Mo_20 _ ho_v0).2 (dq dk_Mo_stride 71 rfl) h (fun x8 h => ?_)
          refine ww_cVi (st := []) C (c_Mo_passed v0 ho_v0 x8) cw_Mo_passed ho_v0 (lt_ rfl) rfl g_8_80 hRm ⟨⟨rfl, rfl⟩, le_ rfl, le_ rfl⟩ rfl rfl rfl (le_ rfl) (dq dk_Mo_stride 72 rfl) h (fun x10 σ9 h => ?_)
          refine ww_istore_n C [(3, .int x10), (4, .int x6), (2, .int x2), (1, .int x1), (0, .ref (ad k v0))] rfl hnL (lt_ rfl) rfl (dq dk_Mo_stride 73 rfl) ?_
          refine ww_goto C 448 (dq dk_Mo_stride 74 rfl) (by decide) ?_
          exact ww_lv [4, 0] rfl (t_Mo_stride_B448 C hR hRm hnL v0 x10 ho_v0 σ9 h)
        rw [if_neg e0_1] at h
        by_cases e1_2 : x2 = 2
        · rw [if_pos e1_2] at h
          refine ww_tabIn C 162 (dq dk_Mo_stride 61 rfl) (by rw [e1_2]; decide) (by rw [e1_2]; decide) (by rw [e1_2]; rfl) (by decide) ?_
          refine ww_aload_n C 4 rfl rfl (dq dk_Mo_stride 75 rfl) ?_
          refine ww_aload_n C 4 rfl rfl (dq dk_Mo_stride 76 rfl) ?_
          refine ww_getr C ko_Mo 15 ho_v0 (lt_ rfl) g_6_65 rfl rfl (dq dk_Mo_stride 77 rfl) ?_
          refine ww_iload_n C 3 rfl rfl (dq dk_Mo_stride 78 rfl) ?_
          refine ww_iald C (kc_Mo_15 _ ho_v0).1 (kc_Mo_15 _ ho_v0).2 (dq dk_Mo_stride 79 rfl) h (fun x11 h => ?_)
          refine ww_cVi (st := []) C (c_Mo_namesUnknown v0 ho_v0 x11) cw_Mo_namesUnknown ho_v0 (lt_ rfl) rfl g_8_112 hRm ⟨⟨rfl, rfl⟩, le_ rfl, le_ rfl⟩ rfl rfl rfl (le_ rfl) (dq dk_Mo_stride 80 rfl) h (fun x13 σ12 h => ?_)
          refine ww_if_eq C 178 (dq dk_Mo_stride 81 rfl) (by decide) h (fun h => ?_) (fun h => ?_)
          · refine ww_aload_n C 4 rfl rfl (dq dk_Mo_stride 84 rfl) ?_
            refine ww_aload_n C 4 rfl rfl (dq dk_Mo_stride 85 rfl) ?_
            refine ww_getr C ko_Mo 15 ho_v0 (lt_ rfl) g_6_65 rfl rfl (dq dk_Mo_stride 86 rfl) ?_
            refine ww_iload_n C 3 rfl rfl (dq dk_Mo_stride 87 rfl) ?_
            refine ww_iald C (kc_Mo_15 _ ho_v0).1 (kc_Mo_15 _ ho_v0).2 (dq dk_Mo_stride 88 rfl) h (fun x14 h => ?_)
            refine ww_cVi (st := []) C (c_Mo_holds v0 ho_v0 x14) cw_Mo_holds ho_v0 (lt_ rfl) rfl g_8_31 hRm ⟨⟨rfl, rfl⟩, le_ rfl, le_ rfl⟩ rfl rfl rfl (le_ rfl) (dq dk_Mo_stride 89 rfl) h (fun x16 σ15 h => ?_)
            refine ww_if_eq C 448 (dq dk_Mo_stride 90 rfl) (by decide) h (fun h => ?_) (fun h => ?_)
            · exact ww_lv [4, 1] rfl (t_Mo_stride_B448 C hR hRm hnL v0 x4 ho_v0 σ15 h)
            · refine ww_aload_n C 4 rfl rfl (dq dk_Mo_stride 91 rfl) ?_
              refine ww_aload_n C 4 rfl rfl (dq dk_Mo_stride 92 rfl) ?_
              refine ww_getr C ko_Mo 20 ho_v0 (lt_ rfl) g_6_70 rfl rfl (dq dk_Mo_stride 93 rfl) ?_
              refine ww_bipush C (dq dk_Mo_stride 94 rfl) bp_40 ?_
              refine ww_aload_n C 4 rfl rfl (dq dk_Mo_stride 95 rfl) ?_
              refine ww_getr C ko_Mo 14 ho_v0 (lt_ rfl) g_6_64 rfl rfl (dq dk_Mo_stride 96 rfl) ?_
              refine ww_iload_n C 3 rfl rfl (dq dk_Mo_stride 97 rfl) ?_
              refine ww_iald C (kc_Mo_14 _ ho_v0).1 (kc_Mo_14 _ ho_v0).2 (dq dk_Mo_stride 98 rfl) h (fun x17 h => ?_)
              refine ww_iadd C (dq dk_Mo_stride 99 rfl) ?_
              refine ww_iald C (kc_Mo_20 _ ho_v0).1 (kc_Mo_20 _ ho_v0).2 (dq dk_Mo_stride 100 rfl) h (fun x18 h => ?_)
              refine ww_cVi (st := []) C (c_Mo_passed v0 ho_v0 x18) cw_Mo_passed ho_v0 (lt_ rfl) rfl g_8_80 hRm ⟨⟨rfl, rfl⟩, le_ rfl, le_ rfl⟩ rfl rfl rfl (le_ rfl) (dq dk_Mo_stride 101 rfl) h (fun x20 σ19 h => ?_)
              refine ww_istore_n C [(3, .int x20), (4, .int x6), (2, .int x2), (1, .int x1), (0, .ref (ad k v0))] rfl hnL (lt_ rfl) rfl (dq dk_Mo_stride 102 rfl) ?_
              refine ww_goto C 448 (dq dk_Mo_stride 103 rfl) (by decide) ?_
              exact ww_lv [4, 0] rfl (t_Mo_stride_B448 C hR hRm hnL v0 x20 ho_v0 σ19 h)
          · refine ww_bipush C (dq dk_Mo_stride 82 rfl) bp_7 ?_
            exact ww_iret C hR (dq dk_Mo_stride 83 rfl) h
        rw [if_neg e1_2] at h
        by_cases e2_3 : x2 = 3
        · rw [if_pos e2_3] at h
          refine ww_tabIn C 213 (dq dk_Mo_stride 61 rfl) (by rw [e2_3]; decide) (by rw [e2_3]; decide) (by rw [e2_3]; rfl) (by decide) ?_
          exact ww_lv [4, 3, 2, 0] rfl (t_Mo_stride_B213 C hR hRm hnL v0 x1 x2 x6 ho_v0 σ3 h)
        rw [if_neg e2_3] at h
        by_cases e3_4 : x2 = 4
        · rw [if_pos e3_4] at h
          refine ww_tabIn C 213 (dq dk_Mo_stride 61 rfl) (by rw [e3_4]; decide) (by rw [e3_4]; decide) (by rw [e3_4]; rfl) (by decide) ?_
          exact ww_lv [4, 3, 2, 0] rfl (t_Mo_stride_B213 C hR hRm hnL v0 x1 x2 x6 ho_v0 σ3 h)
        rw [if_neg e3_4] at h
        by_cases e4_5 : x2 = 5
        · rw [if_pos e4_5] at h
          refine ww_tabIn C 272 (dq dk_Mo_stride 61 rfl) (by rw [e4_5]; decide) (by rw [e4_5]; decide) (by rw [e4_5]; rfl) (by decide) ?_
          exact ww_lv [4, 3, 2, 0] rfl (t_Mo_stride_B272 C hR hRm hnL v0 x1 x2 x6 ho_v0 σ3 h)
        rw [if_neg e4_5] at h
        by_cases e5_6 : x2 = 6
        · rw [if_pos e5_6] at h
          refine ww_tabIn C 272 (dq dk_Mo_stride 61 rfl) (by rw [e5_6]; decide) (by rw [e5_6]; decide) (by rw [e5_6]; rfl) (by decide) ?_
          exact ww_lv [4, 3, 2, 0] rfl (t_Mo_stride_B272 C hR hRm hnL v0 x1 x2 x6 ho_v0 σ3 h)
        rw [if_neg e5_6] at h
        by_cases e6_7 : x2 = 7
        · rw [if_pos e6_7] at h
          refine ww_tabIn C 352 (dq dk_Mo_stride 61 rfl) (by rw [e6_7]; decide) (by rw [e6_7]; decide) (by rw [e6_7]; rfl) (by decide) ?_
          refine ww_aload_n C 4 rfl rfl (dq dk_Mo_stride 183 rfl) ?_
          refine ww_iconst C (dq dk_Mo_stride 184 rfl) ic_4 ?_
          refine ww_cVi (st := []) C (c_Mo_reg v0 ho_v0 4) cw_Mo_reg ho_v0 (lt_ rfl) rfl g_7_232 hRm ⟨⟨rfl, rfl⟩, le_ rfl, le_ rfl⟩ rfl rfl rfl (le_ rfl) (dq dk_Mo_stride 185 rfl) h (fun x22 σ21 h => ?_)
          refine ww_cSi (st := []) C (c_Mo_isThere x22) cw_Mo_isThere g_7_236 hRm ⟨⟨rfl, rfl⟩, le_ rfl, le_ rfl⟩ rfl rfl rfl (le_ rfl) (dq dk_Mo_stride 186 rfl) h (fun x24 σ23 h => ?_)
          refine ww_if_ne C 365 (dq dk_Mo_stride 187 rfl) (by decide) h (fun h => ?_) (fun h => ?_)
          · refine ww_aload_n C 4 rfl rfl (dq dk_Mo_stride 190 rfl) ?_
            refine ww_aload_n C 4 rfl rfl (dq dk_Mo_stride 191 rfl) ?_
            refine ww_aload_n C 4 rfl rfl (dq dk_Mo_stride 192 rfl) ?_
            refine ww_iconst C (dq dk_Mo_stride 193 rfl) ic_4 ?_
            refine ww_cVi (st := [.ref (ad k v0), .ref (ad k v0)]) C (c_Mo_reg v0 ho_v0 4) cw_Mo_reg ho_v0 (lt_ rfl) rfl g_7_232 hRm ⟨⟨rfl, rfl⟩, le_ rfl, le_ rfl⟩ rfl rfl rfl (le_ rfl) (dq dk_Mo_stride 194 rfl) h (fun x26 σ25 h => ?_)
            refine ww_cVi (st := [.ref (ad k v0)]) C (c_Mo_load v0 ho_v0 x26) cw_Mo_load ho_v0 (lt_ rfl) rfl g_8_11 hRm ⟨⟨rfl, rfl⟩, le_ rfl, le_ rfl⟩ rfl rfl rfl (le_ rfl) (dq dk_Mo_stride 195 rfl) h (fun x28 σ27 h => ?_)
            refine ww_cVi (st := []) C (c_Mo_leads v0 ho_v0 x28) cw_Mo_leads ho_v0 (lt_ rfl) rfl g_8_92 hRm ⟨⟨rfl, rfl⟩, le_ rfl, le_ rfl⟩ rfl rfl rfl (le_ rfl) (dq dk_Mo_stride 196 rfl) h (fun x30 σ29 h => ?_)
            refine ww_istore_n C [(3, .int x30), (4, .int x6), (2, .int x2), (1, .int x1), (0, .ref (ad k v0))] rfl hnL (lt_ rfl) rfl (dq dk_Mo_stride 197 rfl) ?_
            refine ww_iload_n C 0 rfl rfl (dq dk_Mo_stride 198 rfl) ?_
            refine ww_bipush C (dq dk_Mo_stride 199 rfl) bp_m100 ?_
            refine ww_icmp_ne C 388 (dq dk_Mo_stride 200 rfl) (by decide) h (fun h => ?_) (fun h => ?_)
            · refine ww_aload_n C 4 rfl rfl (dq dk_Mo_stride 203 rfl) ?_
              refine ww_iconst C (dq dk_Mo_stride 204 rfl) ic_4 ?_
              refine ww_aload_n C 4 rfl rfl (dq dk_Mo_stride 205 rfl) ?_
              refine ww_iconst C (dq dk_Mo_stride 206 rfl) ic_4 ?_
              refine ww_cVi (st := [.int 4, .ref (ad k v0)]) C (c_Mo_reg v0 ho_v0 4) cw_Mo_reg ho_v0 (lt_ rfl) rfl g_7_232 hRm ⟨⟨rfl, rfl⟩, le_ rfl, le_ rfl⟩ rfl rfl rfl (le_ rfl) (dq dk_Mo_stride 207 rfl) h (fun x32 σ31 h => ?_)
              refine ww_iconst C (dq dk_Mo_stride 208 rfl) ic_4 ?_
              refine ww_iadd C (dq dk_Mo_stride 209 rfl) ?_
              refine ww_cVv (st := []) C (c_Mo_setReg v0 ho_v0 4 (x32 + 4)) cw_Mo_setReg ho_v0 (lt_ rfl) rfl g_8_3 hRm ⟨⟨rfl, rfl⟩, le_ rfl, le_ rfl⟩ rfl rfl rfl (le_ rfl) (dq dk_Mo_stride 210 rfl) h (fun σ33 h => ?_)
              refine ww_aload_n C 4 rfl rfl (dq dk_Mo_stride 211 rfl) ?_
              refine ww_getr C ko_Mo 31 ho_v0 (lt_ rfl) g_6_81 rfl rfl (dq dk_Mo_stride 212 rfl) ?_
              refine ww_bipush C (dq dk_Mo_stride 213 rfl) bp_9 ?_
              refine ww_iconst C (dq dk_Mo_stride 214 rfl) ic_0 ?_
              refine ww_iast C (kc_Mo_31 _ ho_v0).1 (kc_Mo_31 _ ho_v0).2 (dq dk_Mo_stride 215 rfl) h (fun σ34 h => ?_)
              refine ww_aload_n C 4 rfl rfl (dq dk_Mo_stride 216 rfl) ?_
              refine ww_iconst C (dq dk_Mo_stride 217 rfl) ic_1 ?_
              refine ww_putZ C ko_Mo 40 ho_v0 (lt_ rfl) g_6_90 rfl rfl rfl rfl (Or.inr rfl) (dq dk_Mo_stride 218 rfl) h (fun σ35 h => ?_)
              refine ww_aload_n C 4 rfl rfl (dq dk_Mo_stride 219 rfl) ?_
              refine ww_cVv (st := []) C (c_Mo_forgetFlags v0 ho_v0) cw_Mo_forgetFlags ho_v0 (lt_ rfl) rfl g_8_116 hRm ⟨⟨rfl, rfl⟩, le_ rfl, le_ rfl⟩ rfl rfl rfl (le_ rfl) (dq dk_Mo_stride 220 rfl) h (fun σ36 h => ?_)
              refine ww_goto C 448 (dq dk_Mo_stride 221 rfl) (by decide) ?_
              exact ww_lv [4, 0] rfl (t_Mo_stride_B448 C hR hRm hnL v0 x30 ho_v0 σ36 h)
            · refine ww_bipush C (dq dk_Mo_stride 201 rfl) bp_9 ?_
              exact ww_iret C hR (dq dk_Mo_stride 202 rfl) h
          · refine ww_iconst C (dq dk_Mo_stride 188 rfl) ic_3 ?_
            exact ww_iret C hR (dq dk_Mo_stride 189 rfl) h
        rw [if_neg e6_7] at h
        have ne0_1 := lv_neT (a := 1) e0_1 (by decide)
        have ne1_2 := lv_neT (a := 2) e1_2 (by decide)
        have ne2_3 := lv_neT (a := 3) e2_3 (by decide)
        have ne3_4 := lv_neT (a := 4) e3_4 (by decide)
        have ne4_5 := lv_neT (a := 5) e4_5 (by decide)
        have ne5_6 := lv_neT (a := 6) e5_6 (by decide)
        have ne6_7 := lv_neT (a := 7) e6_7 (by decide)
        refine ww_tabOut C 420 (dq dk_Mo_stride 61 rfl) (by omega) (by decide) ?_
        refine ww_aload_n C 4 rfl rfl (dq dk_Mo_stride 222 rfl) ?_
        refine ww_aload_n C 4 rfl rfl (dq dk_Mo_stride 223 rfl) ?_
        refine ww_getr C ko_Mo 15 ho_v0 (lt_ rfl) g_6_65 rfl rfl (dq dk_Mo_stride 224 rfl) ?_
        refine ww_iload_n C 3 rfl rfl (dq dk_Mo_stride 225 rfl) ?_
        refine ww_iald C (kc_Mo_15 _ ho_v0).1 (kc_Mo_15 _ ho_v0).2 (dq dk_Mo_stride 226 rfl) h (fun x37 h => ?_)
        refine ww_sipush C (dq dk_Mo_stride 227 rfl) sp_256 ?_
        refine ww_aload_n C 4 rfl rfl (dq dk_Mo_stride 228 rfl) ?_
        refine ww_getr C ko_Mo 19 ho_v0 (lt_ rfl) g_6_69 rfl rfl (dq dk_Mo_stride 229 rfl) ?_
        refine ww_bipush C (dq dk_Mo_stride 230 rfl) bp_40 ?_
        refine ww_aload_n C 4 rfl rfl (dq dk_Mo_stride 231 rfl) ?_
        refine ww_getr C ko_Mo 14 ho_v0 (lt_ rfl) g_6_64 rfl rfl (dq dk_Mo_stride 232 rfl) ?_
        refine ww_iload_n C 3 rfl rfl (dq dk_Mo_stride 233 rfl) ?_
        refine ww_iald C (kc_Mo_14 _ ho_v0).1 (kc_Mo_14 _ ho_v0).2 (dq dk_Mo_stride 234 rfl) h (fun x38 h => ?_)
        refine ww_iadd C (dq dk_Mo_stride 235 rfl) ?_
        refine ww_iald C (kc_Mo_19 _ ho_v0).1 (kc_Mo_19 _ ho_v0).2 (dq dk_Mo_stride 236 rfl) h (fun x39 h => ?_)
        refine ww_iadd C (dq dk_Mo_stride 237 rfl) ?_
        refine ww_cVv (st := []) C (c_Mo_setReg v0 ho_v0 x37 (256 + x39)) cw_Mo_setReg ho_v0 (lt_ rfl) rfl g_8_3 hRm ⟨⟨rfl, rfl⟩, le_ rfl, le_ rfl⟩ rfl rfl rfl (le_ rfl) (dq dk_Mo_stride 238 rfl) h (fun σ40 h => ?_)
        exact ww_lv [4, 1] rfl (t_Mo_stride_B448 C hR hRm hnL v0 x4 ho_v0 σ40 h)
      · refine ww_aload_n C 2 rfl rfl (dq dk_Mo_stride 40 rfl) ?_
        refine ww_iload_n C 1 rfl rfl (dq dk_Mo_stride 41 rfl) ?_
        refine ww_cVi (st := []) C (c_Mo_plainStride v0 ho_v0 x1) cw_Mo_plainStride ho_v0 (lt_ rfl) rfl g_8_96 hRm ⟨⟨rfl, rfl⟩, le_ rfl, le_ rfl⟩ rfl rfl rfl (le_ rfl) (dq dk_Mo_stride 42 rfl) h (fun x42 σ41 h => ?_)
        exact ww_iret C hR (dq dk_Mo_stride 43 rfl) h
    · refine ww_aload_n C 0 rfl rfl (dq dk_Mo_stride 17 rfl) ?_
      refine ww_getr C ko_Mo 37 ho_v0 (lt_ rfl) g_6_87 rfl rfl (dq dk_Mo_stride 18 rfl) ?_
      refine ww_iconst C (dq dk_Mo_stride 19 rfl) ic_1 ?_
      refine ww_dup2 C rfl rfl (dq dk_Mo_stride 20 rfl) ?_
      refine ww_iald C (kc_Mo_37 _ ho_v0).1 (kc_Mo_37 _ ho_v0).2 (dq dk_Mo_stride 21 rfl) h (fun x43 h => ?_)
      refine ww_iconst C (dq dk_Mo_stride 22 rfl) ic_1 ?_
      refine ww_iadd C (dq dk_Mo_stride 23 rfl) ?_
      refine ww_iast C (kc_Mo_37 _ ho_v0).1 (kc_Mo_37 _ ho_v0).2 (dq dk_Mo_stride 24 rfl) h (fun σ44 h => ?_)
      refine ww_iconst C (dq dk_Mo_stride 25 rfl) ic_1 ?_
      exact ww_iret C hR (dq dk_Mo_stride 26 rfl) h
  · refine ww_aload_n C 0 rfl rfl (dq dk_Mo_stride 3 rfl) ?_
    refine ww_bipush C (dq dk_Mo_stride 4 rfl) bp_16 ?_
    refine ww_iconst C (dq dk_Mo_stride 5 rfl) ic_m1 ?_
    refine ww_aload_n C 0 rfl rfl (dq dk_Mo_stride 6 rfl) ?_
    refine ww_geti C ko_Mo 62 ho_v0 (lt_ rfl) g_6_112 rfl rfl (dq dk_Mo_stride 7 rfl) ?_
    refine ww_isub C (dq dk_Mo_stride 8 rfl) ?_
    refine ww_imul C (dq dk_Mo_stride 9 rfl) ?_
    refine ww_cVi (st := []) C (c_Mo_atService v0 ho_v0 (16 * ((-1) - (σ v0 62)))) cw_Mo_atService ho_v0 (lt_ rfl) rfl g_8_88 hRm ⟨⟨rfl, rfl⟩, le_ rfl, le_ rfl⟩ rfl rfl rfl (le_ rfl) (dq dk_Mo_stride 10 rfl) h (fun x46 σ45 h => ?_)
    exact ww_iret C hR (dq dk_Mo_stride 11 rfl) h
abbrev y_Mo_walk : MethodName := ⟨"BundleHouseModel", "walk", "(I)I"⟩
def dl_Mo_walk : List (Nat × Instr × Nat) := [(0, .aload_n 0, 1), (1, .aload_n 0, 1), (2, .getfield 202, 3), (5, .ifCond .ne 7, 3), (8, .iconst 1, 1), (9, .goto 4, 3), (12, .iconst 0, 1), (13, .iload_n 1, 1), (14, .iconst 1, 1), (15, .if_icmp .lt 10, 3), (18, .iload_n 1, 1), (19, .sipush 5000, 3), (22, .if_icmp .le 7, 3), (25, .iconst 1, 1), (26, .goto 4, 3), (29, .iconst 0, 1), (30, .invokevirtual 306, 3), (33, .ifCond .eq 5, 3), (36, .iconst 0, 1), (37, .ireturn, 1), (38, .aload_n 0, 1), (39, .iconst 1, 1), (40, .invokevirtual 396, 3), (43, .aload_n 0, 1), (44, .aload_n 0, 1), (45, .iconst 0, 1), (46, .invokevirtual 418, 3), (49, .putfield 421, 3), (52, .iconst (-1), 1), (53, .istore_n 2, 1), (54, .iload_n 2, 1), (55, .ifCond .ge 25, 3), (58, .aload_n 0, 1), (59, .getfield 93, 3), (62, .iconst 1, 1), (63, .iaload, 1), (64, .iload_n 1, 1), (65, .if_icmp .ne 7, 3), (68, .iconst 0, 1), (69, .goto 7, 3), (72, .aload_n 0, 1), (73, .invokevirtual 424, 3), (76, .istore_n 2, 1), (77, .goto (-23), 3), (80, .aload_n 0, 1), (81, .getfield 96, 3), (84, .iconst 1, 1), (85, .iload_n 2, 1), (86, .iastore, 1), (87, .aload_n 0, 1), (88, .getfield 90, 3), (91, .iconst 1, 1), (92, .aload_n 0, 1), (93, .getfield 421, 3), (96, .ifCond .ge 15, 3), (99, .bipush 16, 2), (101, .iconst (-1), 1), (102, .aload_n 0, 1), (103, .getfield 421, 3), (106, .isub, 1), (107, .imul, 1), (108, .goto 37, 3), (111, .sipush 256, 3), (114, .aload_n 0, 1), (115, .getfield 421, 3), (118, .aload_n 0, 1), (119, .getfield 300, 3), (122, .if_icmp .ge 18, 3), (125, .aload_n 0, 1), (126, .getfield 44, 3), (129, .bipush 120, 2), (131, .aload_n 0, 1), (132, .getfield 421, 3), (135, .iadd, 1), (136, .iaload, 1), (137, .goto 7, 3), (140, .aload_n 0, 1), (141, .getfield 303, 3), (144, .iadd, 1), (145, .iastore, 1), (146, .iload_n 2, 1), (147, .ireturn, 1)]
set_option maxRecDepth 100000 in
theorem dk_Mo_walk : ∀ q ∈ dl_Mo_walk, decode prog_14_method_83_code q.1 = .ok q.2 := by decide +kernel
abbrev rm_Mo_walk : Room := { frames := 6, cells := 0, slots := 0, locals := 148 }
theorem cw_Mo_walk : CWV y_Mo_walk prog_14_method_83_code 3 (some .int) 1 := ⟨⟨g_8_79, g_1_13, by decide, by decide, by decide +kernel⟩, g_8_77, g_8_78⟩
set_option maxHeartbeats 4000000 in
set_option maxRecDepth 100000 in
theorem t_Mo_walk_B54 {k : Cfg} {res : Int32 × St} (C : Cx k prog_14_method_83_code "BundleHouseModel") (hR : RI k .int res) (hRm : k.2.2.2.1 = rm_Mo_walk) (hnL : k.2.2.2.2.2.2.2.2.2.2.2.1 = 3) : ∀ (n : Nat) (v0 : Nat) (v1 : Int32) (v2 : Int32) (ho_v0 : kd v0 = 12) (σ : St), Mo_walk_B54 n v0 v1 v2 σ = some res → WW k 54 [(0, .ref (ad k v0)), (1, .int v1), (2, .int v2)] [] σ := by
  intro n
  induction n with
  | zero =>
    intro v0 v1 v2 ho_v0 σ h
    have h : (none : Option (Int32 × St)) = some res := h
    cases h
  | succ n ih =>
    intro v0 v1 v2 ho_v0 σ h
    unfold Mo_walk_B54 at h
    refine ww_iload_n C 2 rfl rfl (dq dk_Mo_walk 30 rfl) ?_
    refine ww_if_ge C 80 (dq dk_Mo_walk 31 rfl) (by decide) h (fun h => ?_) (fun h => ?_)
    · refine ww_aload_n C 0 rfl rfl (dq dk_Mo_walk 44 rfl) ?_
      refine ww_getr C ko_Mo 38 ho_v0 (lt_ rfl) g_6_88 rfl rfl (dq dk_Mo_walk 45 rfl) ?_
      refine ww_iconst C (dq dk_Mo_walk 46 rfl) ic_1 ?_
      refine ww_iload_n C 2 rfl rfl (dq dk_Mo_walk 47 rfl) ?_
      refine ww_iast C (kc_Mo_38 _ ho_v0).1 (kc_Mo_38 _ ho_v0).2 (dq dk_Mo_walk 48 rfl) h (fun σ1 h => ?_)
      refine ww_aload_n C 0 rfl rfl (dq dk_Mo_walk 49 rfl) ?_
      refine ww_getr C ko_Mo 36 ho_v0 (lt_ rfl) g_6_86 rfl rfl (dq dk_Mo_walk 50 rfl) ?_
      refine ww_iconst C (dq dk_Mo_walk 51 rfl) ic_1 ?_
      refine ww_aload_n C 0 rfl rfl (dq dk_Mo_walk 52 rfl) ?_
      refine ww_geti C ko_Mo 62 ho_v0 (lt_ rfl) g_6_112 rfl rfl (dq dk_Mo_walk 53 rfl) ?_
      refine ww_if_ge C 111 (dq dk_Mo_walk 54 rfl) (by decide) h (fun h => ?_) (fun h => ?_)
      · refine ww_sipush C (dq dk_Mo_walk 62 rfl) sp_256 ?_
        refine ww_aload_n C 0 rfl rfl (dq dk_Mo_walk 63 rfl) ?_
        refine ww_geti C ko_Mo 62 ho_v0 (lt_ rfl) g_6_112 rfl rfl (dq dk_Mo_walk 64 rfl) ?_
        refine ww_aload_n C 0 rfl rfl (dq dk_Mo_walk 65 rfl) ?_
        refine ww_geti C ko_Mo 9 ho_v0 (lt_ rfl) g_6_59 rfl rfl (dq dk_Mo_walk 66 rfl) ?_
        refine ww_icmp_ge C 140 (dq dk_Mo_walk 67 rfl) (by decide) h (fun h => ?_) (fun h => ?_)
        · refine ww_aload_n C 0 rfl rfl (dq dk_Mo_walk 76 rfl) ?_
          refine ww_geti C ko_Mo 55 ho_v0 (lt_ rfl) g_6_105 rfl rfl (dq dk_Mo_walk 77 rfl) ?_
          refine ww_iadd C (dq dk_Mo_walk 78 rfl) ?_
          refine ww_iast C (kc_Mo_36 _ ho_v0).1 (kc_Mo_36 _ ho_v0).2 (dq dk_Mo_walk 79 rfl) h (fun σ2 h => ?_)
          refine ww_iload_n C 2 rfl rfl (dq dk_Mo_walk 80 rfl) ?_
          exact ww_iret C hR (dq dk_Mo_walk 81 rfl) h
        · refine ww_aload_n C 0 rfl rfl (dq dk_Mo_walk 68 rfl) ?_
          refine ww_getr C ko_Mo 18 ho_v0 (lt_ rfl) g_6_68 rfl rfl (dq dk_Mo_walk 69 rfl) ?_
          refine ww_bipush C (dq dk_Mo_walk 70 rfl) bp_120 ?_
          refine ww_aload_n C 0 rfl rfl (dq dk_Mo_walk 71 rfl) ?_
          refine ww_geti C ko_Mo 62 ho_v0 (lt_ rfl) g_6_112 rfl rfl (dq dk_Mo_walk 72 rfl) ?_
          refine ww_iadd C (dq dk_Mo_walk 73 rfl) ?_
          refine ww_iald C (kc_Mo_18 _ ho_v0).1 (kc_Mo_18 _ ho_v0).2 (dq dk_Mo_walk 74 rfl) h (fun x3 h => ?_)
          refine ww_goto C 144 (dq dk_Mo_walk 75 rfl) (by decide) ?_
          refine ww_iadd C (dq dk_Mo_walk 78 rfl) ?_
          refine ww_iast C (kc_Mo_36 _ ho_v0).1 (kc_Mo_36 _ ho_v0).2 (dq dk_Mo_walk 79 rfl) h (fun σ4 h => ?_)
          refine ww_iload_n C 2 rfl rfl (dq dk_Mo_walk 80 rfl) ?_
          exact ww_iret C hR (dq dk_Mo_walk 81 rfl) h
      · refine ww_bipush C (dq dk_Mo_walk 55 rfl) bp_16 ?_
        refine ww_iconst C (dq dk_Mo_walk 56 rfl) ic_m1 ?_
        refine ww_aload_n C 0 rfl rfl (dq dk_Mo_walk 57 rfl) ?_
        refine ww_geti C ko_Mo 62 ho_v0 (lt_ rfl) g_6_112 rfl rfl (dq dk_Mo_walk 58 rfl) ?_
        refine ww_isub C (dq dk_Mo_walk 59 rfl) ?_
        refine ww_imul C (dq dk_Mo_walk 60 rfl) ?_
        refine ww_goto C 145 (dq dk_Mo_walk 61 rfl) (by decide) ?_
        refine ww_iast C (kc_Mo_36 _ ho_v0).1 (kc_Mo_36 _ ho_v0).2 (dq dk_Mo_walk 79 rfl) h (fun σ5 h => ?_)
        refine ww_iload_n C 2 rfl rfl (dq dk_Mo_walk 80 rfl) ?_
        exact ww_iret C hR (dq dk_Mo_walk 81 rfl) h
    · refine ww_aload_n C 0 rfl rfl (dq dk_Mo_walk 32 rfl) ?_
      refine ww_getr C ko_Mo 37 ho_v0 (lt_ rfl) g_6_87 rfl rfl (dq dk_Mo_walk 33 rfl) ?_
      refine ww_iconst C (dq dk_Mo_walk 34 rfl) ic_1 ?_
      refine ww_iald C (kc_Mo_37 _ ho_v0).1 (kc_Mo_37 _ ho_v0).2 (dq dk_Mo_walk 35 rfl) h (fun x6 h => ?_)
      refine ww_iload_n C 1 rfl rfl (dq dk_Mo_walk 36 rfl) ?_
      refine ww_icmp_ne C 72 (dq dk_Mo_walk 37 rfl) (by decide) h (fun h => ?_) (fun h => ?_)
      · refine ww_aload_n C 0 rfl rfl (dq dk_Mo_walk 40 rfl) ?_
        refine ww_cVi (st := []) C (c_Mo_stride v0 ho_v0) cw_Mo_stride ho_v0 (lt_ rfl) rfl g_8_84 hRm ⟨⟨rfl, rfl⟩, le_ rfl, le_ rfl⟩ rfl rfl rfl (le_ rfl) (dq dk_Mo_walk 41 rfl) h (fun x8 σ7 h => ?_)
        refine ww_istore_n C [(2, .int x8), (0, .ref (ad k v0)), (1, .int v1)] rfl hnL (lt_ rfl) rfl (dq dk_Mo_walk 42 rfl) ?_
        refine ww_goto C 54 (dq dk_Mo_walk 43 rfl) (by decide) ?_
        exact ww_lv [1, 2, 0] rfl (ih v0 v1 x8 ho_v0 σ7 h)
      · refine ww_iconst C (dq dk_Mo_walk 38 rfl) ic_0 ?_
        refine ww_goto C 76 (dq dk_Mo_walk 39 rfl) (by decide) ?_
        refine ww_istore_n C [(2, .int 0), (0, .ref (ad k v0)), (1, .int v1)] rfl hnL (lt_ rfl) rfl (dq dk_Mo_walk 42 rfl) ?_
        refine ww_goto C 54 (dq dk_Mo_walk 43 rfl) (by decide) ?_
        exact ww_lv [1, 2, 0] rfl (ih v0 v1 0 ho_v0 σ h)
set_option maxHeartbeats 4000000 in
set_option maxRecDepth 100000 in
theorem t_Mo_walk_B30 {k : Cfg} {res : Int32 × St} (C : Cx k prog_14_method_83_code "BundleHouseModel") (hR : RI k .int res) (hRm : k.2.2.2.1 = rm_Mo_walk) (hnL : k.2.2.2.2.2.2.2.2.2.2.2.1 = 3) (v0 : Nat) (v1 : Int32) (t0 : Nat) (t1 : Int32) (t2 : Int32) (ho_v0 : kd v0 = 12) (ho_t0 : kd t0 = 12) (σ : St) (h : Mo_walk_B30 v0 v1 t0 t1 t2 σ = some res) : WW k 30 [(0, .ref (ad k v0)), (1, .int v1)] [.int t2, .int t1, .ref (ad k t0)] σ := by
  unfold Mo_walk_B30 at h
  refine ww_cVi (st := []) C (c_Mo_throwing t0 ho_t0 t1 t2) cw_Mo_throwing ho_t0 (lt_ rfl) rfl g_7_208 hRm ⟨⟨rfl, rfl⟩, le_ rfl, le_ rfl⟩ rfl rfl rfl (le_ rfl) (dq dk_Mo_walk 16 rfl) h (fun x2 σ1 h => ?_)
  refine ww_if_eq C 38 (dq dk_Mo_walk 17 rfl) (by decide) h (fun h => ?_) (fun h => ?_)
  · refine ww_aload_n C 0 rfl rfl (dq dk_Mo_walk 20 rfl) ?_
    refine ww_iconst C (dq dk_Mo_walk 21 rfl) ic_1 ?_
    refine ww_cVv (st := []) C (c_Mo_begin v0 ho_v0 1) cw_Mo_begin ho_v0 (lt_ rfl) rfl g_7_224 hRm ⟨⟨rfl, rfl⟩, le_ rfl, le_ rfl⟩ rfl rfl rfl (le_ rfl) (dq dk_Mo_walk 22 rfl) h (fun σ3 h => ?_)
    refine ww_aload_n C 0 rfl rfl (dq dk_Mo_walk 23 rfl) ?_
    refine ww_aload_n C 0 rfl rfl (dq dk_Mo_walk 24 rfl) ?_
    refine ww_iconst C (dq dk_Mo_walk 25 rfl) ic_0 ?_
    refine ww_cVi (st := [.ref (ad k v0)]) C (c_Mo_passed v0 ho_v0 0) cw_Mo_passed ho_v0 (lt_ rfl) rfl g_8_80 hRm ⟨⟨rfl, rfl⟩, le_ rfl, le_ rfl⟩ rfl rfl rfl (le_ rfl) (dq dk_Mo_walk 26 rfl) h (fun x5 σ4 h => ?_)
    refine ww_puti C ko_Mo 62 ho_v0 (lt_ rfl) g_6_112 rfl rfl rfl rfl (dq dk_Mo_walk 27 rfl) h (fun σ6 h => ?_)
    refine ww_iconst C (dq dk_Mo_walk 28 rfl) ic_m1 ?_
    refine ww_istore_n C [(2, .int (-1)), (0, .ref (ad k v0)), (1, .int v1)] rfl hnL (lt_ rfl) rfl (dq dk_Mo_walk 29 rfl) ?_
    exact ww_lv [1, 2, 0] rfl (t_Mo_walk_B54 C hR hRm hnL FU v0 v1 (-1) ho_v0 σ6 h)
  · refine ww_iconst C (dq dk_Mo_walk 18 rfl) ic_0 ?_
    exact ww_iret C hR (dq dk_Mo_walk 19 rfl) h
set_option maxHeartbeats 4000000 in
set_option maxRecDepth 100000 in
theorem c_Mo_walk (v0 : Nat) (ho_v0 : kd v0 = 12) (v1 : Int32) : MI y_Mo_walk rm_Mo_walk prog_14_method_83_code 3 .int (fun a => [.ref (a v0), .int v1]) (Mo_walk v0 v1) := by
  refine mi_of (by decide) (fun _ => le_ rfl) ?_
  intro k res σ C hR hRm hnL h
  unfold Mo_walk at h
  show WW k 0 [(0, .ref (ad k v0)), (1, .int v1)] [] σ
  refine ww_aload_n C 0 rfl rfl (dq dk_Mo_walk 0 rfl) ?_
  refine ww_aload_n C 0 rfl rfl (dq dk_Mo_walk 1 rfl) ?_
  refine ww_geti C ko_Mo 10 ho_v0 (lt_ rfl) g_6_60 rfl rfl (dq dk_Mo_walk 2 rfl) ?_
  refine ww_if_ne C 12 (dq dk_Mo_walk 3 rfl) (by decide) h (fun h => ?_) (fun h => ?_)
  · refine ww_iconst C (dq dk_Mo_walk 6 rfl) ic_0 ?_
    refine ww_iload_n C 1 rfl rfl (dq dk_Mo_walk 7 rfl) ?_
    refine ww_iconst C (dq dk_Mo_walk 8 rfl) ic_1 ?_
    refine ww_icmp_lt C 25 (dq dk_Mo_walk 9 rfl) (by decide) h (fun h => ?_) (fun h => ?_)
    · refine ww_iconst C (dq dk_Mo_walk 13 rfl) ic_1 ?_
      refine ww_goto C 30 (dq dk_Mo_walk 14 rfl) (by decide) ?_
      exact ww_lv [0, 1] rfl (t_Mo_walk_B30 C hR hRm hnL v0 v1 v0 0 1 ho_v0 ho_v0 σ h)
    · refine ww_iload_n C 1 rfl rfl (dq dk_Mo_walk 10 rfl) ?_
      refine ww_sipush C (dq dk_Mo_walk 11 rfl) sp_5000 ?_
      refine ww_icmp_le C 29 (dq dk_Mo_walk 12 rfl) (by decide) h (fun h => ?_) (fun h => ?_)
      · refine ww_iconst C (dq dk_Mo_walk 15 rfl) ic_0 ?_
        exact ww_lv [0, 1] rfl (t_Mo_walk_B30 C hR hRm hnL v0 v1 v0 0 0 ho_v0 ho_v0 σ h)
      · refine ww_iconst C (dq dk_Mo_walk 13 rfl) ic_1 ?_
        refine ww_goto C 30 (dq dk_Mo_walk 14 rfl) (by decide) ?_
        exact ww_lv [0, 1] rfl (t_Mo_walk_B30 C hR hRm hnL v0 v1 v0 0 1 ho_v0 ho_v0 σ h)
  · refine ww_iconst C (dq dk_Mo_walk 4 rfl) ic_1 ?_
    refine ww_goto C 13 (dq dk_Mo_walk 5 rfl) (by decide) ?_
    refine ww_iload_n C 1 rfl rfl (dq dk_Mo_walk 7 rfl) ?_
    refine ww_iconst C (dq dk_Mo_walk 8 rfl) ic_1 ?_
    refine ww_icmp_lt C 25 (dq dk_Mo_walk 9 rfl) (by decide) h (fun h => ?_) (fun h => ?_)
    · refine ww_iconst C (dq dk_Mo_walk 13 rfl) ic_1 ?_
      refine ww_goto C 30 (dq dk_Mo_walk 14 rfl) (by decide) ?_
      exact ww_lv [0, 1] rfl (t_Mo_walk_B30 C hR hRm hnL v0 v1 v0 1 1 ho_v0 ho_v0 σ h)
    · refine ww_iload_n C 1 rfl rfl (dq dk_Mo_walk 10 rfl) ?_
      refine ww_sipush C (dq dk_Mo_walk 11 rfl) sp_5000 ?_
      refine ww_icmp_le C 29 (dq dk_Mo_walk 12 rfl) (by decide) h (fun h => ?_) (fun h => ?_)
      · refine ww_iconst C (dq dk_Mo_walk 15 rfl) ic_0 ?_
        exact ww_lv [0, 1] rfl (t_Mo_walk_B30 C hR hRm hnL v0 v1 v0 1 0 ho_v0 ho_v0 σ h)
      · refine ww_iconst C (dq dk_Mo_walk 13 rfl) ic_1 ?_
        refine ww_goto C 30 (dq dk_Mo_walk 14 rfl) (by decide) ?_
        exact ww_lv [0, 1] rfl (t_Mo_walk_B30 C hR hRm hnL v0 v1 v0 1 1 ho_v0 ho_v0 σ h)
abbrev y_Mo_state : MethodName := ⟨"BundleHouseModel", "state", "(ZI)I"⟩
def dl_Mo_state : List (Nat × Instr × Nat) := [(0, .iload_n 1, 1), (1, .ifCond .eq 7, 3), (4, .iconst 1, 1), (5, .goto 4, 3), (8, .iconst 0, 1), (9, .istore_n 3, 1), (10, .aload_n 0, 1), (11, .aload_n 0, 1), (12, .getfield 72, 3), (15, .iload_n 3, 1), (16, .baload, 1), (17, .ifCond .eq 13, 3), (20, .iload_n 2, 1), (21, .ifCond .lt 9, 3), (24, .iload_n 2, 1), (25, .bipush 17, 2), (27, .if_icmp .le 7, 3), (30, .iconst 1, 1), (31, .goto 4, 3), (34, .iconst 0, 1), (35, .iconst 0, 1), (36, .invokevirtual 306, 3), (39, .ifCond .eq 5, 3), (42, .iconst 0, 1), (43, .ireturn, 1), (44, .iload_n 2, 1), (45, .bipush 8, 2), (47, .if_icmp .ge 15, 3), (50, .aload_n 0, 1), (51, .getfield 75, 3), (54, .bipush 8, 2), (56, .iload_n 3, 1), (57, .imul, 1), (58, .iload_n 2, 1), (59, .iadd, 1), (60, .iaload, 1), (61, .ireturn, 1), (62, .iload_n 2, 1), (63, .bipush 12, 2), (65, .if_icmp .ge 17, 3), (68, .aload_n 0, 1), (69, .getfield 78, 3), (72, .iconst 4, 1), (73, .iload_n 3, 1), (74, .imul, 1), (75, .iload_n 2, 1), (76, .iadd, 1), (77, .bipush 8, 2), (79, .isub, 1), (80, .iaload, 1), (81, .ireturn, 1), (82, .iload_n 2, 1), (83, .tableswitch 74 12 16 #[33, 40, 47, 54, 61], 33), (116, .aload_n 0, 1), (117, .getfield 90, 3), (120, .iload_n 3, 1), (121, .iaload, 1), (122, .ireturn, 1), (123, .aload_n 0, 1), (124, .getfield 93, 3), (127, .iload_n 3, 1), (128, .iaload, 1), (129, .ireturn, 1), (130, .aload_n 0, 1), (131, .getfield 96, 3), (134, .iload_n 3, 1), (135, .iaload, 1), (136, .ireturn, 1), (137, .aload_n 0, 1), (138, .getfield 87, 3), (141, .iload_n 3, 1), (142, .iaload, 1), (143, .ireturn, 1), (144, .iload_n 1, 1), (145, .ifCond .eq 7, 3), (148, .iconst 0, 1), (149, .goto 7, 3), (152, .aload_n 0, 1), (153, .getfield 325, 3), (156, .ireturn, 1), (157, .iload_n 1, 1), (158, .ifCond .eq 14, 3), (161, .aload_n 0, 1), (162, .getfield 316, 3), (165, .ifCond .eq 7, 3), (168, .iconst 1, 1), (169, .goto 4, 3), (172, .iconst 0, 1), (173, .ireturn, 1)]
set_option maxRecDepth 100000 in
theorem dk_Mo_state : ∀ q ∈ dl_Mo_state, decode prog_14_method_94_code q.1 = .ok q.2 := by decide +kernel
abbrev rm_Mo_state : Room := { frames := 1, cells := 0, slots := 0, locals := 22 }
theorem cw_Mo_state : CWV y_Mo_state prog_14_method_94_code 4 (some .int) 2 := ⟨⟨g_8_123, g_1_13, by decide, by decide, by decide +kernel⟩, g_8_121, g_8_122⟩
set_option maxHeartbeats 4000000 in
set_option maxRecDepth 100000 in
theorem t_Mo_state_B35 {k : Cfg} {res : Int32 × St} (C : Cx k prog_14_method_94_code "BundleHouseModel") (hR : RI k .int res) (hRm : k.2.2.2.1 = rm_Mo_state) (hnL : k.2.2.2.2.2.2.2.2.2.2.2.1 = 4) (v0 : Nat) (v1 : Int32) (v2 : Int32) (v3 : Int32) (t0 : Nat) (t1 : Int32) (ho_v0 : kd v0 = 12) (ho_t0 : kd t0 = 12) (σ : St) (h : Mo_state_B35 v0 v1 v2 v3 t0 t1 σ = some res) : WW k 35 [(0, .ref (ad k v0)), (1, .int v1), (2, .int v2), (3, .int v3)] [.int t1, .ref (ad k t0)] σ := by
  unfold Mo_state_B35 at h
  refine ww_iconst C (dq dk_Mo_state 20 rfl) ic_0 ?_
  refine ww_cVi (st := []) C (c_Mo_throwing t0 ho_t0 t1 0) cw_Mo_throwing ho_t0 (lt_ rfl) rfl g_7_208 hRm ⟨⟨rfl, rfl⟩, le_ rfl, le_ rfl⟩ rfl rfl rfl (le_ rfl) (dq dk_Mo_state 21 rfl) h (fun x2 σ1 h => ?_)
  refine ww_if_eq C 44 (dq dk_Mo_state 22 rfl) (by decide) h (fun h => ?_) (fun h => ?_)
  · refine ww_iload_n C 2 rfl rfl (dq dk_Mo_state 25 rfl) ?_
    refine ww_bipush C (dq dk_Mo_state 26 rfl) bp_8 ?_
    refine ww_icmp_ge C 62 (dq dk_Mo_state 27 rfl) (by decide) h (fun h => ?_) (fun h => ?_)
    · refine ww_iload_n C 2 rfl rfl (dq dk_Mo_state 37 rfl) ?_
      refine ww_bipush C (dq dk_Mo_state 38 rfl) bp_12 ?_
      refine ww_icmp_ge C 82 (dq dk_Mo_state 39 rfl) (by decide) h (fun h => ?_) (fun h => ?_)
      · refine ww_iload_n C 2 rfl rfl (dq dk_Mo_state 51 rfl) ?_
        by_cases e0_12 : v2 = 12
        · rw [if_pos e0_12] at h
          refine ww_tabIn C 116 (dq dk_Mo_state 52 rfl) (by rw [e0_12]; decide) (by rw [e0_12]; decide) (by rw [e0_12]; rfl) (by decide) ?_
          refine ww_aload_n C 0 rfl rfl (dq dk_Mo_state 53 rfl) ?_
          refine ww_getr C ko_Mo 36 ho_v0 (lt_ rfl) g_6_86 rfl rfl (dq dk_Mo_state 54 rfl) ?_
          refine ww_iload_n C 3 rfl rfl (dq dk_Mo_state 55 rfl) ?_
          refine ww_iald C (kc_Mo_36 _ ho_v0).1 (kc_Mo_36 _ ho_v0).2 (dq dk_Mo_state 56 rfl) h (fun x3 h => ?_)
          exact ww_iret C hR (dq dk_Mo_state 57 rfl) h
        rw [if_neg e0_12] at h
        by_cases e1_13 : v2 = 13
        · rw [if_pos e1_13] at h
          refine ww_tabIn C 123 (dq dk_Mo_state 52 rfl) (by rw [e1_13]; decide) (by rw [e1_13]; decide) (by rw [e1_13]; rfl) (by decide) ?_
          refine ww_aload_n C 0 rfl rfl (dq dk_Mo_state 58 rfl) ?_
          refine ww_getr C ko_Mo 37 ho_v0 (lt_ rfl) g_6_87 rfl rfl (dq dk_Mo_state 59 rfl) ?_
          refine ww_iload_n C 3 rfl rfl (dq dk_Mo_state 60 rfl) ?_
          refine ww_iald C (kc_Mo_37 _ ho_v0).1 (kc_Mo_37 _ ho_v0).2 (dq dk_Mo_state 61 rfl) h (fun x4 h => ?_)
          exact ww_iret C hR (dq dk_Mo_state 62 rfl) h
        rw [if_neg e1_13] at h
        by_cases e2_14 : v2 = 14
        · rw [if_pos e2_14] at h
          refine ww_tabIn C 130 (dq dk_Mo_state 52 rfl) (by rw [e2_14]; decide) (by rw [e2_14]; decide) (by rw [e2_14]; rfl) (by decide) ?_
          refine ww_aload_n C 0 rfl rfl (dq dk_Mo_state 63 rfl) ?_
          refine ww_getr C ko_Mo 38 ho_v0 (lt_ rfl) g_6_88 rfl rfl (dq dk_Mo_state 64 rfl) ?_
          refine ww_iload_n C 3 rfl rfl (dq dk_Mo_state 65 rfl) ?_
          refine ww_iald C (kc_Mo_38 _ ho_v0).1 (kc_Mo_38 _ ho_v0).2 (dq dk_Mo_state 66 rfl) h (fun x5 h => ?_)
          exact ww_iret C hR (dq dk_Mo_state 67 rfl) h
        rw [if_neg e2_14] at h
        by_cases e3_15 : v2 = 15
        · rw [if_pos e3_15] at h
          refine ww_tabIn C 137 (dq dk_Mo_state 52 rfl) (by rw [e3_15]; decide) (by rw [e3_15]; decide) (by rw [e3_15]; rfl) (by decide) ?_
          refine ww_aload_n C 0 rfl rfl (dq dk_Mo_state 68 rfl) ?_
          refine ww_getr C ko_Mo 35 ho_v0 (lt_ rfl) g_6_85 rfl rfl (dq dk_Mo_state 69 rfl) ?_
          refine ww_iload_n C 3 rfl rfl (dq dk_Mo_state 70 rfl) ?_
          refine ww_iald C (kc_Mo_35 _ ho_v0).1 (kc_Mo_35 _ ho_v0).2 (dq dk_Mo_state 71 rfl) h (fun x6 h => ?_)
          exact ww_iret C hR (dq dk_Mo_state 72 rfl) h
        rw [if_neg e3_15] at h
        by_cases e4_16 : v2 = 16
        · rw [if_pos e4_16] at h
          refine ww_tabIn C 144 (dq dk_Mo_state 52 rfl) (by rw [e4_16]; decide) (by rw [e4_16]; decide) (by rw [e4_16]; rfl) (by decide) ?_
          refine ww_iload_n C 1 rfl rfl (dq dk_Mo_state 73 rfl) ?_
          refine ww_if_eq C 152 (dq dk_Mo_state 74 rfl) (by decide) h (fun h => ?_) (fun h => ?_)
          · refine ww_aload_n C 0 rfl rfl (dq dk_Mo_state 77 rfl) ?_
            refine ww_geti C ko_Mo 39 ho_v0 (lt_ rfl) g_6_89 rfl rfl (dq dk_Mo_state 78 rfl) ?_
            exact ww_iret C hR (dq dk_Mo_state 79 rfl) h
          · refine ww_iconst C (dq dk_Mo_state 75 rfl) ic_0 ?_
            refine ww_goto C 156 (dq dk_Mo_state 76 rfl) (by decide) ?_
            exact ww_iret C hR (dq dk_Mo_state 79 rfl) h
        rw [if_neg e4_16] at h
        have ne0_12 := lv_neT (a := 12) e0_12 (by decide)
        have ne1_13 := lv_neT (a := 13) e1_13 (by decide)
        have ne2_14 := lv_neT (a := 14) e2_14 (by decide)
        have ne3_15 := lv_neT (a := 15) e3_15 (by decide)
        have ne4_16 := lv_neT (a := 16) e4_16 (by decide)
        refine ww_tabOut C 157 (dq dk_Mo_state 52 rfl) (by omega) (by decide) ?_
        refine ww_iload_n C 1 rfl rfl (dq dk_Mo_state 80 rfl) ?_
        refine ww_if_eq C 172 (dq dk_Mo_state 81 rfl) (by decide) h (fun h => ?_) (fun h => ?_)
        · refine ww_iconst C (dq dk_Mo_state 87 rfl) ic_0 ?_
          exact ww_iret C hR (dq dk_Mo_state 88 rfl) h
        · refine ww_aload_n C 0 rfl rfl (dq dk_Mo_state 82 rfl) ?_
          refine ww_geti C ko_Mo 40 ho_v0 (lt_ rfl) g_6_90 rfl rfl (dq dk_Mo_state 83 rfl) ?_
          refine ww_if_eq C 172 (dq dk_Mo_state 84 rfl) (by decide) h (fun h => ?_) (fun h => ?_)
          · refine ww_iconst C (dq dk_Mo_state 87 rfl) ic_0 ?_
            exact ww_iret C hR (dq dk_Mo_state 88 rfl) h
          · refine ww_iconst C (dq dk_Mo_state 85 rfl) ic_1 ?_
            refine ww_goto C 173 (dq dk_Mo_state 86 rfl) (by decide) ?_
            exact ww_iret C hR (dq dk_Mo_state 88 rfl) h
      · refine ww_aload_n C 0 rfl rfl (dq dk_Mo_state 40 rfl) ?_
        refine ww_getr C ko_Mo 32 ho_v0 (lt_ rfl) g_6_82 rfl rfl (dq dk_Mo_state 41 rfl) ?_
        refine ww_iconst C (dq dk_Mo_state 42 rfl) ic_4 ?_
        refine ww_iload_n C 3 rfl rfl (dq dk_Mo_state 43 rfl) ?_
        refine ww_imul C (dq dk_Mo_state 44 rfl) ?_
        refine ww_iload_n C 2 rfl rfl (dq dk_Mo_state 45 rfl) ?_
        refine ww_iadd C (dq dk_Mo_state 46 rfl) ?_
        refine ww_bipush C (dq dk_Mo_state 47 rfl) bp_8 ?_
        refine ww_isub C (dq dk_Mo_state 48 rfl) ?_
        refine ww_iald C (kc_Mo_32 _ ho_v0).1 (kc_Mo_32 _ ho_v0).2 (dq dk_Mo_state 49 rfl) h (fun x7 h => ?_)
        exact ww_iret C hR (dq dk_Mo_state 50 rfl) h
    · refine ww_aload_n C 0 rfl rfl (dq dk_Mo_state 28 rfl) ?_
      refine ww_getr C ko_Mo 31 ho_v0 (lt_ rfl) g_6_81 rfl rfl (dq dk_Mo_state 29 rfl) ?_
      refine ww_bipush C (dq dk_Mo_state 30 rfl) bp_8 ?_
      refine ww_iload_n C 3 rfl rfl (dq dk_Mo_state 31 rfl) ?_
      refine ww_imul C (dq dk_Mo_state 32 rfl) ?_
      refine ww_iload_n C 2 rfl rfl (dq dk_Mo_state 33 rfl) ?_
      refine ww_iadd C (dq dk_Mo_state 34 rfl) ?_
      refine ww_iald C (kc_Mo_31 _ ho_v0).1 (kc_Mo_31 _ ho_v0).2 (dq dk_Mo_state 35 rfl) h (fun x8 h => ?_)
      exact ww_iret C hR (dq dk_Mo_state 36 rfl) h
  · refine ww_iconst C (dq dk_Mo_state 23 rfl) ic_0 ?_
    exact ww_iret C hR (dq dk_Mo_state 24 rfl) h
set_option maxHeartbeats 4000000 in
set_option maxRecDepth 100000 in
theorem t_Mo_state_B9 {k : Cfg} {res : Int32 × St} (C : Cx k prog_14_method_94_code "BundleHouseModel") (hR : RI k .int res) (hRm : k.2.2.2.1 = rm_Mo_state) (hnL : k.2.2.2.2.2.2.2.2.2.2.2.1 = 4) (v0 : Nat) (v1 : Int32) (v2 : Int32) (t0 : Int32) (ho_v0 : kd v0 = 12) (σ : St) (h : Mo_state_B9 v0 v1 v2 t0 σ = some res) : WW k 9 [(0, .ref (ad k v0)), (1, .int v1), (2, .int v2)] [.int t0] σ := by
  unfold Mo_state_B9 at h
  refine ww_istore_n C [(3, .int t0), (0, .ref (ad k v0)), (1, .int v1), (2, .int v2)] rfl hnL (lt_ rfl) rfl (dq dk_Mo_state 5 rfl) ?_
  refine ww_aload_n C 1 rfl rfl (dq dk_Mo_state 6 rfl) ?_
  refine ww_aload_n C 1 rfl rfl (dq dk_Mo_state 7 rfl) ?_
  refine ww_getr C ko_Mo 30 ho_v0 (lt_ rfl) g_6_80 rfl rfl (dq dk_Mo_state 8 rfl) ?_
  refine ww_iload_n C 0 rfl rfl (dq dk_Mo_state 9 rfl) ?_
  refine ww_zald C (kc_Mo_30 _ ho_v0).1 (kc_Mo_30 _ ho_v0).2 (dq dk_Mo_state 10 rfl) h (fun x1 h => ?_)
  refine ww_if_eq C 30 (dq dk_Mo_state 11 rfl) (by decide) h (fun h => ?_) (fun h => ?_)
  · refine ww_iconst C (dq dk_Mo_state 17 rfl) ic_1 ?_
    refine ww_goto C 35 (dq dk_Mo_state 18 rfl) (by decide) ?_
    exact ww_lv [1, 2, 3, 0] rfl (t_Mo_state_B35 C hR hRm hnL v0 v1 v2 t0 v0 1 ho_v0 ho_v0 σ h)
  · refine ww_iload_n C 3 rfl rfl (dq dk_Mo_state 12 rfl) ?_
    refine ww_if_lt C 30 (dq dk_Mo_state 13 rfl) (by decide) h (fun h => ?_) (fun h => ?_)
    · refine ww_iconst C (dq dk_Mo_state 17 rfl) ic_1 ?_
      refine ww_goto C 35 (dq dk_Mo_state 18 rfl) (by decide) ?_
      exact ww_lv [1, 2, 3, 0] rfl (t_Mo_state_B35 C hR hRm hnL v0 v1 v2 t0 v0 1 ho_v0 ho_v0 σ h)
    · refine ww_iload_n C 3 rfl rfl (dq dk_Mo_state 14 rfl) ?_
      refine ww_bipush C (dq dk_Mo_state 15 rfl) bp_17 ?_
      refine ww_icmp_le C 34 (dq dk_Mo_state 16 rfl) (by decide) h (fun h => ?_) (fun h => ?_)
      · refine ww_iconst C (dq dk_Mo_state 19 rfl) ic_0 ?_
        exact ww_lv [1, 2, 3, 0] rfl (t_Mo_state_B35 C hR hRm hnL v0 v1 v2 t0 v0 0 ho_v0 ho_v0 σ h)
      · refine ww_iconst C (dq dk_Mo_state 17 rfl) ic_1 ?_
        refine ww_goto C 35 (dq dk_Mo_state 18 rfl) (by decide) ?_
        exact ww_lv [1, 2, 3, 0] rfl (t_Mo_state_B35 C hR hRm hnL v0 v1 v2 t0 v0 1 ho_v0 ho_v0 σ h)
set_option maxHeartbeats 4000000 in
set_option maxRecDepth 100000 in
theorem c_Mo_state (v0 : Nat) (ho_v0 : kd v0 = 12) (v1 : Int32) (v2 : Int32) : MI y_Mo_state rm_Mo_state prog_14_method_94_code 4 .int (fun a => [.ref (a v0), .int v1, .int v2]) (Mo_state v0 v1 v2) := by
  refine mi_of (by decide) (fun _ => le_ rfl) ?_
  intro k res σ C hR hRm hnL h
  unfold Mo_state at h
  show WW k 0 [(0, .ref (ad k v0)), (1, .int v1), (2, .int v2)] [] σ
  refine ww_iload_n C 1 rfl rfl (dq dk_Mo_state 0 rfl) ?_
  refine ww_if_eq C 8 (dq dk_Mo_state 1 rfl) (by decide) h (fun h => ?_) (fun h => ?_)
  · refine ww_iconst C (dq dk_Mo_state 4 rfl) ic_0 ?_
    exact ww_lv [0, 1, 2] rfl (t_Mo_state_B9 C hR hRm hnL v0 v1 v2 0 ho_v0 σ h)
  · refine ww_iconst C (dq dk_Mo_state 2 rfl) ic_1 ?_
    refine ww_goto C 9 (dq dk_Mo_state 3 rfl) (by decide) ?_
    exact ww_lv [0, 1, 2] rfl (t_Mo_state_B9 C hR hRm hnL v0 v1 v2 1 ho_v0 σ h)
abbrev y_Mo_data : MethodName := ⟨"BundleHouseModel", "data", "(ZI)I"⟩
def dl_Mo_data : List (Nat × Instr × Nat) := [(0, .aload_n 0, 1), (1, .iconst 0, 1), (2, .putfield 105, 3), (5, .iload_n 1, 1), (6, .ifCond .eq 7, 3), (9, .iconst 1, 1), (10, .goto 4, 3), (13, .iconst 0, 1), (14, .istore_n 3, 1), (15, .aload_n 0, 1), (16, .getfield 72, 3), (19, .iload_n 3, 1), (20, .baload, 1), (21, .ifCond .eq 29, 3), (24, .iload_n 2, 1), (25, .ifCond .lt 25, 3), (28, .iload_n 2, 1), (29, .sipush 1024, 3), (32, .if_icmp .ge 18, 3), (35, .aload_n 0, 1), (36, .getfield 81, 3), (39, .sipush 1024, 3), (42, .iload_n 3, 1), (43, .imul, 1), (44, .iload_n 2, 1), (45, .iadd, 1), (46, .iaload, 1), (47, .goto 4, 3), (50, .iconst (-1), 1), (51, .ireturn, 1)]
set_option maxRecDepth 100000 in
theorem dk_Mo_data : ∀ q ∈ dl_Mo_data, decode prog_14_method_95_code q.1 = .ok q.2 := by decide +kernel
abbrev rm_Mo_data : Room := { frames := 0, cells := 0, slots := 0, locals := 0 }
theorem cw_Mo_data : CWV y_Mo_data prog_14_method_95_code 4 (some .int) 2 := ⟨⟨g_8_127, g_1_13, by decide, by decide, by decide +kernel⟩, g_8_125, g_8_126⟩
set_option maxHeartbeats 4000000 in
set_option maxRecDepth 100000 in
theorem t_Mo_data_B14 {k : Cfg} {res : Int32 × St} (C : Cx k prog_14_method_95_code "BundleHouseModel") (hR : RI k .int res) (hRm : k.2.2.2.1 = rm_Mo_data) (hnL : k.2.2.2.2.2.2.2.2.2.2.2.1 = 4) (v0 : Nat) (v2 : Int32) (t0 : Int32) (ho_v0 : kd v0 = 12) (σ : St) (h : Mo_data_B14 v0 v2 t0 σ = some res) : WW k 14 [(0, .ref (ad k v0)), (2, .int v2)] [.int t0] σ := by
  unfold Mo_data_B14 at h
  refine ww_istore_n C [(3, .int t0), (0, .ref (ad k v0)), (2, .int v2)] rfl hnL (lt_ rfl) rfl (dq dk_Mo_data 8 rfl) ?_
  refine ww_aload_n C 1 rfl rfl (dq dk_Mo_data 9 rfl) ?_
  refine ww_getr C ko_Mo 30 ho_v0 (lt_ rfl) g_6_80 rfl rfl (dq dk_Mo_data 10 rfl) ?_
  refine ww_iload_n C 0 rfl rfl (dq dk_Mo_data 11 rfl) ?_
  refine ww_zald C (kc_Mo_30 _ ho_v0).1 (kc_Mo_30 _ ho_v0).2 (dq dk_Mo_data 12 rfl) h (fun x1 h => ?_)
  refine ww_if_eq C 50 (dq dk_Mo_data 13 rfl) (by decide) h (fun h => ?_) (fun h => ?_)
  · refine ww_iconst C (dq dk_Mo_data 28 rfl) ic_m1 ?_
    exact ww_iret C hR (dq dk_Mo_data 29 rfl) h
  · refine ww_iload_n C 2 rfl rfl (dq dk_Mo_data 14 rfl) ?_
    refine ww_if_lt C 50 (dq dk_Mo_data 15 rfl) (by decide) h (fun h => ?_) (fun h => ?_)
    · refine ww_iconst C (dq dk_Mo_data 28 rfl) ic_m1 ?_
      exact ww_iret C hR (dq dk_Mo_data 29 rfl) h
    · refine ww_iload_n C 2 rfl rfl (dq dk_Mo_data 16 rfl) ?_
      refine ww_sipush C (dq dk_Mo_data 17 rfl) sp_1024 ?_
      refine ww_icmp_ge C 50 (dq dk_Mo_data 18 rfl) (by decide) h (fun h => ?_) (fun h => ?_)
      · refine ww_iconst C (dq dk_Mo_data 28 rfl) ic_m1 ?_
        exact ww_iret C hR (dq dk_Mo_data 29 rfl) h
      · refine ww_aload_n C 1 rfl rfl (dq dk_Mo_data 19 rfl) ?_
        refine ww_getr C ko_Mo 33 ho_v0 (lt_ rfl) g_6_83 rfl rfl (dq dk_Mo_data 20 rfl) ?_
        refine ww_sipush C (dq dk_Mo_data 21 rfl) sp_1024 ?_
        refine ww_iload_n C 0 rfl rfl (dq dk_Mo_data 22 rfl) ?_
        refine ww_imul C (dq dk_Mo_data 23 rfl) ?_
        refine ww_iload_n C 2 rfl rfl (dq dk_Mo_data 24 rfl) ?_
        refine ww_iadd C (dq dk_Mo_data 25 rfl) ?_
        refine ww_iald C (kc_Mo_33 _ ho_v0).1 (kc_Mo_33 _ ho_v0).2 (dq dk_Mo_data 26 rfl) h (fun x2 h => ?_)
        refine ww_goto C 51 (dq dk_Mo_data 27 rfl) (by decide) ?_
        exact ww_iret C hR (dq dk_Mo_data 29 rfl) h
set_option maxHeartbeats 4000000 in
set_option maxRecDepth 100000 in
theorem c_Mo_data (v0 : Nat) (ho_v0 : kd v0 = 12) (v1 : Int32) (v2 : Int32) : MI y_Mo_data rm_Mo_data prog_14_method_95_code 4 .int (fun a => [.ref (a v0), .int v1, .int v2]) (Mo_data v0 v1 v2) := by
  refine mi_of (by decide) (fun _ => le_ rfl) ?_
  intro k res σ C hR hRm hnL h
  unfold Mo_data at h
  show WW k 0 [(0, .ref (ad k v0)), (1, .int v1), (2, .int v2)] [] σ
  refine ww_aload_n C 0 rfl rfl (dq dk_Mo_data 0 rfl) ?_
  refine ww_iconst C (dq dk_Mo_data 1 rfl) ic_0 ?_
  refine ww_puti C ko_Mo 0 ho_v0 (lt_ rfl) g_6_50 rfl rfl rfl rfl (dq dk_Mo_data 2 rfl) h (fun σ1 h => ?_)
  refine ww_iload_n C 1 rfl rfl (dq dk_Mo_data 3 rfl) ?_
  refine ww_if_eq C 13 (dq dk_Mo_data 4 rfl) (by decide) h (fun h => ?_) (fun h => ?_)
  · refine ww_iconst C (dq dk_Mo_data 7 rfl) ic_0 ?_
    exact ww_lv [0, 2] rfl (t_Mo_data_B14 C hR hRm hnL v0 v2 0 ho_v0 σ1 h)
  · refine ww_iconst C (dq dk_Mo_data 5 rfl) ic_1 ?_
    refine ww_goto C 14 (dq dk_Mo_data 6 rfl) (by decide) ?_
    exact ww_lv [0, 2] rfl (t_Mo_data_B14 C hR hRm hnL v0 v2 1 ho_v0 σ1 h)
abbrev y_Mo_output : MethodName := ⟨"BundleHouseModel", "output", "(ZI)I"⟩
def dl_Mo_output : List (Nat × Instr × Nat) := [(0, .iload_n 1, 1), (1, .ifCond .eq 7, 3), (4, .iconst 1, 1), (5, .goto 4, 3), (8, .iconst 0, 1), (9, .istore_n 3, 1), (10, .aload_n 0, 1), (11, .aload_n 0, 1), (12, .getfield 72, 3), (15, .iload_n 3, 1), (16, .baload, 1), (17, .ifCond .eq 17, 3), (20, .iload_n 2, 1), (21, .ifCond .lt 13, 3), (24, .iload_n 2, 1), (25, .aload_n 0, 1), (26, .getfield 87, 3), (29, .iload_n 3, 1), (30, .iaload, 1), (31, .if_icmp .lt 7, 3), (34, .iconst 1, 1), (35, .goto 4, 3), (38, .iconst 0, 1), (39, .iconst 0, 1), (40, .invokevirtual 306, 3), (43, .ifCond .eq 5, 3), (46, .iconst 0, 1), (47, .ireturn, 1), (48, .aload_n 0, 1), (49, .getfield 84, 3), (52, .bipush 100, 2), (54, .iload_n 3, 1), (55, .imul, 1), (56, .iload_n 2, 1), (57, .iadd, 1), (58, .iaload, 1), (59, .ireturn, 1)]
set_option maxRecDepth 100000 in
theorem dk_Mo_output : ∀ q ∈ dl_Mo_output, decode prog_14_method_96_code q.1 = .ok q.2 := by decide +kernel
abbrev rm_Mo_output : Room := { frames := 1, cells := 0, slots := 0, locals := 22 }
theorem cw_Mo_output : CWV y_Mo_output prog_14_method_96_code 4 (some .int) 2 := ⟨⟨g_8_131, g_1_13, by decide, by decide, by decide +kernel⟩, g_8_129, g_8_130⟩
set_option maxHeartbeats 4000000 in
set_option maxRecDepth 100000 in
theorem t_Mo_output_B39 {k : Cfg} {res : Int32 × St} (C : Cx k prog_14_method_96_code "BundleHouseModel") (hR : RI k .int res) (hRm : k.2.2.2.1 = rm_Mo_output) (hnL : k.2.2.2.2.2.2.2.2.2.2.2.1 = 4) (v0 : Nat) (v2 : Int32) (v3 : Int32) (t0 : Nat) (t1 : Int32) (ho_v0 : kd v0 = 12) (ho_t0 : kd t0 = 12) (σ : St) (h : Mo_output_B39 v0 v2 v3 t0 t1 σ = some res) : WW k 39 [(0, .ref (ad k v0)), (2, .int v2), (3, .int v3)] [.int t1, .ref (ad k t0)] σ := by
  unfold Mo_output_B39 at h
  refine ww_iconst C (dq dk_Mo_output 23 rfl) ic_0 ?_
  refine ww_cVi (st := []) C (c_Mo_throwing t0 ho_t0 t1 0) cw_Mo_throwing ho_t0 (lt_ rfl) rfl g_7_208 hRm ⟨⟨rfl, rfl⟩, le_ rfl, le_ rfl⟩ rfl rfl rfl (le_ rfl) (dq dk_Mo_output 24 rfl) h (fun x2 σ1 h => ?_)
  refine ww_if_eq C 48 (dq dk_Mo_output 25 rfl) (by decide) h (fun h => ?_) (fun h => ?_)
  · refine ww_aload_n C 0 rfl rfl (dq dk_Mo_output 28 rfl) ?_
    refine ww_getr C ko_Mo 34 ho_v0 (lt_ rfl) g_6_84 rfl rfl (dq dk_Mo_output 29 rfl) ?_
    refine ww_bipush C (dq dk_Mo_output 30 rfl) bp_100 ?_
    refine ww_iload_n C 2 rfl rfl (dq dk_Mo_output 31 rfl) ?_
    refine ww_imul C (dq dk_Mo_output 32 rfl) ?_
    refine ww_iload_n C 1 rfl rfl (dq dk_Mo_output 33 rfl) ?_
    refine ww_iadd C (dq dk_Mo_output 34 rfl) ?_
    refine ww_iald C (kc_Mo_34 _ ho_v0).1 (kc_Mo_34 _ ho_v0).2 (dq dk_Mo_output 35 rfl) h (fun x3 h => ?_)
    exact ww_iret C hR (dq dk_Mo_output 36 rfl) h
  · refine ww_iconst C (dq dk_Mo_output 26 rfl) ic_0 ?_
    exact ww_iret C hR (dq dk_Mo_output 27 rfl) h
set_option maxHeartbeats 4000000 in
set_option maxRecDepth 100000 in
theorem t_Mo_output_B9 {k : Cfg} {res : Int32 × St} (C : Cx k prog_14_method_96_code "BundleHouseModel") (hR : RI k .int res) (hRm : k.2.2.2.1 = rm_Mo_output) (hnL : k.2.2.2.2.2.2.2.2.2.2.2.1 = 4) (v0 : Nat) (v2 : Int32) (t0 : Int32) (ho_v0 : kd v0 = 12) (σ : St) (h : Mo_output_B9 v0 v2 t0 σ = some res) : WW k 9 [(0, .ref (ad k v0)), (2, .int v2)] [.int t0] σ := by
  unfold Mo_output_B9 at h
  refine ww_istore_n C [(3, .int t0), (0, .ref (ad k v0)), (2, .int v2)] rfl hnL (lt_ rfl) rfl (dq dk_Mo_output 5 rfl) ?_
  refine ww_aload_n C 1 rfl rfl (dq dk_Mo_output 6 rfl) ?_
  refine ww_aload_n C 1 rfl rfl (dq dk_Mo_output 7 rfl) ?_
  refine ww_getr C ko_Mo 30 ho_v0 (lt_ rfl) g_6_80 rfl rfl (dq dk_Mo_output 8 rfl) ?_
  refine ww_iload_n C 0 rfl rfl (dq dk_Mo_output 9 rfl) ?_
  refine ww_zald C (kc_Mo_30 _ ho_v0).1 (kc_Mo_30 _ ho_v0).2 (dq dk_Mo_output 10 rfl) h (fun x1 h => ?_)
  refine ww_if_eq C 34 (dq dk_Mo_output 11 rfl) (by decide) h (fun h => ?_) (fun h => ?_)
  · refine ww_iconst C (dq dk_Mo_output 20 rfl) ic_1 ?_
    refine ww_goto C 39 (dq dk_Mo_output 21 rfl) (by decide) ?_
    exact ww_lv [1, 2, 0] rfl (t_Mo_output_B39 C hR hRm hnL v0 v2 t0 v0 1 ho_v0 ho_v0 σ h)
  · refine ww_iload_n C 2 rfl rfl (dq dk_Mo_output 12 rfl) ?_
    refine ww_if_lt C 34 (dq dk_Mo_output 13 rfl) (by decide) h (fun h => ?_) (fun h => ?_)
    · refine ww_iconst C (dq dk_Mo_output 20 rfl) ic_1 ?_
      refine ww_goto C 39 (dq dk_Mo_output 21 rfl) (by decide) ?_
      exact ww_lv [1, 2, 0] rfl (t_Mo_output_B39 C hR hRm hnL v0 v2 t0 v0 1 ho_v0 ho_v0 σ h)
    · refine ww_iload_n C 2 rfl rfl (dq dk_Mo_output 14 rfl) ?_
      refine ww_aload_n C 1 rfl rfl (dq dk_Mo_output 15 rfl) ?_
      refine ww_getr C ko_Mo 35 ho_v0 (lt_ rfl) g_6_85 rfl rfl (dq dk_Mo_output 16 rfl) ?_
      refine ww_iload_n C 0 rfl rfl (dq dk_Mo_output 17 rfl) ?_
      refine ww_iald C (kc_Mo_35 _ ho_v0).1 (kc_Mo_35 _ ho_v0).2 (dq dk_Mo_output 18 rfl) h (fun x2 h => ?_)
      refine ww_icmp_lt C 38 (dq dk_Mo_output 19 rfl) (by decide) h (fun h => ?_) (fun h => ?_)
      · refine ww_iconst C (dq dk_Mo_output 22 rfl) ic_0 ?_
        exact ww_lv [1, 2, 0] rfl (t_Mo_output_B39 C hR hRm hnL v0 v2 t0 v0 0 ho_v0 ho_v0 σ h)
      · refine ww_iconst C (dq dk_Mo_output 20 rfl) ic_1 ?_
        refine ww_goto C 39 (dq dk_Mo_output 21 rfl) (by decide) ?_
        exact ww_lv [1, 2, 0] rfl (t_Mo_output_B39 C hR hRm hnL v0 v2 t0 v0 1 ho_v0 ho_v0 σ h)
set_option maxHeartbeats 4000000 in
set_option maxRecDepth 100000 in
theorem c_Mo_output (v0 : Nat) (ho_v0 : kd v0 = 12) (v1 : Int32) (v2 : Int32) : MI y_Mo_output rm_Mo_output prog_14_method_96_code 4 .int (fun a => [.ref (a v0), .int v1, .int v2]) (Mo_output v0 v1 v2) := by
  refine mi_of (by decide) (fun _ => le_ rfl) ?_
  intro k res σ C hR hRm hnL h
  unfold Mo_output at h
  show WW k 0 [(0, .ref (ad k v0)), (1, .int v1), (2, .int v2)] [] σ
  refine ww_iload_n C 1 rfl rfl (dq dk_Mo_output 0 rfl) ?_
  refine ww_if_eq C 8 (dq dk_Mo_output 1 rfl) (by decide) h (fun h => ?_) (fun h => ?_)
  · refine ww_iconst C (dq dk_Mo_output 4 rfl) ic_0 ?_
    exact ww_lv [0, 2] rfl (t_Mo_output_B9 C hR hRm hnL v0 v2 0 ho_v0 σ h)
  · refine ww_iconst C (dq dk_Mo_output 2 rfl) ic_1 ?_
    refine ww_goto C 9 (dq dk_Mo_output 3 rfl) (by decide) ?_
    exact ww_lv [0, 2] rfl (t_Mo_output_B9 C hR hRm hnL v0 v2 1 ho_v0 σ h)
