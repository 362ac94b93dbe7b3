abbrev y_Mo_putMemory : MethodName := ⟨"BundleHouseModel", "putMemory", "(III)V"⟩
def dl_Mo_putMemory : List (Nat × Instr × Nat) := [(0, .iload_n 2, 1), (1, .bipush 15, 2), (3, .iand, 1), (4, .istore 4, 2), (6, .iload_n 2, 1), (7, .iconst 4, 1), (8, .ishr, 1), (9, .bipush 15, 2), (11, .iand, 1), (12, .istore 5, 2), (14, .iload 4, 2), (16, .bipush 8, 2), (18, .if_icmp .ne 26, 3), (21, .iload 5, 2), (23, .bipush 8, 2), (25, .if_icmp .ne 19, 3), (28, .aload_n 0, 1), (29, .bipush 8, 2), (31, .iload_n 1, 1), (32, .imul, 1), (33, .iconst 5, 1), (34, .iadd, 1), (35, .invokevirtual 232, 3), (38, .aload_n 0, 1), (39, .iload_n 3, 1), (40, .invokevirtual 235, 3), (43, .return_, 1), (44, .iload 4, 2), (46, .bipush 8, 2), (48, .if_icmp .eq 13, 3), (51, .iload_n 3, 1), (52, .ifCond .ne 13, 3), (55, .iload 4, 2), (57, .iconst 5, 1), (58, .if_icmp .eq 7, 3), (61, .iconst 0, 1), (62, .goto 15, 3), (65, .iload_n 3, 1), (66, .invokestatic 238, 3), (69, .ifCond .eq 7, 3), (72, .iconst 1, 1), (73, .goto 4, 3), (76, .iconst 2, 1), (77, .istore 6, 2), (79, .iload 4, 2), (81, .iconst 4, 1), (82, .if_icmp .eq 17, 3), (85, .iload 5, 2), (87, .bipush 8, 2), (89, .if_icmp .lt 10, 3), (92, .iload 4, 2), (94, .bipush 8, 2), (96, .if_icmp .ne 7, 3), (99, .iconst 1, 1), (100, .goto 4, 3), (103, .iconst 0, 1), (104, .istore 7, 2), (106, .aload_n 0, 1), (107, .bipush 64, 2), (109, .iload 6, 2), (111, .imul, 1), (112, .bipush 8, 2), (114, .iload_n 1, 1), (115, .imul, 1), (116, .iadd, 1), (117, .iload 7, 2), (119, .ifCond .eq 7, 3), (122, .iconst 4, 1), (123, .goto 5, 3), (126, .iload 4, 2), (128, .iadd, 1), (129, .invokevirtual 232, 3), (132, .iload 7, 2), (134, .ifCond .eq 45, 3), (137, .aload_n 0, 1), (138, .iload 5, 2), (140, .bipush 8, 2), (142, .if_icmp .ne 7, 3), (145, .iconst 4, 1), (146, .goto 5, 3), (149, .iload 5, 2), (151, .bipush 8, 2), (153, .imul, 1), (154, .iload 4, 2), (156, .bipush 8, 2), (158, .if_icmp .ne 7, 3), (161, .iconst 5, 1), (162, .goto 5, 3), (165, .iload 4, 2), (167, .iadd, 1), (168, .iload_n 2, 1), (169, .bipush 8, 2), (171, .ishr, 1), (172, .bipush 6, 2), (174, .ishl, 1), (175, .iadd, 1), (176, .invokevirtual 232, 3), (179, .iload 6, 2), (181, .iconst 1, 1), (182, .if_icmp .ne 8, 3), (185, .aload_n 0, 1), (186, .iload_n 3, 1), (187, .invokevirtual 232, 3), (190, .iload 6, 2), (192, .iconst 2, 1), (193, .if_icmp .eq 10, 3), (196, .iload 4, 2), (198, .bipush 8, 2), (200, .if_icmp .ne 8, 3), (203, .aload_n 0, 1), (204, .iload_n 3, 1), (205, .invokevirtual 235, 3), (208, .return_, 1)]
set_option maxRecDepth 100000 in
theorem dk_Mo_putMemory : ∀ q ∈ dl_Mo_putMemory, decode prog_14_method_37_code q.1 = .ok q.2 := by decide +kernel
abbrev rm_Mo_putMemory : Room := { frames := 2, cells := 0, slots := 0, locals := 43 }
theorem cw_Mo_putMemory : CWV y_Mo_putMemory prog_14_method_37_code 8 none 3 := ⟨⟨g_7_152, g_1_13, by decide, by decide, by decide +kernel⟩, g_7_151, gs_6_4⟩
set_option maxHeartbeats 4000000 in
set_option maxRecDepth 100000 in
theorem t_Mo_putMemory_B179 {k : Cfg} {res : St} (C : Cx k prog_14_method_37_code "BundleHouseModel") (hR : RV k res) (hRm : k.2.2.2.1 = rm_Mo_putMemory) (hnL : k.2.2.2.2.2.2.2.2.2.2.2.1 = 8) (v0 : Nat) (v3 : Int32) (v4 : Int32) (v6 : Int32) (ho_v0 : kd v0 = 12) (σ : St) (h : Mo_putMemory_B179 v0 v3 v4 v6 σ = some res) : WW k 179 [(0, .ref (ad k v0)), (3, .int v3), (4, .int v4), (6, .int v6)] [] σ := by
  unfold Mo_putMemory_B179 at h
  refine ww_iload C 3 rfl (dq dk_Mo_putMemory 97 rfl) ?_
  refine ww_iconst C (dq dk_Mo_putMemory 98 rfl) ic_1 ?_
  refine ww_icmp_ne C 190 (dq dk_Mo_putMemory 99 rfl) (by decide) h (fun h => ?_) (fun h => ?_)
  · refine ww_iload C 3 rfl (dq dk_Mo_putMemory 103 rfl) ?_
    refine ww_iconst C (dq dk_Mo_putMemory 104 rfl) ic_2 ?_
    refine ww_icmp_eq C 203 (dq dk_Mo_putMemory 105 rfl) (by decide) h (fun h => ?_) (fun h => ?_)
    · refine ww_aload_n C 0 rfl rfl (dq dk_Mo_putMemory 109 rfl) ?_
      refine ww_iload_n C 1 rfl rfl (dq dk_Mo_putMemory 110 rfl) ?_
      refine ww_cVv (st := []) C (c_Mo_putFour v0 ho_v0 v3) cw_Mo_putFour ho_v0 (lt_ rfl) rfl g_7_153 hRm ⟨⟨rfl, rfl⟩, le_ rfl, le_ rfl⟩ rfl rfl rfl (le_ rfl) (dq dk_Mo_putMemory 111 rfl) h (fun σ1 h => ?_)
      exact ww_vret C hR (dq dk_Mo_putMemory 112 rfl) h
    · refine ww_iload C 2 rfl (dq dk_Mo_putMemory 106 rfl) ?_
      refine ww_bipush C (dq dk_Mo_putMemory 107 rfl) bp_8 ?_
      refine ww_icmp_ne C 208 (dq dk_Mo_putMemory 108 rfl) (by decide) h (fun h => ?_) (fun h => ?_)
      · exact ww_vret C hR (dq dk_Mo_putMemory 112 rfl) h
      · refine ww_aload_n C 0 rfl rfl (dq dk_Mo_putMemory 109 rfl) ?_
        refine ww_iload_n C 1 rfl rfl (dq dk_Mo_putMemory 110 rfl) ?_
        refine ww_cVv (st := []) C (c_Mo_putFour v0 ho_v0 v3) cw_Mo_putFour ho_v0 (lt_ rfl) rfl g_7_153 hRm ⟨⟨rfl, rfl⟩, le_ rfl, le_ rfl⟩ rfl rfl rfl (le_ rfl) (dq dk_Mo_putMemory 111 rfl) h (fun σ2 h => ?_)
        exact ww_vret C hR (dq dk_Mo_putMemory 112 rfl) h
  · refine ww_aload_n C 0 rfl rfl (dq dk_Mo_putMemory 100 rfl) ?_
    refine ww_iload_n C 1 rfl rfl (dq dk_Mo_putMemory 101 rfl) ?_
    refine ww_cVv (st := []) C (c_Mo_put v0 ho_v0 v3) cw_Mo_put ho_v0 (lt_ rfl) rfl g_7_138 hRm ⟨⟨rfl, rfl⟩, le_ rfl, le_ rfl⟩ rfl rfl rfl (le_ rfl) (dq dk_Mo_putMemory 102 rfl) h (fun σ3 h => ?_)
    refine ww_iload C 3 rfl (dq dk_Mo_putMemory 103 rfl) ?_
    refine ww_iconst C (dq dk_Mo_putMemory 104 rfl) ic_2 ?_
    refine ww_icmp_eq C 203 (dq dk_Mo_putMemory 105 rfl) (by decide) h (fun h => ?_) (fun h => ?_)
    · refine ww_aload_n C 0 rfl rfl (dq dk_Mo_putMemory 109 rfl) ?_
      refine ww_iload_n C 1 rfl rfl (dq dk_Mo_putMemory 110 rfl) ?_
      refine ww_cVv (st := []) C (c_Mo_putFour v0 ho_v0 v3) cw_Mo_putFour ho_v0 (lt_ rfl) rfl g_7_153 hRm ⟨⟨rfl, rfl⟩, le_ rfl, le_ rfl⟩ rfl rfl rfl (le_ rfl) (dq dk_Mo_putMemory 111 rfl) h (fun σ4 h => ?_)
      exact ww_vret C hR (dq dk_Mo_putMemory 112 rfl) h
    · refine ww_iload C 2 rfl (dq dk_Mo_putMemory 106 rfl) ?_
      refine ww_bipush C (dq dk_Mo_putMemory 107 rfl) bp_8 ?_
      refine ww_icmp_ne C 208 (dq dk_Mo_putMemory 108 rfl) (by decide) h (fun h => ?_) (fun h => ?_)
      · exact ww_vret C hR (dq dk_Mo_putMemory 112 rfl) h
      · refine ww_aload_n C 0 rfl rfl (dq dk_Mo_putMemory 109 rfl) ?_
        refine ww_iload_n C 1 rfl rfl (dq dk_Mo_putMemory 110 rfl) ?_
        refine ww_cVv (st := []) C (c_Mo_putFour v0 ho_v0 v3) cw_Mo_putFour ho_v0 (lt_ rfl) rfl g_7_153 hRm ⟨⟨rfl, rfl⟩, le_ rfl, le_ rfl⟩ rfl rfl rfl (le_ rfl) (dq dk_Mo_putMemory 111 rfl) h (fun σ5 h => ?_)
        exact ww_vret C hR (dq dk_Mo_putMemory 112 rfl) h
set_option maxHeartbeats 4000000 in
set_option maxRecDepth 100000 in
theorem t_Mo_putMemory_B167 {k : Cfg} {res : St} (C : Cx k prog_14_method_37_code "BundleHouseModel") (hR : RV k res) (hRm : k.2.2.2.1 = rm_Mo_putMemory) (hnL : k.2.2.2.2.2.2.2.2.2.2.2.1 = 8) (v0 : Nat) (v2 : Int32) (v3 : Int32) (v4 : Int32) (v6 : Int32) (t0 : Nat) (t1 : Int32) (t2 : Int32) (ho_v0 : kd v0 = 12) (ho_t0 : kd t0 = 12) (σ : St) (h : Mo_putMemory_B167 v0 v2 v3 v4 v6 t0 t1 t2 σ = some res) : WW k 167 [(0, .ref (ad k v0)), (2, .int v2), (3, .int v3), (4, .int v4), (6, .int v6)] [.int t2, .int t1, .ref (ad k t0)] σ := by
  unfold Mo_putMemory_B167 at h
  refine ww_iadd C (dq dk_Mo_putMemory 89 rfl) ?_
  refine ww_iload_n C 1 rfl rfl (dq dk_Mo_putMemory 90 rfl) ?_
  refine ww_bipush C (dq dk_Mo_putMemory 91 rfl) bp_8 ?_
  refine ww_ishr C (dq dk_Mo_putMemory 92 rfl) ?_
  refine ww_bipush C (dq dk_Mo_putMemory 93 rfl) bp_6 ?_
  refine ww_ishl C (dq dk_Mo_putMemory 94 rfl) ?_
  refine ww_iadd C (dq dk_Mo_putMemory 95 rfl) ?_
  refine ww_cVv (st := []) C (c_Mo_put t0 ho_t0 ((t1 + t2) + (shl (shr v2 8) 6))) cw_Mo_put ho_t0 (lt_ rfl) rfl g_7_138 hRm ⟨⟨rfl, rfl⟩, le_ rfl, le_ rfl⟩ rfl rfl rfl (le_ rfl) (dq dk_Mo_putMemory 96 rfl) h (fun σ1 h => ?_)
  exact ww_lv [0, 2, 3, 4] rfl (t_Mo_putMemory_B179 C hR hRm hnL v0 v3 v4 v6 ho_v0 σ1 h)
set_option maxHeartbeats 4000000 in
set_option maxRecDepth 100000 in
theorem t_Mo_putMemory_B128 {k : Cfg} {res : St} (C : Cx k prog_14_method_37_code "BundleHouseModel") (hR : RV k res) (hRm : k.2.2.2.1 = rm_Mo_putMemory) (hnL : k.2.2.2.2.2.2.2.2.2.2.2.1 = 8) (v0 : Nat) (v2 : Int32) (v3 : Int32) (v4 : Int32) (v5 : Int32) (v6 : Int32) (v7 : Int32) (t0 : Nat) (t1 : Int32) (t2 : Int32) (ho_v0 : kd v0 = 12) (ho_t0 : kd t0 = 12) (σ : St) (h : Mo_putMemory_B128 v0 v2 v3 v4 v5 v6 v7 t0 t1 t2 σ = some res) : WW k 128 [(0, .ref (ad k v0)), (2, .int v2), (3, .int v3), (4, .int v4), (5, .int v5), (6, .int v6), (7, .int v7)] [.int t2, .int t1, .ref (ad k t0)] σ := by
  unfold Mo_putMemory_B128 at h
  refine ww_iadd C (dq dk_Mo_putMemory 70 rfl) ?_
  refine ww_cVv (st := []) C (c_Mo_put t0 ho_t0 (t1 + t2)) cw_Mo_put ho_t0 (lt_ rfl) rfl g_7_138 hRm ⟨⟨rfl, rfl⟩, le_ rfl, le_ rfl⟩ rfl rfl rfl (le_ rfl) (dq dk_Mo_putMemory 71 rfl) h (fun σ1 h => ?_)
  refine ww_iload C 6 rfl (dq dk_Mo_putMemory 72 rfl) ?_
  refine ww_if_eq C 179 (dq dk_Mo_putMemory 73 rfl) (by decide) h (fun h => ?_) (fun h => ?_)
  · exact ww_lv [0, 2, 3, 5] rfl (t_Mo_putMemory_B179 C hR hRm hnL v0 v3 v4 v6 ho_v0 σ1 h)
  · refine ww_aload_n C 0 rfl rfl (dq dk_Mo_putMemory 74 rfl) ?_
    refine ww_iload C 4 rfl (dq dk_Mo_putMemory 75 rfl) ?_
    refine ww_bipush C (dq dk_Mo_putMemory 76 rfl) bp_8 ?_
    refine ww_icmp_ne C 149 (dq dk_Mo_putMemory 77 rfl) (by decide) h (fun h => ?_) (fun h => ?_)
    · refine ww_iload C 4 rfl (dq dk_Mo_putMemory 80 rfl) ?_
      refine ww_bipush C (dq dk_Mo_putMemory 81 rfl) bp_8 ?_
      refine ww_imul C (dq dk_Mo_putMemory 82 rfl) ?_
      refine ww_iload C 3 rfl (dq dk_Mo_putMemory 83 rfl) ?_
      refine ww_bipush C (dq dk_Mo_putMemory 84 rfl) bp_8 ?_
      refine ww_icmp_ne C 165 (dq dk_Mo_putMemory 85 rfl) (by decide) h (fun h => ?_) (fun h => ?_)
      · refine ww_iload C 3 rfl (dq dk_Mo_putMemory 88 rfl) ?_
        exact ww_lv [0, 1, 2, 3, 5] rfl (t_Mo_putMemory_B167 C hR hRm hnL v0 v2 v3 v4 v6 v0 (v5 * 8) v4 ho_v0 ho_v0 σ1 h)
      · refine ww_iconst C (dq dk_Mo_putMemory 86 rfl) ic_5 ?_
        refine ww_goto C 167 (dq dk_Mo_putMemory 87 rfl) (by decide) ?_
        exact ww_lv [0, 1, 2, 3, 5] rfl (t_Mo_putMemory_B167 C hR hRm hnL v0 v2 v3 v4 v6 v0 (v5 * 8) 5 ho_v0 ho_v0 σ1 h)
    · refine ww_iconst C (dq dk_Mo_putMemory 78 rfl) ic_4 ?_
      refine ww_goto C 151 (dq dk_Mo_putMemory 79 rfl) (by decide) ?_
      refine ww_bipush C (dq dk_Mo_putMemory 81 rfl) bp_8 ?_
      refine ww_imul C (dq dk_Mo_putMemory 82 rfl) ?_
      refine ww_iload C 3 rfl (dq dk_Mo_putMemory 83 rfl) ?_
      refine ww_bipush C (dq dk_Mo_putMemory 84 rfl) bp_8 ?_
      refine ww_icmp_ne C 165 (dq dk_Mo_putMemory 85 rfl) (by decide) h (fun h => ?_) (fun h => ?_)
      · refine ww_iload C 3 rfl (dq dk_Mo_putMemory 88 rfl) ?_
        exact ww_lv [0, 1, 2, 3, 5] rfl (t_Mo_putMemory_B167 C hR hRm hnL v0 v2 v3 v4 v6 v0 (4 * 8) v4 ho_v0 ho_v0 σ1 h)
      · refine ww_iconst C (dq dk_Mo_putMemory 86 rfl) ic_5 ?_
        refine ww_goto C 167 (dq dk_Mo_putMemory 87 rfl) (by decide) ?_
        exact ww_lv [0, 1, 2, 3, 5] rfl (t_Mo_putMemory_B167 C hR hRm hnL v0 v2 v3 v4 v6 v0 (4 * 8) 5 ho_v0 ho_v0 σ1 h)
set_option maxHeartbeats 4000000 in
set_option maxRecDepth 100000 in
theorem t_Mo_putMemory_B104 {k : Cfg} {res : St} (C : Cx k prog_14_method_37_code "BundleHouseModel") (hR : RV k res) (hRm : k.2.2.2.1 = rm_Mo_putMemory) (hnL : k.2.2.2.2.2.2.2.2.2.2.2.1 = 8) (v0 : Nat) (v1 : Int32) (v2 : Int32) (v3 : Int32) (v4 : Int32) (v5 : Int32) (v6 : Int32) (t0 : Int32) (ho_v0 : kd v0 = 12) (σ : St) (h : Mo_putMemory_B104 v0 v1 v2 v3 v4 v5 v6 t0 σ = some res) : WW k 104 [(0, .ref (ad k v0)), (1, .int v1), (2, .int v2), (3, .int v3), (4, .int v4), (5, .int v5), (6, .int v6)] [.int t0] σ := by
  unfold Mo_putMemory_B104 at h
  refine ww_istore C [(7, .int t0), (0, .ref (ad k v0)), (1, .int v1), (2, .int v2), (3, .int v3), (4, .int v4), (5, .int v5), (6, .int v6)] hnL (lt_ rfl) rfl (dq dk_Mo_putMemory 56 rfl) ?_
  refine ww_aload_n C 1 rfl rfl (dq dk_Mo_putMemory 57 rfl) ?_
  refine ww_bipush C (dq dk_Mo_putMemory 58 rfl) bp_64 ?_
  refine ww_iload C 7 rfl (dq dk_Mo_putMemory 59 rfl) ?_
  refine ww_imul C (dq dk_Mo_putMemory 60 rfl) ?_
  refine ww_bipush C (dq dk_Mo_putMemory 61 rfl) bp_8 ?_
  refine ww_iload_n C 2 rfl rfl (dq dk_Mo_putMemory 62 rfl) ?_
  refine ww_imul C (dq dk_Mo_putMemory 63 rfl) ?_
  refine ww_iadd C (dq dk_Mo_putMemory 64 rfl) ?_
  refine ww_iload C 0 rfl (dq dk_Mo_putMemory 65 rfl) ?_
  refine ww_if_eq C 126 (dq dk_Mo_putMemory 66 rfl) (by decide) h (fun h => ?_) (fun h => ?_)
  · refine ww_iload C 5 rfl (dq dk_Mo_putMemory 69 rfl) ?_
    exact ww_lv [1, 3, 4, 5, 6, 7, 0] rfl (t_Mo_putMemory_B128 C hR hRm hnL v0 v2 v3 v4 v5 v6 t0 v0 ((64 * v6) + (8 * v1)) v4 ho_v0 ho_v0 σ h)
  · refine ww_iconst C (dq dk_Mo_putMemory 67 rfl) ic_4 ?_
    refine ww_goto C 128 (dq dk_Mo_putMemory 68 rfl) (by decide) ?_
    exact ww_lv [1, 3, 4, 5, 6, 7, 0] rfl (t_Mo_putMemory_B128 C hR hRm hnL v0 v2 v3 v4 v5 v6 t0 v0 ((64 * v6) + (8 * v1)) 4 ho_v0 ho_v0 σ h)
set_option maxHeartbeats 4000000 in
set_option maxRecDepth 100000 in
theorem t_Mo_putMemory_B77 {k : Cfg} {res : St} (C : Cx k prog_14_method_37_code "BundleHouseModel") (hR : RV k res) (hRm : k.2.2.2.1 = rm_Mo_putMemory) (hnL : k.2.2.2.2.2.2.2.2.2.2.2.1 = 8) (v0 : Nat) (v1 : Int32) (v2 : Int32) (v3 : Int32) (v4 : Int32) (v5 : Int32) (t0 : Int32) (ho_v0 : kd v0 = 12) (σ : St) (h : Mo_putMemory_B77 v0 v1 v2 v3 v4 v5 t0 σ = some res) : WW k 77 [(0, .ref (ad k v0)), (1, .int v1), (2, .int v2), (3, .int v3), (4, .int v4), (5, .int v5)] [.int t0] σ := by
  unfold Mo_putMemory_B77 at h
  refine ww_istore C [(6, .int t0), (0, .ref (ad k v0)), (1, .int v1), (2, .int v2), (3, .int v3), (4, .int v4), (5, .int v5)] hnL (lt_ rfl) rfl (dq dk_Mo_putMemory 43 rfl) ?_
  refine ww_iload C 5 rfl (dq dk_Mo_putMemory 44 rfl) ?_
  refine ww_iconst C (dq dk_Mo_putMemory 45 rfl) ic_4 ?_
  refine ww_icmp_eq C 99 (dq dk_Mo_putMemory 46 rfl) (by decide) h (fun h => ?_) (fun h => ?_)
  · refine ww_iconst C (dq dk_Mo_putMemory 53 rfl) ic_1 ?_
    refine ww_goto C 104 (dq dk_Mo_putMemory 54 rfl) (by decide) ?_
    exact ww_lv [1, 2, 3, 4, 5, 6, 0] rfl (t_Mo_putMemory_B104 C hR hRm hnL v0 v1 v2 v3 v4 v5 t0 1 ho_v0 σ h)
  · refine ww_iload C 6 rfl (dq dk_Mo_putMemory 47 rfl) ?_
    refine ww_bipush C (dq dk_Mo_putMemory 48 rfl) bp_8 ?_
    refine ww_icmp_lt C 99 (dq dk_Mo_putMemory 49 rfl) (by decide) h (fun h => ?_) (fun h => ?_)
    · refine ww_iconst C (dq dk_Mo_putMemory 53 rfl) ic_1 ?_
      refine ww_goto C 104 (dq dk_Mo_putMemory 54 rfl) (by decide) ?_
      exact ww_lv [1, 2, 3, 4, 5, 6, 0] rfl (t_Mo_putMemory_B104 C hR hRm hnL v0 v1 v2 v3 v4 v5 t0 1 ho_v0 σ h)
    · refine ww_iload C 5 rfl (dq dk_Mo_putMemory 50 rfl) ?_
      refine ww_bipush C (dq dk_Mo_putMemory 51 rfl) bp_8 ?_
      refine ww_icmp_ne C 103 (dq dk_Mo_putMemory 52 rfl) (by decide) h (fun h => ?_) (fun h => ?_)
      · refine ww_iconst C (dq dk_Mo_putMemory 55 rfl) ic_0 ?_
        exact ww_lv [1, 2, 3, 4, 5, 6, 0] rfl (t_Mo_putMemory_B104 C hR hRm hnL v0 v1 v2 v3 v4 v5 t0 0 ho_v0 σ h)
      · refine ww_iconst C (dq dk_Mo_putMemory 53 rfl) ic_1 ?_
        refine ww_goto C 104 (dq dk_Mo_putMemory 54 rfl) (by decide) ?_
        exact ww_lv [1, 2, 3, 4, 5, 6, 0] rfl (t_Mo_putMemory_B104 C hR hRm hnL v0 v1 v2 v3 v4 v5 t0 1 ho_v0 σ h)
set_option maxHeartbeats 4000000 in
set_option maxRecDepth 100000 in
theorem t_Mo_putMemory_B44 {k : Cfg} {res : St} (C : Cx k prog_14_method_37_code "BundleHouseModel") (hR : RV k res) (hRm : k.2.2.2.1 = rm_Mo_putMemory) (hnL : k.2.2.2.2.2.2.2.2.2.2.2.1 = 8) (v0 : Nat) (v1 : Int32) (v2 : Int32) (v3 : Int32) (v4 : Int32) (v5 : Int32) (ho_v0 : kd v0 = 12) (σ : St) (h : Mo_putMemory_B44 v0 v1 v2 v3 v4 v5 σ = some res) : WW k 44 [(0, .ref (ad k v0)), (1, .int v1), (2, .int v2), (3, .int v3), (4, .int v4), (5, .int v5)] [] σ := by
  unfold Mo_putMemory_B44 at h
  refine ww_iload C 4 rfl (dq dk_Mo_putMemory 27 rfl) ?_
  refine ww_bipush C (dq dk_Mo_putMemory 28 rfl) bp_8 ?_
  refine ww_icmp_eq C 61 (dq dk_Mo_putMemory 29 rfl) (by decide) h (fun h => ?_) (fun h => ?_)
  · refine ww_iconst C (dq dk_Mo_putMemory 35 rfl) ic_0 ?_
    refine ww_goto C 77 (dq dk_Mo_putMemory 36 rfl) (by decide) ?_
    exact ww_lv [0, 1, 2, 3, 4, 5] rfl (t_Mo_putMemory_B77 C hR hRm hnL v0 v1 v2 v3 v4 v5 0 ho_v0 σ h)
  · refine ww_iload_n C 3 rfl rfl (dq dk_Mo_putMemory 30 rfl) ?_
    refine ww_if_ne C 65 (dq dk_Mo_putMemory 31 rfl) (by decide) h (fun h => ?_) (fun h => ?_)
    · refine ww_iload_n C 3 rfl rfl (dq dk_Mo_putMemory 37 rfl) ?_
      refine ww_cSi (st := []) C (c_Mo_isSmall v3) cw_Mo_isSmall g_7_157 hRm ⟨⟨rfl, rfl⟩, le_ rfl, le_ rfl⟩ rfl rfl rfl (le_ rfl) (dq dk_Mo_putMemory 38 rfl) h (fun x2 σ1 h => ?_)
      refine ww_if_eq C 76 (dq dk_Mo_putMemory 39 rfl) (by decide) h (fun h => ?_) (fun h => ?_)
      · refine ww_iconst C (dq dk_Mo_putMemory 42 rfl) ic_2 ?_
        exact ww_lv [0, 1, 2, 3, 4, 5] rfl (t_Mo_putMemory_B77 C hR hRm hnL v0 v1 v2 v3 v4 v5 2 ho_v0 σ1 h)
      · refine ww_iconst C (dq dk_Mo_putMemory 40 rfl) ic_1 ?_
        refine ww_goto C 77 (dq dk_Mo_putMemory 41 rfl) (by decide) ?_
        exact ww_lv [0, 1, 2, 3, 4, 5] rfl (t_Mo_putMemory_B77 C hR hRm hnL v0 v1 v2 v3 v4 v5 1 ho_v0 σ1 h)
    · refine ww_iload C 4 rfl (dq dk_Mo_putMemory 32 rfl) ?_
      refine ww_iconst C (dq dk_Mo_putMemory 33 rfl) ic_5 ?_
      refine ww_icmp_eq C 65 (dq dk_Mo_putMemory 34 rfl) (by decide) h (fun h => ?_) (fun h => ?_)
      · refine ww_iload_n C 3 rfl rfl (dq dk_Mo_putMemory 37 rfl) ?_
        refine ww_cSi (st := []) C (c_Mo_isSmall v3) cw_Mo_isSmall g_7_157 hRm ⟨⟨rfl, rfl⟩, le_ rfl, le_ rfl⟩ rfl rfl rfl (le_ rfl) (dq dk_Mo_putMemory 38 rfl) h (fun x4 σ3 h => ?_)
        refine ww_if_eq C 76 (dq dk_Mo_putMemory 39 rfl) (by decide) h (fun h => ?_) (fun h => ?_)
        · refine ww_iconst C (dq dk_Mo_putMemory 42 rfl) ic_2 ?_
          exact ww_lv [0, 1, 2, 3, 4, 5] rfl (t_Mo_putMemory_B77 C hR hRm hnL v0 v1 v2 v3 v4 v5 2 ho_v0 σ3 h)
        · refine ww_iconst C (dq dk_Mo_putMemory 40 rfl) ic_1 ?_
          refine ww_goto C 77 (dq dk_Mo_putMemory 41 rfl) (by decide) ?_
          exact ww_lv [0, 1, 2, 3, 4, 5] rfl (t_Mo_putMemory_B77 C hR hRm hnL v0 v1 v2 v3 v4 v5 1 ho_v0 σ3 h)
      · refine ww_iconst C (dq dk_Mo_putMemory 35 rfl) ic_0 ?_
        refine ww_goto C 77 (dq dk_Mo_putMemory 36 rfl) (by decide) ?_
        exact ww_lv [0, 1, 2, 3, 4, 5] rfl (t_Mo_putMemory_B77 C hR hRm hnL v0 v1 v2 v3 v4 v5 0 ho_v0 σ h)
set_option maxHeartbeats 4000000 in
set_option maxRecDepth 100000 in
theorem c_Mo_putMemory (v0 : Nat) (ho_v0 : kd v0 = 12) (v1 : Int32) (v2 : Int32) (v3 : Int32) : MV y_Mo_putMemory rm_Mo_putMemory prog_14_method_37_code 8 (fun a => [.ref (a v0), .int v1, .int v2, .int v3]) (Mo_putMemory v0 v1 v2 v3) := by
  refine mv_of (by decide) (fun _ => le_ rfl) ?_
  intro k res σ C hR hRm hnL h
  unfold Mo_putMemory at h
  show WW k 0 [(0, .ref (ad k v0)), (1, .int v1), (2, .int v2), (3, .int v3)] [] σ
  refine ww_iload_n C 2 rfl rfl (dq dk_Mo_putMemory 0 rfl) ?_
  refine ww_bipush C (dq dk_Mo_putMemory 1 rfl) bp_15 ?_
  refine ww_iand C (dq dk_Mo_putMemory 2 rfl) ?_
  refine ww_nmi h (fun x1 h => ?_)
  refine ww_istore C [(4, .int x1), (0, .ref (ad k v0)), (1, .int v1), (2, .int v2), (3, .int v3)] hnL (lt_ rfl) rfl (dq dk_Mo_putMemory 3 rfl) ?_
  refine ww_iload_n C 3 rfl rfl (dq dk_Mo_putMemory 4 rfl) ?_
  refine ww_iconst C (dq dk_Mo_putMemory 5 rfl) ic_4 ?_
  refine ww_ishr C (dq dk_Mo_putMemory 6 rfl) ?_
  refine ww_bipush C (dq dk_Mo_putMemory 7 rfl) bp_15 ?_
  refine ww_iand C (dq dk_Mo_putMemory 8 rfl) ?_
  refine ww_nmi h (fun x2 h => ?_)
  refine ww_istore C [(5, .int x2), (4, .int x1), (0, .ref (ad k v0)), (1, .int v1), (2, .int v2), (3, .int v3)] hnL (lt_ rfl) rfl (dq dk_Mo_putMemory 9 rfl) ?_
  refine ww_iload C 1 rfl (dq dk_Mo_putMemory 10 rfl) ?_
  refine ww_bipush C (dq dk_Mo_putMemory 11 rfl) bp_8 ?_
  refine ww_icmp_ne C 44 (dq dk_Mo_putMemory 12 rfl) (by decide) h (fun h => ?_) (fun h => ?_)
  · exact ww_lv [2, 3, 4, 5, 1, 0] rfl (t_Mo_putMemory_B44 C hR hRm hnL v0 v1 v2 v3 x1 x2 ho_v0 σ h)
  · refine ww_iload C 0 rfl (dq dk_Mo_putMemory 13 rfl) ?_
    refine ww_bipush C (dq dk_Mo_putMemory 14 rfl) bp_8 ?_
    refine ww_icmp_ne C 44 (dq dk_Mo_putMemory 15 rfl) (by decide) h (fun h => ?_) (fun h => ?_)
    · exact ww_lv [2, 3, 4, 5, 1, 0] rfl (t_Mo_putMemory_B44 C hR hRm hnL v0 v1 v2 v3 x1 x2 ho_v0 σ h)
    · refine ww_aload_n C 2 rfl rfl (dq dk_Mo_putMemory 16 rfl) ?_
      refine ww_bipush C (dq dk_Mo_putMemory 17 rfl) bp_8 ?_
      refine ww_iload_n C 3 rfl rfl (dq dk_Mo_putMemory 18 rfl) ?_
      refine ww_imul C (dq dk_Mo_putMemory 19 rfl) ?_
      refine ww_iconst C (dq dk_Mo_putMemory 20 rfl) ic_5 ?_
      refine ww_iadd C (dq dk_Mo_putMemory 21 rfl) ?_
      refine ww_cVv (st := []) C (c_Mo_put v0 ho_v0 ((8 * v1) + 5)) cw_Mo_put ho_v0 (lt_ rfl) rfl g_7_138 hRm ⟨⟨rfl, rfl⟩, le_ rfl, le_ rfl⟩ rfl rfl rfl (le_ rfl) (dq dk_Mo_putMemory 22 rfl) h (fun σ3 h => ?_)
      refine ww_aload_n C 2 rfl rfl (dq dk_Mo_putMemory 23 rfl) ?_
      refine ww_iload_n C 5 rfl rfl (dq dk_Mo_putMemory 24 rfl) ?_
      refine ww_cVv (st := []) C (c_Mo_putFour v0 ho_v0 v3) cw_Mo_putFour ho_v0 (lt_ rfl) rfl g_7_153 hRm ⟨⟨rfl, rfl⟩, le_ rfl, le_ rfl⟩ rfl rfl rfl (le_ rfl) (dq dk_Mo_putMemory 25 rfl) h (fun σ4 h => ?_)
      exact ww_vret C hR (dq dk_Mo_putMemory 26 rfl) h
abbrev y_Mo_leftCode : MethodName := ⟨"BundleHouseModel", "leftCode", "(I)I"⟩
def dl_Mo_leftCode : List (Nat × Instr × Nat) := [(0, .iload_n 0, 1), (1, .bipush 8, 2), (3, .if_icmp .ge 12, 3), (6, .iconst 1, 1), (7, .bipush 8, 2), (9, .iload_n 0, 1), (10, .imul, 1), (11, .iadd, 1), (12, .goto 18, 3), (15, .iload_n 0, 1), (16, .bipush 8, 2), (18, .if_icmp .ne 9, 3), (21, .sipush 137, 3), (24, .goto 6, 3), (27, .sipush 133, 3), (30, .ireturn, 1)]
set_option maxRecDepth 100000 in
theorem dk_Mo_leftCode : ∀ q ∈ dl_Mo_leftCode, decode prog_14_method_38_code q.1 = .ok q.2 := by decide +kernel
abbrev rm_Mo_leftCode : Room := { frames := 0, cells := 0, slots := 0, locals := 0 }
theorem cw_Mo_leftCode : CWS y_Mo_leftCode prog_14_method_38_code 1 (some .int) 1 := ⟨⟨g_7_148, g_1_13, by decide, by decide, by decide +kernel⟩, g_7_147⟩
set_option maxHeartbeats 4000000 in
set_option maxRecDepth 100000 in
theorem c_Mo_leftCode (v0 : Int32) : MI y_Mo_leftCode rm_Mo_leftCode prog_14_method_38_code 1 .int (fun a => [.int v0]) (Mo_leftCode v0) := by
  refine mi_of (by decide) (fun _ => le_ rfl) ?_
  intro k res σ C hR hRm hnL h
  unfold Mo_leftCode at h
  show WW k 0 [(0, .int v0)] [] σ
  refine ww_iload_n C 0 rfl rfl (dq dk_Mo_leftCode 0 rfl) ?_
  refine ww_bipush C (dq dk_Mo_leftCode 1 rfl) bp_8 ?_
  refine ww_icmp_ge C 15 (dq dk_Mo_leftCode 2 rfl) (by decide) h (fun h => ?_) (fun h => ?_)
  · refine ww_iload_n C 0 rfl rfl (dq dk_Mo_leftCode 9 rfl) ?_
    refine ww_bipush C (dq dk_Mo_leftCode 10 rfl) bp_8 ?_
    refine ww_icmp_ne C 27 (dq dk_Mo_leftCode 11 rfl) (by decide) h (fun h => ?_) (fun h => ?_)
    · refine ww_sipush C (dq dk_Mo_leftCode 14 rfl) sp_133 ?_
      exact ww_iret C hR (dq dk_Mo_leftCode 15 rfl) h
    · refine ww_sipush C (dq dk_Mo_leftCode 12 rfl) sp_137 ?_
      refine ww_goto C 30 (dq dk_Mo_leftCode 13 rfl) (by decide) ?_
      exact ww_iret C hR (dq dk_Mo_leftCode 15 rfl) h
  · refine ww_iconst C (dq dk_Mo_leftCode 3 rfl) ic_1 ?_
    refine ww_bipush C (dq dk_Mo_leftCode 4 rfl) bp_8 ?_
    refine ww_iload_n C 0 rfl rfl (dq dk_Mo_leftCode 5 rfl) ?_
    refine ww_imul C (dq dk_Mo_leftCode 6 rfl) ?_
    refine ww_iadd C (dq dk_Mo_leftCode 7 rfl) ?_
    refine ww_goto C 30 (dq dk_Mo_leftCode 8 rfl) (by decide) ?_
    exact ww_iret C hR (dq dk_Mo_leftCode 15 rfl) h
abbrev y_Mo_encodeNumber : MethodName := ⟨"BundleHouseModel", "encodeNumber", "(IIIII)V"⟩
def dl_Mo_encodeNumber : List (Nat × Instr × Nat) := [(0, .aload_n 0, 1), (1, .getfield 29, 3), (4, .iload_n 1, 1), (5, .iaload, 1), (6, .iconst 5, 1), (7, .if_icmp .ne 7, 3), (10, .iconst 1, 1), (11, .goto 4, 3), (14, .iconst 0, 1), (15, .istore 6, 2), (17, .iload_n 2, 1), (18, .bipush 8, 2), (20, .if_icmp .ne 24, 3), (23, .iload 6, 2), (25, .ifCond .eq 19, 3), (28, .aload_n 0, 1), (29, .sipush 184, 3), (32, .iload_n 3, 1), (33, .iadd, 1), (34, .invokevirtual 232, 3), (37, .aload_n 0, 1), (38, .iload 5, 2), (40, .invokevirtual 235, 3), (43, .return_, 1), (44, .iload_n 2, 1), (45, .bipush 14, 2), (47, .if_icmp .lt 7, 3), (50, .iconst 1, 1), (51, .goto 4, 3), (54, .iconst 0, 1), (55, .istore 7, 2), (57, .iload_n 2, 1), (58, .bipush 8, 2), (60, .if_icmp .ne 7, 3), (63, .iconst 0, 1), (64, .goto 35, 3), (67, .iload_n 2, 1), (68, .bipush 14, 2), (70, .if_icmp .ne 7, 3), (73, .iconst 4, 1), (74, .goto 25, 3), (77, .iload_n 2, 1), (78, .bipush 15, 2), (80, .if_icmp .ne 7, 3), (83, .iconst 5, 1), (84, .goto 15, 3), (87, .iload_n 2, 1), (88, .bipush 16, 2), (90, .if_icmp .ne 8, 3), (93, .bipush 7, 2), (95, .goto 4, 3), (98, .iload_n 2, 1), (99, .istore 8, 2), (101, .iload 7, 2), (103, .ifCond .ne 17, 3), (106, .iload_n 2, 1), (107, .bipush 8, 2), (109, .if_icmp .ge 15, 3), (112, .iload 5, 2), (114, .invokestatic 238, 3), (117, .ifCond .eq 7, 3), (120, .iconst 1, 1), (121, .goto 4, 3), (124, .iconst 0, 1), (125, .istore 9, 2), (127, .aload_n 0, 1), (128, .iload_n 2, 1), (129, .bipush 8, 2), (131, .if_icmp .ne 9, 3), (134, .sipush 199, 3), (137, .goto 28, 3), (140, .iload 7, 2), (142, .ifCond .eq 9, 3), (145, .sipush 193, 3), (148, .goto 17, 3), (151, .iload 9, 2), (153, .ifCond .eq 9, 3), (156, .sipush 131, 3), (159, .goto 6, 3), (162, .sipush 129, 3), (165, .invokevirtual 232, 3), (168, .iload 6, 2), (170, .ifCond .eq 13, 3), (173, .aload_n 0, 1), (174, .iload 8, 2), (176, .iload_n 3, 1), (177, .invokevirtual 241, 3), (180, .goto 17, 3), (183, .aload_n 0, 1), (184, .iload 8, 2), (186, .iload 4, 2), (188, .aload_n 0, 1), (189, .getfield 38, 3), (192, .iload_n 1, 1), (193, .iaload, 1), (194, .invokevirtual 249, 3), (197, .iload 9, 2), (199, .ifCond .eq 12, 3), (202, .aload_n 0, 1), (203, .iload 5, 2), (205, .invokevirtual 232, 3), (208, .goto 9, 3), (211, .aload_n 0, 1), (212, .iload 5, 2), (214, .invokevirtual 235, 3), (217, .return_, 1)]
set_option maxRecDepth 100000 in
theorem dk_Mo_encodeNumber : ∀ q ∈ dl_Mo_encodeNumber, decode prog_14_method_40_code q.1 = .ok q.2 := by decide +kernel
abbrev rm_Mo_encodeNumber : Room := { frames := 3, cells := 0, slots := 0, locals := 70 }
theorem cw_Mo_encodeNumber : CWV y_Mo_encodeNumber prog_14_method_40_code 10 none 5 := ⟨⟨g_7_163, g_1_13, by decide, by decide, by decide +kernel⟩, g_7_162, gs_6_6⟩
set_option maxHeartbeats 4000000 in
set_option maxRecDepth 100000 in
theorem t_Mo_encodeNumber_B197 {k : Cfg} {res : St} (C : Cx k prog_14_method_40_code "BundleHouseModel") (hR : RV k res) (hRm : k.2.2.2.1 = rm_Mo_encodeNumber) (hnL : k.2.2.2.2.2.2.2.2.2.2.2.1 = 10) (v0 : Nat) (v5 : Int32) (v9 : Int32) (ho_v0 : kd v0 = 12) (σ : St) (h : Mo_encodeNumber_B197 v0 v5 v9 σ = some res) : WW k 197 [(0, .ref (ad k v0)), (5, .int v5), (9, .int v9)] [] σ := by
  unfold Mo_encodeNumber_B197 at h
  refine ww_iload C 2 rfl (dq dk_Mo_encodeNumber 96 rfl) ?_
  refine ww_if_eq C 211 (dq dk_Mo_encodeNumber 97 rfl) (by decide) h (fun h => ?_) (fun h => ?_)
  · refine ww_aload_n C 0 rfl rfl (dq dk_Mo_encodeNumber 102 rfl) ?_
    refine ww_iload C 1 rfl (dq dk_Mo_encodeNumber 103 rfl) ?_
    refine ww_cVv (st := []) C (c_Mo_putFour v0 ho_v0 v5) cw_Mo_putFour ho_v0 (lt_ rfl) rfl g_7_153 hRm ⟨⟨rfl, rfl⟩, le_ rfl, le_ rfl⟩ rfl rfl rfl (le_ rfl) (dq dk_Mo_encodeNumber 104 rfl) h (fun σ1 h => ?_)
    exact ww_vret C hR (dq dk_Mo_encodeNumber 105 rfl) h
  · refine ww_aload_n C 0 rfl rfl (dq dk_Mo_encodeNumber 98 rfl) ?_
    refine ww_iload C 1 rfl (dq dk_Mo_encodeNumber 99 rfl) ?_
    refine ww_cVv (st := []) C (c_Mo_put v0 ho_v0 v5) cw_Mo_put ho_v0 (lt_ rfl) rfl g_7_138 hRm ⟨⟨rfl, rfl⟩, le_ rfl, le_ rfl⟩ rfl rfl rfl (le_ rfl) (dq dk_Mo_encodeNumber 100 rfl) h (fun σ2 h => ?_)
    refine ww_goto C 217 (dq dk_Mo_encodeNumber 101 rfl) (by decide) ?_
    exact ww_vret C hR (dq dk_Mo_encodeNumber 105 rfl) h
set_option maxHeartbeats 4000000 in
set_option maxRecDepth 100000 in
theorem t_Mo_encodeNumber_B165 {k : Cfg} {res : St} (C : Cx k prog_14_method_40_code "BundleHouseModel") (hR : RV k res) (hRm : k.2.2.2.1 = rm_Mo_encodeNumber) (hnL : k.2.2.2.2.2.2.2.2.2.2.2.1 = 10) (v0 : Nat) (v1 : Int32) (v3 : Int32) (v4 : Int32) (v5 : Int32) (v6 : Int32) (v8 : Int32) (v9 : Int32) (t0 : Nat) (t1 : Int32) (ho_v0 : kd v0 = 12) (ho_t0 : kd t0 = 12) (σ : St) (h : Mo_encodeNumber_B165 v0 v1 v3 v4 v5 v6 v8 v9 t0 t1 σ = some res) : WW k 165 [(0, .ref (ad k v0)), (1, .int v1), (3, .int v3), (4, .int v4), (5, .int v5), (6, .int v6), (8, .int v8), (9, .int v9)] [.int t1, .ref (ad k t0)] σ := by
  unfold Mo_encodeNumber_B165 at h
  refine ww_cVv (st := []) C (c_Mo_put t0 ho_t0 t1) cw_Mo_put ho_t0 (lt_ rfl) rfl g_7_138 hRm ⟨⟨rfl, rfl⟩, le_ rfl, le_ rfl⟩ rfl rfl rfl (le_ rfl) (dq dk_Mo_encodeNumber 80 rfl) h (fun σ1 h => ?_)
  refine ww_iload C 5 rfl (dq dk_Mo_encodeNumber 81 rfl) ?_
  refine ww_if_eq C 183 (dq dk_Mo_encodeNumber 82 rfl) (by decide) h (fun h => ?_) (fun h => ?_)
  · refine ww_aload_n C 0 rfl rfl (dq dk_Mo_encodeNumber 88 rfl) ?_
    refine ww_iload C 6 rfl (dq dk_Mo_encodeNumber 89 rfl) ?_
    refine ww_iload C 3 rfl (dq dk_Mo_encodeNumber 90 rfl) ?_
    refine ww_aload_n C 0 rfl rfl (dq dk_Mo_encodeNumber 91 rfl) ?_
    refine ww_getr C ko_Mo 16 ho_v0 (lt_ rfl) g_6_66 rfl rfl (dq dk_Mo_encodeNumber 92 rfl) ?_
    refine ww_iload_n C 1 rfl rfl (dq dk_Mo_encodeNumber 93 rfl) ?_
    refine ww_iald C (kc_Mo_16 _ ho_v0).1 (kc_Mo_16 _ ho_v0).2 (dq dk_Mo_encodeNumber 94 rfl) h (fun x2 h => ?_)
    refine ww_cVv (st := []) C (c_Mo_putMemory v0 ho_v0 v8 v4 x2) cw_Mo_putMemory ho_v0 (lt_ rfl) rfl g_7_149 hRm ⟨⟨rfl, rfl⟩, le_ rfl, le_ rfl⟩ rfl rfl rfl (le_ rfl) (dq dk_Mo_encodeNumber 95 rfl) h (fun σ3 h => ?_)
    exact ww_lv [0, 4, 7] rfl (t_Mo_encodeNumber_B197 C hR hRm hnL v0 v5 v9 ho_v0 σ3 h)
  · refine ww_aload_n C 0 rfl rfl (dq dk_Mo_encodeNumber 83 rfl) ?_
    refine ww_iload C 6 rfl (dq dk_Mo_encodeNumber 84 rfl) ?_
    refine ww_iload_n C 2 rfl rfl (dq dk_Mo_encodeNumber 85 rfl) ?_
    refine ww_cVv (st := []) C (c_Mo_putRegister v0 ho_v0 v8 v3) cw_Mo_putRegister ho_v0 (lt_ rfl) rfl g_7_142 hRm ⟨⟨rfl, rfl⟩, le_ rfl, le_ rfl⟩ rfl rfl rfl (le_ rfl) (dq dk_Mo_encodeNumber 86 rfl) h (fun σ4 h => ?_)
    refine ww_goto C 197 (dq dk_Mo_encodeNumber 87 rfl) (by decide) ?_
    exact ww_lv [0, 4, 7] rfl (t_Mo_encodeNumber_B197 C hR hRm hnL v0 v5 v9 ho_v0 σ4 h)
set_option maxHeartbeats 4000000 in
set_option maxRecDepth 100000 in
theorem t_Mo_encodeNumber_B125 {k : Cfg} {res : St} (C : Cx k prog_14_method_40_code "BundleHouseModel") (hR : RV k res) (hRm : k.2.2.2.1 = rm_Mo_encodeNumber) (hnL : k.2.2.2.2.2.2.2.2.2.2.2.1 = 10) (v0 : Nat) (v1 : Int32) (v2 : Int32) (v3 : Int32) (v4 : Int32) (v5 : Int32) (v6 : Int32) (v7 : Int32) (v8 : Int32) (t0 : Int32) (ho_v0 : kd v0 = 12) (σ : St) (h : Mo_encodeNumber_B125 v0 v1 v2 v3 v4 v5 v6 v7 v8 t0 σ = some res) : WW k 125 [(0, .ref (ad k v0)), (1, .int v1), (2, .int v2), (3, .int v3), (4, .int v4), (5, .int v5), (6, .int v6), (7, .int v7), (8, .int v8)] [.int t0] σ := by
  unfold Mo_encodeNumber_B125 at h
  refine ww_istore C [(9, .int t0), (0, .ref (ad k v0)), (1, .int v1), (2, .int v2), (3, .int v3), (4, .int v4), (5, .int v5), (6, .int v6), (7, .int v7), (8, .int v8)] hnL (lt_ rfl) rfl (dq dk_Mo_encodeNumber 64 rfl) ?_
  refine ww_aload_n C 1 rfl rfl (dq dk_Mo_encodeNumber 65 rfl) ?_
  refine ww_iload_n C 3 rfl rfl (dq dk_Mo_encodeNumber 66 rfl) ?_
  refine ww_bipush C (dq dk_Mo_encodeNumber 67 rfl) bp_8 ?_
  refine ww_icmp_ne C 140 (dq dk_Mo_encodeNumber 68 rfl) (by decide) h (fun h => ?_) (fun h => ?_)
  · refine ww_iload C 8 rfl (dq dk_Mo_encodeNumber 71 rfl) ?_
    refine ww_if_eq C 151 (dq dk_Mo_encodeNumber 72 rfl) (by decide) h (fun h => ?_) (fun h => ?_)
    · refine ww_iload C 0 rfl (dq dk_Mo_encodeNumber 75 rfl) ?_
      refine ww_if_eq C 162 (dq dk_Mo_encodeNumber 76 rfl) (by decide) h (fun h => ?_) (fun h => ?_)
      · refine ww_sipush C (dq dk_Mo_encodeNumber 79 rfl) sp_129 ?_
        exact ww_lv [1, 2, 4, 5, 6, 7, 9, 0] rfl (t_Mo_encodeNumber_B165 C hR hRm hnL v0 v1 v3 v4 v5 v6 v8 t0 v0 129 ho_v0 ho_v0 σ h)
      · refine ww_sipush C (dq dk_Mo_encodeNumber 77 rfl) sp_131 ?_
        refine ww_goto C 165 (dq dk_Mo_encodeNumber 78 rfl) (by decide) ?_
        exact ww_lv [1, 2, 4, 5, 6, 7, 9, 0] rfl (t_Mo_encodeNumber_B165 C hR hRm hnL v0 v1 v3 v4 v5 v6 v8 t0 v0 131 ho_v0 ho_v0 σ h)
    · refine ww_sipush C (dq dk_Mo_encodeNumber 73 rfl) sp_193 ?_
      refine ww_goto C 165 (dq dk_Mo_encodeNumber 74 rfl) (by decide) ?_
      exact ww_lv [1, 2, 4, 5, 6, 7, 9, 0] rfl (t_Mo_encodeNumber_B165 C hR hRm hnL v0 v1 v3 v4 v5 v6 v8 t0 v0 193 ho_v0 ho_v0 σ h)
  · refine ww_sipush C (dq dk_Mo_encodeNumber 69 rfl) sp_199 ?_
    refine ww_goto C 165 (dq dk_Mo_encodeNumber 70 rfl) (by decide) ?_
    exact ww_lv [1, 2, 4, 5, 6, 7, 9, 0] rfl (t_Mo_encodeNumber_B165 C hR hRm hnL v0 v1 v3 v4 v5 v6 v8 t0 v0 199 ho_v0 ho_v0 σ h)
set_option maxHeartbeats 4000000 in
set_option maxRecDepth 100000 in
theorem t_Mo_encodeNumber_B99 {k : Cfg} {res : St} (C : Cx k prog_14_method_40_code "BundleHouseModel") (hR : RV k res) (hRm : k.2.2.2.1 = rm_Mo_encodeNumber) (hnL : k.2.2.2.2.2.2.2.2.2.2.2.1 = 10) (v0 : Nat) (v1 : Int32) (v2 : Int32) (v3 : Int32) (v4 : Int32) (v5 : Int32) (v6 : Int32) (v7 : Int32) (t0 : Int32) (ho_v0 : kd v0 = 12) (σ : St) (h : Mo_encodeNumber_B99 v0 v1 v2 v3 v4 v5 v6 v7 t0 σ = some res) : WW k 99 [(0, .ref (ad k v0)), (1, .int v1), (2, .int v2), (3, .int v3), (4, .int v4), (5, .int v5), (6, .int v6), (7, .int v7)] [.int t0] σ := by
  unfold Mo_encodeNumber_B99 at h
  refine ww_istore C [(8, .int t0), (0, .ref (ad k v0)), (1, .int v1), (2, .int v2), (3, .int v3), (4, .int v4), (5, .int v5), (6, .int v6), (7, .int v7)] hnL (lt_ rfl) rfl (dq dk_Mo_encodeNumber 52 rfl) ?_
  refine ww_iload C 8 rfl (dq dk_Mo_encodeNumber 53 rfl) ?_
  refine ww_if_ne C 120 (dq dk_Mo_encodeNumber 54 rfl) (by decide) h (fun h => ?_) (fun h => ?_)
  · refine ww_iconst C (dq dk_Mo_encodeNumber 61 rfl) ic_1 ?_
    refine ww_goto C 125 (dq dk_Mo_encodeNumber 62 rfl) (by decide) ?_
    exact ww_lv [1, 2, 3, 4, 5, 6, 7, 8, 0] rfl (t_Mo_encodeNumber_B125 C hR hRm hnL v0 v1 v2 v3 v4 v5 v6 v7 t0 1 ho_v0 σ h)
  · refine ww_iload_n C 3 rfl rfl (dq dk_Mo_encodeNumber 55 rfl) ?_
    refine ww_bipush C (dq dk_Mo_encodeNumber 56 rfl) bp_8 ?_
    refine ww_icmp_ge C 124 (dq dk_Mo_encodeNumber 57 rfl) (by decide) h (fun h => ?_) (fun h => ?_)
    · refine ww_iconst C (dq dk_Mo_encodeNumber 63 rfl) ic_0 ?_
      exact ww_lv [1, 2, 3, 4, 5, 6, 7, 8, 0] rfl (t_Mo_encodeNumber_B125 C hR hRm hnL v0 v1 v2 v3 v4 v5 v6 v7 t0 0 ho_v0 σ h)
    · refine ww_iload C 6 rfl (dq dk_Mo_encodeNumber 58 rfl) ?_
      refine ww_cSi (st := []) C (c_Mo_isSmall v5) cw_Mo_isSmall g_7_157 hRm ⟨⟨rfl, rfl⟩, le_ rfl, le_ rfl⟩ rfl rfl rfl (le_ rfl) (dq dk_Mo_encodeNumber 59 rfl) h (fun x2 σ1 h => ?_)
      refine ww_if_eq C 124 (dq dk_Mo_encodeNumber 60 rfl) (by decide) h (fun h => ?_) (fun h => ?_)
      · refine ww_iconst C (dq dk_Mo_encodeNumber 63 rfl) ic_0 ?_
        exact ww_lv [1, 2, 3, 4, 5, 6, 7, 8, 0] rfl (t_Mo_encodeNumber_B125 C hR hRm hnL v0 v1 v2 v3 v4 v5 v6 v7 t0 0 ho_v0 σ1 h)
      · refine ww_iconst C (dq dk_Mo_encodeNumber 61 rfl) ic_1 ?_
        refine ww_goto C 125 (dq dk_Mo_encodeNumber 62 rfl) (by decide) ?_
        exact ww_lv [1, 2, 3, 4, 5, 6, 7, 8, 0] rfl (t_Mo_encodeNumber_B125 C hR hRm hnL v0 v1 v2 v3 v4 v5 v6 v7 t0 1 ho_v0 σ1 h)
set_option maxHeartbeats 4000000 in
set_option maxRecDepth 100000 in
theorem t_Mo_encodeNumber_B55 {k : Cfg} {res : St} (C : Cx k prog_14_method_40_code "BundleHouseModel") (hR : RV k res) (hRm : k.2.2.2.1 = rm_Mo_encodeNumber) (hnL : k.2.2.2.2.2.2.2.2.2.2.2.1 = 10) (v0 : Nat) (v1 : Int32) (v2 : Int32) (v3 : Int32) (v4 : Int32) (v5 : Int32) (v6 : Int32) (t0 : Int32) (ho_v0 : kd v0 = 12) (σ : St) (h : Mo_encodeNumber_B55 v0 v1 v2 v3 v4 v5 v6 t0 σ = some res) : WW k 55 [(0, .ref (ad k v0)), (1, .int v1), (2, .int v2), (3, .int v3), (4, .int v4), (5, .int v5), (6, .int v6)] [.int t0] σ := by
  unfold Mo_encodeNumber_B55 at h
  refine ww_istore C [(7, .int t0), (0, .ref (ad k v0)), (1, .int v1), (2, .int v2), (3, .int v3), (4, .int v4), (5, .int v5), (6, .int v6)] hnL (lt_ rfl) rfl (dq dk_Mo_encodeNumber 30 rfl) ?_
  refine ww_iload_n C 3 rfl rfl (dq dk_Mo_encodeNumber 31 rfl) ?_
  refine ww_bipush C (dq dk_Mo_encodeNumber 32 rfl) bp_8 ?_
  refine ww_icmp_ne C 67 (dq dk_Mo_encodeNumber 33 rfl) (by decide) h (fun h => ?_) (fun h => ?_)
  · refine ww_iload_n C 3 rfl rfl (dq dk_Mo_encodeNumber 36 rfl) ?_
    refine ww_bipush C (dq dk_Mo_encodeNumber 37 rfl) bp_14 ?_
    refine ww_icmp_ne C 77 (dq dk_Mo_encodeNumber 38 rfl) (by decide) h (fun h => ?_) (fun h => ?_)
    · refine ww_iload_n C 3 rfl rfl (dq dk_Mo_encodeNumber 41 rfl) ?_
      refine ww_bipush C (dq dk_Mo_encodeNumber 42 rfl) bp_15 ?_
      refine ww_icmp_ne C 87 (dq dk_Mo_encodeNumber 43 rfl) (by decide) h (fun h => ?_) (fun h => ?_)
      · refine ww_iload_n C 3 rfl rfl (dq dk_Mo_encodeNumber 46 rfl) ?_
        refine ww_bipush C (dq dk_Mo_encodeNumber 47 rfl) bp_16 ?_
        refine ww_icmp_ne C 98 (dq dk_Mo_encodeNumber 48 rfl) (by decide) h (fun h => ?_) (fun h => ?_)
        · refine ww_iload_n C 3 rfl rfl (dq dk_Mo_encodeNumber 51 rfl) ?_
          exact ww_lv [1, 2, 3, 4, 5, 6, 7, 0] rfl (t_Mo_encodeNumber_B99 C hR hRm hnL v0 v1 v2 v3 v4 v5 v6 t0 v2 ho_v0 σ h)
        · refine ww_bipush C (dq dk_Mo_encodeNumber 49 rfl) bp_7 ?_
          refine ww_goto C 99 (dq dk_Mo_encodeNumber 50 rfl) (by decide) ?_
          exact ww_lv [1, 2, 3, 4, 5, 6, 7, 0] rfl (t_Mo_encodeNumber_B99 C hR hRm hnL v0 v1 v2 v3 v4 v5 v6 t0 7 ho_v0 σ h)
      · refine ww_iconst C (dq dk_Mo_encodeNumber 44 rfl) ic_5 ?_
        refine ww_goto C 99 (dq dk_Mo_encodeNumber 45 rfl) (by decide) ?_
        exact ww_lv [1, 2, 3, 4, 5, 6, 7, 0] rfl (t_Mo_encodeNumber_B99 C hR hRm hnL v0 v1 v2 v3 v4 v5 v6 t0 5 ho_v0 σ h)
    · refine ww_iconst C (dq dk_Mo_encodeNumber 39 rfl) ic_4 ?_
      refine ww_goto C 99 (dq dk_Mo_encodeNumber 40 rfl) (by decide) ?_
      exact ww_lv [1, 2, 3, 4, 5, 6, 7, 0] rfl (t_Mo_encodeNumber_B99 C hR hRm hnL v0 v1 v2 v3 v4 v5 v6 t0 4 ho_v0 σ h)
  · refine ww_iconst C (dq dk_Mo_encodeNumber 34 rfl) ic_0 ?_
    refine ww_goto C 99 (dq dk_Mo_encodeNumber 35 rfl) (by decide) ?_
    exact ww_lv [1, 2, 3, 4, 5, 6, 7, 0] rfl (t_Mo_encodeNumber_B99 C hR hRm hnL v0 v1 v2 v3 v4 v5 v6 t0 0 ho_v0 σ h)
set_option maxHeartbeats 4000000 in
set_option maxRecDepth 100000 in
theorem t_Mo_encodeNumber_B15 {k : Cfg} {res : St} (C : Cx k prog_14_method_40_code "BundleHouseModel") (hR : RV k res) (hRm : k.2.2.2.1 = rm_Mo_encodeNumber) (hnL : k.2.2.2.2.2.2.2.2.2.2.2.1 = 10) (v0 : Nat) (v1 : Int32) (v2 : Int32) (v3 : Int32) (v4 : Int32) (v5 : Int32) (t0 : Int32) (ho_v0 : kd v0 = 12) (σ : St) (h : Mo_encodeNumber_B15 v0 v1 v2 v3 v4 v5 t0 σ = some res) : WW k 15 [(0, .ref (ad k v0)), (1, .int v1), (2, .int v2), (3, .int v3), (4, .int v4), (5, .int v5)] [.int t0] σ := by
  unfold Mo_encodeNumber_B15 at h
  refine ww_istore C [(6, .int t0), (0, .ref (ad k v0)), (1, .int v1), (2, .int v2), (3, .int v3), (4, .int v4), (5, .int v5)] hnL (lt_ rfl) rfl (dq dk_Mo_encodeNumber 9 rfl) ?_
  refine ww_iload_n C 3 rfl rfl (dq dk_Mo_encodeNumber 10 rfl) ?_
  refine ww_bipush C (dq dk_Mo_encodeNumber 11 rfl) bp_8 ?_
  refine ww_icmp_ne C 44 (dq dk_Mo_encodeNumber 12 rfl) (by decide) h (fun h => ?_) (fun h => ?_)
  · refine ww_iload_n C 3 rfl rfl (dq dk_Mo_encodeNumber 24 rfl) ?_
    refine ww_bipush C (dq dk_Mo_encodeNumber 25 rfl) bp_14 ?_
    refine ww_icmp_lt C 54 (dq dk_Mo_encodeNumber 26 rfl) (by decide) h (fun h => ?_) (fun h => ?_)
    · refine ww_iconst C (dq dk_Mo_encodeNumber 29 rfl) ic_0 ?_
      exact ww_lv [1, 2, 3, 4, 5, 6, 0] rfl (t_Mo_encodeNumber_B55 C hR hRm hnL v0 v1 v2 v3 v4 v5 t0 0 ho_v0 σ h)
    · refine ww_iconst C (dq dk_Mo_encodeNumber 27 rfl) ic_1 ?_
      refine ww_goto C 55 (dq dk_Mo_encodeNumber 28 rfl) (by decide) ?_
      exact ww_lv [1, 2, 3, 4, 5, 6, 0] rfl (t_Mo_encodeNumber_B55 C hR hRm hnL v0 v1 v2 v3 v4 v5 t0 1 ho_v0 σ h)
  · refine ww_iload C 0 rfl (dq dk_Mo_encodeNumber 13 rfl) ?_
    refine ww_if_eq C 44 (dq dk_Mo_encodeNumber 14 rfl) (by decide) h (fun h => ?_) (fun h => ?_)
    · refine ww_iload_n C 3 rfl rfl (dq dk_Mo_encodeNumber 24 rfl) ?_
      refine ww_bipush C (dq dk_Mo_encodeNumber 25 rfl) bp_14 ?_
      refine ww_icmp_lt C 54 (dq dk_Mo_encodeNumber 26 rfl) (by decide) h (fun h => ?_) (fun h => ?_)
      · refine ww_iconst C (dq dk_Mo_encodeNumber 29 rfl) ic_0 ?_
        exact ww_lv [1, 2, 3, 4, 5, 6, 0] rfl (t_Mo_encodeNumber_B55 C hR hRm hnL v0 v1 v2 v3 v4 v5 t0 0 ho_v0 σ h)
      · refine ww_iconst C (dq dk_Mo_encodeNumber 27 rfl) ic_1 ?_
        refine ww_goto C 55 (dq dk_Mo_encodeNumber 28 rfl) (by decide) ?_
        exact ww_lv [1, 2, 3, 4, 5, 6, 0] rfl (t_Mo_encodeNumber_B55 C hR hRm hnL v0 v1 v2 v3 v4 v5 t0 1 ho_v0 σ h)
    · refine ww_aload_n C 1 rfl rfl (dq dk_Mo_encodeNumber 15 rfl) ?_
      refine ww_sipush C (dq dk_Mo_encodeNumber 16 rfl) sp_184 ?_
      refine ww_iload_n C 4 rfl rfl (dq dk_Mo_encodeNumber 17 rfl) ?_
      refine ww_iadd C (dq dk_Mo_encodeNumber 18 rfl) ?_
      refine ww_cVv (st := []) C (c_Mo_put v0 ho_v0 (184 + v3)) cw_Mo_put ho_v0 (lt_ rfl) rfl g_7_138 hRm ⟨⟨rfl, rfl⟩, le_ rfl, le_ rfl⟩ rfl rfl rfl (le_ rfl) (dq dk_Mo_encodeNumber 19 rfl) h (fun σ1 h => ?_)
      refine ww_aload_n C 1 rfl rfl (dq dk_Mo_encodeNumber 20 rfl) ?_
      refine ww_iload C 6 rfl (dq dk_Mo_encodeNumber 21 rfl) ?_
      refine ww_cVv (st := []) C (c_Mo_putFour v0 ho_v0 v5) cw_Mo_putFour ho_v0 (lt_ rfl) rfl g_7_153 hRm ⟨⟨rfl, rfl⟩, le_ rfl, le_ rfl⟩ rfl rfl rfl (le_ rfl) (dq dk_Mo_encodeNumber 22 rfl) h (fun σ2 h => ?_)
      exact ww_vret C hR (dq dk_Mo_encodeNumber 23 rfl) h
set_option maxHeartbeats 4000000 in
set_option maxRecDepth 100000 in
theorem c_Mo_encodeNumber (v0 : Nat) (ho_v0 : kd v0 = 12) (v1 : Int32) (v2 : Int32) (v3 : Int32) (v4 : Int32) (v5 : Int32) : MV y_Mo_encodeNumber rm_Mo_encodeNumber prog_14_method_40_code 10 (fun a => [.ref (a v0), .int v1, .int v2, .int v3, .int v4, .int v5]) (Mo_encodeNumber v0 v1 v2 v3 v4 v5) := by
  refine mv_of (by decide) (fun _ => le_ rfl) ?_
  intro k res σ C hR hRm hnL h
  unfold Mo_encodeNumber at h
  show WW k 0 [(0, .ref (ad k v0)), (1, .int v1), (2, .int v2), (3, .int v3), (4, .int v4), (5, .int v5)] [] σ
  refine ww_aload_n C 0 rfl rfl (dq dk_Mo_encodeNumber 0 rfl) ?_
  refine ww_getr C ko_Mo 13 ho_v0 (lt_ rfl) g_6_63 rfl rfl (dq dk_Mo_encodeNumber 1 rfl) ?_
  refine ww_iload_n C 1 rfl rfl (dq dk_Mo_encodeNumber 2 rfl) ?_
  refine ww_iald C (kc_Mo_13 _ ho_v0).1 (kc_Mo_13 _ ho_v0).2 (dq dk_Mo_encodeNumber 3 rfl) h (fun x1 h => ?_)
  refine ww_iconst C (dq dk_Mo_encodeNumber 4 rfl) ic_5 ?_
  refine ww_icmp_ne C 14 (dq dk_Mo_encodeNumber 5 rfl) (by decide) h (fun h => ?_) (fun h => ?_)
  · refine ww_iconst C (dq dk_Mo_encodeNumber 8 rfl) ic_0 ?_
    exact ww_lv [0, 1, 2, 3, 4, 5] rfl (t_Mo_encodeNumber_B15 C hR hRm hnL v0 v1 v2 v3 v4 v5 0 ho_v0 σ h)
  · refine ww_iconst C (dq dk_Mo_encodeNumber 6 rfl) ic_1 ?_
    refine ww_goto C 15 (dq dk_Mo_encodeNumber 7 rfl) (by decide) ?_
    exact ww_lv [0, 1, 2, 3, 4, 5] rfl (t_Mo_encodeNumber_B15 C hR hRm hnL v0 v1 v2 v3 v4 v5 1 ho_v0 σ h)
abbrev y_Mo_encode : MethodName := ⟨"BundleHouseModel", "encode", "(I)V"⟩
def dl_Mo_encode : List (Nat × Instr × Nat) := [(0, .aload_n 0, 1), (1, .getfield 26, 3), (4, .iload_n 1, 1), (5, .iaload, 1), (6, .istore_n 2, 1), (7, .aload_n 0, 1), (8, .getfield 32, 3), (11, .iload_n 1, 1), (12, .iaload, 1), (13, .istore_n 3, 1), (14, .aload_n 0, 1), (15, .getfield 35, 3), (18, .iload_n 1, 1), (19, .iaload, 1), (20, .istore 4, 2), (22, .aload_n 0, 1), (23, .getfield 41, 3), (26, .iload_n 1, 1), (27, .iaload, 1), (28, .istore 5, 2), (30, .aload_n 0, 1), (31, .iconst 0, 1), (32, .putfield 229, 3), (35, .aload_n 0, 1), (36, .getfield 29, 3), (39, .iload_n 1, 1), (40, .iaload, 1), (41, .tableswitch 339 0 8 #[51, 73, 123, 170, 244, 339, 339, 268, 294], 51), (92, .aload_n 0, 1), (93, .iload_n 2, 1), (94, .bipush 21, 2), (96, .if_icmp .ne 9, 3), (99, .sipush 144, 3), (102, .goto 6, 3), (105, .sipush 244, 3), (108, .invokevirtual 232, 3), (111, .goto 280, 3), (114, .iload_n 2, 1), (115, .bipush 12, 2), (117, .if_icmp .eq 9, 3), (120, .iload_n 2, 1), (121, .bipush 13, 2), (123, .if_icmp .ne 22, 3), (126, .aload_n 0, 1), (127, .sipush 247, 3), (130, .invokevirtual 232, 3), (133, .aload_n 0, 1), (134, .iload_n 2, 1), (135, .bipush 10, 2), (137, .isub, 1), (138, .iload_n 3, 1), (139, .invokevirtual 241, 3), (142, .goto 249, 3), (145, .aload_n 0, 1), (146, .bipush 64, 2), (148, .bipush 8, 2), (150, .iload_n 2, 1), (151, .bipush 17, 2), (153, .isub, 1), (154, .imul, 1), (155, .iadd, 1), (156, .iload_n 3, 1), (157, .iadd, 1), (158, .invokevirtual 232, 3), (161, .goto 230, 3), (164, .iload_n 2, 1), (165, .bipush 11, 2), (167, .if_icmp .ne 26, 3), (170, .aload_n 0, 1), (171, .bipush 15, 2), (173, .invokevirtual 232, 3), (176, .aload_n 0, 1), (177, .sipush 175, 3), (180, .invokevirtual 232, 3), (183, .aload_n 0, 1), (184, .iload_n 3, 1), (185, .iload 4, 2), (187, .invokevirtual 241, 3), (190, .goto 201, 3), (193, .aload_n 0, 1), (194, .iload_n 2, 1), (195, .invokestatic 245, 3), (198, .invokevirtual 232, 3), (201, .aload_n 0, 1), (202, .iload 4, 2), (204, .iload_n 3, 1), (205, .invokevirtual 241, 3), (208, .goto 183, 3), (211, .iload_n 2, 1), (212, .bipush 11, 2), (214, .if_icmp .ne 9, 3), (217, .aload_n 0, 1), (218, .bipush 15, 2), (220, .invokevirtual 232, 3), (223, .aload_n 0, 1), (224, .iload_n 2, 1), (225, .bipush 8, 2), (227, .if_icmp .ge 12, 3), (230, .iconst 3, 1), (231, .bipush 8, 2), (233, .iload_n 2, 1), (234, .imul, 1), (235, .iadd, 1), (236, .goto 30, 3), (239, .iload_n 2, 1), (240, .bipush 8, 2), (242, .if_icmp .ne 9, 3), (245, .sipush 139, 3), (248, .goto 18, 3), (251, .iload_n 2, 1), (252, .bipush 10, 2), (254, .if_icmp .ne 9, 3), (257, .sipush 141, 3), (260, .goto 6, 3), (263, .sipush 175, 3), (266, .invokevirtual 232, 3), (269, .aload_n 0, 1), (270, .iload_n 3, 1), (271, .iload 4, 2), (273, .aload_n 0, 1), (274, .getfield 38, 3), (277, .iload_n 1, 1), (278, .iaload, 1), (279, .invokevirtual 249, 3), (282, .goto 109, 3), (285, .aload_n 0, 1), (286, .iload_n 2, 1), (287, .invokestatic 245, 3), (290, .invokevirtual 232, 3), (293, .aload_n 0, 1), (294, .iload_n 3, 1), (295, .iload 4, 2), (297, .aload_n 0, 1), (298, .getfield 38, 3), (301, .iload_n 1, 1), (302, .iaload, 1), (303, .invokevirtual 249, 3), (306, .goto 85, 3), (309, .aload_n 0, 1), (310, .sipush 247, 3), (313, .invokevirtual 232, 3), (316, .aload_n 0, 1), (317, .iload_n 2, 1), (318, .bipush 10, 2), (320, .isub, 1), (321, .iload 4, 2), (323, .aload_n 0, 1), (324, .getfield 38, 3), (327, .iload_n 1, 1), (328, .iaload, 1), (329, .invokevirtual 249, 3), (332, .goto 59, 3), (335, .aload_n 0, 1), (336, .iload 5, 2), (338, .invokestatic 238, 3), (341, .ifCond .eq 8, 3), (344, .bipush 106, 2), (346, .goto 5, 3), (349, .bipush 104, 2), (351, .invokevirtual 232, 3), (354, .iload 5, 2), (356, .invokestatic 238, 3), (359, .ifCond .eq 12, 3), (362, .aload_n 0, 1), (363, .iload 5, 2), (365, .invokevirtual 232, 3), (368, .goto 23, 3), (371, .aload_n 0, 1), (372, .iload 5, 2), (374, .invokevirtual 235, 3), (377, .goto 14, 3), (380, .aload_n 0, 1), (381, .iload_n 1, 1), (382, .iload_n 2, 1), (383, .iload_n 3, 1), (384, .iload 4, 2), (386, .iload 5, 2), (388, .invokevirtual 253, 3), (391, .return_, 1)]
set_option maxRecDepth 100000 in
theorem dk_Mo_encode : ∀ q ∈ dl_Mo_encode, decode prog_14_method_39_code q.1 = .ok q.2 := by decide +kernel
abbrev rm_Mo_encode : Room := { frames := 4, cells := 0, slots := 0, locals := 99 }
theorem cw_Mo_encode : CWV y_Mo_encode prog_14_method_39_code 6 none 1 := ⟨⟨g_7_137, g_1_13, by decide, by decide, by decide +kernel⟩, g_7_136, gs_6_1⟩
set_option maxHeartbeats 4000000 in
set_option maxRecDepth 100000 in
theorem t_Mo_encode_B126 {k : Cfg} {res : St} (C : Cx k prog_14_method_39_code "BundleHouseModel") (hR : RV k res) (hRm : k.2.2.2.1 = rm_Mo_encode) (hnL : k.2.2.2.2.2.2.2.2.2.2.2.1 = 6) (v0 : Nat) (v2 : Int32) (v3 : Int32) (ho_v0 : kd v0 = 12) (σ : St) (h : Mo_encode_B126 v0 v2 v3 σ = some res) : WW k 126 [(0, .ref (ad k v0)), (2, .int v2), (3, .int v3)] [] σ := by
  unfold Mo_encode_B126 at h
  refine ww_aload_n C 0 rfl rfl (dq dk_Mo_encode 43 rfl) ?_
  refine ww_sipush C (dq dk_Mo_encode 44 rfl) sp_247 ?_
  refine ww_cVv (st := []) C (c_Mo_put v0 ho_v0 247) cw_Mo_put ho_v0 (lt_ rfl) rfl g_7_138 hRm ⟨⟨rfl, rfl⟩, le_ rfl, le_ rfl⟩ rfl rfl rfl (le_ rfl) (dq dk_Mo_encode 45 rfl) h (fun σ1 h => ?_)
  refine ww_aload_n C 0 rfl rfl (dq dk_Mo_encode 46 rfl) ?_
  refine ww_iload_n C 1 rfl rfl (dq dk_Mo_encode 47 rfl) ?_
  refine ww_bipush C (dq dk_Mo_encode 48 rfl) bp_10 ?_
  refine ww_isub C (dq dk_Mo_encode 49 rfl) ?_
  refine ww_iload_n C 2 rfl rfl (dq dk_Mo_encode 50 rfl) ?_
  refine ww_cVv (st := []) C (c_Mo_putRegister v0 ho_v0 (v2 - 10) v3) cw_Mo_putRegister ho_v0 (lt_ rfl) rfl g_7_142 hRm ⟨⟨rfl, rfl⟩, le_ rfl, le_ rfl⟩ rfl rfl rfl (le_ rfl) (dq dk_Mo_encode 51 rfl) h (fun σ2 h => ?_)
  refine ww_goto C 391 (dq dk_Mo_encode 52 rfl) (by decide) ?_
  exact ww_vret C hR (dq dk_Mo_encode 178 rfl) h
set_option maxHeartbeats 4000000 in
set_option maxRecDepth 100000 in
theorem t_Mo_encode_B266 {k : Cfg} {res : St} (C : Cx k prog_14_method_39_code "BundleHouseModel") (hR : RV k res) (hRm : k.2.2.2.1 = rm_Mo_encode) (hnL : k.2.2.2.2.2.2.2.2.2.2.2.1 = 6) (v0 : Nat) (v1 : Int32) (v3 : Int32) (v4 : Int32) (t0 : Nat) (t1 : Int32) (ho_v0 : kd v0 = 12) (ho_t0 : kd t0 = 12) (σ : St) (h : Mo_encode_B266 v0 v1 v3 v4 t0 t1 σ = some res) : WW k 266 [(0, .ref (ad k v0)), (1, .int v1), (3, .int v3), (4, .int v4)] [.int t1, .ref (ad k t0)] σ := by
  unfold Mo_encode_B266 at h
  refine ww_cVv (st := []) C (c_Mo_put t0 ho_t0 t1) cw_Mo_put ho_t0 (lt_ rfl) rfl g_7_138 hRm ⟨⟨rfl, rfl⟩, le_ rfl, le_ rfl⟩ rfl rfl rfl (le_ rfl) (dq dk_Mo_encode 115 rfl) h (fun σ1 h => ?_)
  refine ww_aload_n C 0 rfl rfl (dq dk_Mo_encode 116 rfl) ?_
  refine ww_iload_n C 2 rfl rfl (dq dk_Mo_encode 117 rfl) ?_
  refine ww_iload C 3 rfl (dq dk_Mo_encode 118 rfl) ?_
  refine ww_aload_n C 0 rfl rfl (dq dk_Mo_encode 119 rfl) ?_
  refine ww_getr C ko_Mo 16 ho_v0 (lt_ rfl) g_6_66 rfl rfl (dq dk_Mo_encode 120 rfl) ?_
  refine ww_iload_n C 1 rfl rfl (dq dk_Mo_encode 121 rfl) ?_
  refine ww_iald C (kc_Mo_16 _ ho_v0).1 (kc_Mo_16 _ ho_v0).2 (dq dk_Mo_encode 122 rfl) h (fun x2 h => ?_)
  refine ww_cVv (st := []) C (c_Mo_putMemory v0 ho_v0 v3 v4 x2) cw_Mo_putMemory ho_v0 (lt_ rfl) rfl g_7_149 hRm ⟨⟨rfl, rfl⟩, le_ rfl, le_ rfl⟩ rfl rfl rfl (le_ rfl) (dq dk_Mo_encode 123 rfl) h (fun σ3 h => ?_)
  refine ww_goto C 391 (dq dk_Mo_encode 124 rfl) (by decide) ?_
  exact ww_vret C hR (dq dk_Mo_encode 178 rfl) h
set_option maxHeartbeats 4000000 in
set_option maxRecDepth 100000 in
theorem t_Mo_encode_B223 {k : Cfg} {res : St} (C : Cx k prog_14_method_39_code "BundleHouseModel") (hR : RV k res) (hRm : k.2.2.2.1 = rm_Mo_encode) (hnL : k.2.2.2.2.2.2.2.2.2.2.2.1 = 6) (v0 : Nat) (v1 : Int32) (v2 : Int32) (v3 : Int32) (v4 : Int32) (ho_v0 : kd v0 = 12) (σ : St) (h : Mo_encode_B223 v0 v1 v2 v3 v4 σ = some res) : WW k 223 [(0, .ref (ad k v0)), (1, .int v1), (2, .int v2), (3, .int v3), (4, .int v4)] [] σ := by
  unfold Mo_encode_B223 at h
  refine ww_aload_n C 0 rfl rfl (dq dk_Mo_encode 94 rfl) ?_
  refine ww_iload_n C 2 rfl rfl (dq dk_Mo_encode 95 rfl) ?_
  refine ww_bipush C (dq dk_Mo_encode 96 rfl) bp_8 ?_
  refine ww_icmp_ge C 239 (dq dk_Mo_encode 97 rfl) (by decide) h (fun h => ?_) (fun h => ?_)
  · refine ww_iload_n C 2 rfl rfl (dq dk_Mo_encode 104 rfl) ?_
    refine ww_bipush C (dq dk_Mo_encode 105 rfl) bp_8 ?_
    refine ww_icmp_ne C 251 (dq dk_Mo_encode 106 rfl) (by decide) h (fun h => ?_) (fun h => ?_)
    · refine ww_iload_n C 2 rfl rfl (dq dk_Mo_encode 109 rfl) ?_
      refine ww_bipush C (dq dk_Mo_encode 110 rfl) bp_10 ?_
      refine ww_icmp_ne C 263 (dq dk_Mo_encode 111 rfl) (by decide) h (fun h => ?_) (fun h => ?_)
      · refine ww_sipush C (dq dk_Mo_encode 114 rfl) sp_175 ?_
        exact ww_lv [0, 1, 3, 4] rfl (t_Mo_encode_B266 C hR hRm hnL v0 v1 v3 v4 v0 175 ho_v0 ho_v0 σ h)
      · refine ww_sipush C (dq dk_Mo_encode 112 rfl) sp_141 ?_
        refine ww_goto C 266 (dq dk_Mo_encode 113 rfl) (by decide) ?_
        exact ww_lv [0, 1, 3, 4] rfl (t_Mo_encode_B266 C hR hRm hnL v0 v1 v3 v4 v0 141 ho_v0 ho_v0 σ h)
    · refine ww_sipush C (dq dk_Mo_encode 107 rfl) sp_139 ?_
      refine ww_goto C 266 (dq dk_Mo_encode 108 rfl) (by decide) ?_
      exact ww_lv [0, 1, 3, 4] rfl (t_Mo_encode_B266 C hR hRm hnL v0 v1 v3 v4 v0 139 ho_v0 ho_v0 σ h)
  · refine ww_iconst C (dq dk_Mo_encode 98 rfl) ic_3 ?_
    refine ww_bipush C (dq dk_Mo_encode 99 rfl) bp_8 ?_
    refine ww_iload_n C 2 rfl rfl (dq dk_Mo_encode 100 rfl) ?_
    refine ww_imul C (dq dk_Mo_encode 101 rfl) ?_
    refine ww_iadd C (dq dk_Mo_encode 102 rfl) ?_
    refine ww_goto C 266 (dq dk_Mo_encode 103 rfl) (by decide) ?_
    exact ww_lv [0, 1, 3, 4] rfl (t_Mo_encode_B266 C hR hRm hnL v0 v1 v3 v4 v0 (3 + (8 * v2)) ho_v0 ho_v0 σ h)
set_option maxHeartbeats 4000000 in
set_option maxRecDepth 100000 in
theorem t_Mo_encode_B351 {k : Cfg} {res : St} (C : Cx k prog_14_method_39_code "BundleHouseModel") (hR : RV k res) (hRm : k.2.2.2.1 = rm_Mo_encode) (hnL : k.2.2.2.2.2.2.2.2.2.2.2.1 = 6) (v0 : Nat) (v5 : Int32) (t0 : Nat) (t1 : Int32) (ho_v0 : kd v0 = 12) (ho_t0 : kd t0 = 12) (σ : St) (h : Mo_encode_B351 v0 v5 t0 t1 σ = some res) : WW k 351 [(0, .ref (ad k v0)), (5, .int v5)] [.int t1, .ref (ad k t0)] σ := by
  unfold Mo_encode_B351 at h
  refine ww_cVv (st := []) C (c_Mo_put t0 ho_t0 t1) cw_Mo_put ho_t0 (lt_ rfl) rfl g_7_138 hRm ⟨⟨rfl, rfl⟩, le_ rfl, le_ rfl⟩ rfl rfl rfl (le_ rfl) (dq dk_Mo_encode 159 rfl) h (fun σ1 h => ?_)
  refine ww_iload C 1 rfl (dq dk_Mo_encode 160 rfl) ?_
  refine ww_cSi (st := []) C (c_Mo_isSmall v5) cw_Mo_isSmall g_7_157 hRm ⟨⟨rfl, rfl⟩, le_ rfl, le_ rfl⟩ rfl rfl rfl (le_ rfl) (dq dk_Mo_encode 161 rfl) h (fun x3 σ2 h => ?_)
  refine ww_if_eq C 371 (dq dk_Mo_encode 162 rfl) (by decide) h (fun h => ?_) (fun h => ?_)
  · refine ww_aload_n C 0 rfl rfl (dq dk_Mo_encode 167 rfl) ?_
    refine ww_iload C 1 rfl (dq dk_Mo_encode 168 rfl) ?_
    refine ww_cVv (st := []) C (c_Mo_putFour v0 ho_v0 v5) cw_Mo_putFour ho_v0 (lt_ rfl) rfl g_7_153 hRm ⟨⟨rfl, rfl⟩, le_ rfl, le_ rfl⟩ rfl rfl rfl (le_ rfl) (dq dk_Mo_encode 169 rfl) h (fun σ4 h => ?_)
    refine ww_goto C 391 (dq dk_Mo_encode 170 rfl) (by decide) ?_
    exact ww_vret C hR (dq dk_Mo_encode 178 rfl) h
  · refine ww_aload_n C 0 rfl rfl (dq dk_Mo_encode 163 rfl) ?_
    refine ww_iload C 1 rfl (dq dk_Mo_encode 164 rfl) ?_
    refine ww_cVv (st := []) C (c_Mo_put v0 ho_v0 v5) cw_Mo_put ho_v0 (lt_ rfl) rfl g_7_138 hRm ⟨⟨rfl, rfl⟩, le_ rfl, le_ rfl⟩ rfl rfl rfl (le_ rfl) (dq dk_Mo_encode 165 rfl) h (fun σ5 h => ?_)
    refine ww_goto C 391 (dq dk_Mo_encode 166 rfl) (by decide) ?_
    exact ww_vret C hR (dq dk_Mo_encode 178 rfl) h
set_option maxHeartbeats 4000000 in
set_option maxRecDepth 100000 in
theorem t_Mo_encode_B380 {k : Cfg} {res : St} (C : Cx k prog_14_method_39_code "BundleHouseModel") (hR : RV k res) (hRm : k.2.2.2.1 = rm_Mo_encode) (hnL : k.2.2.2.2.2.2.2.2.2.2.2.1 = 6) (v0 : Nat) (v1 : Int32) (v2 : Int32) (v3 : Int32) (v4 : Int32) (v5 : Int32) (ho_v0 : kd v0 = 12) (σ : St) (h : Mo_encode_B380 v0 v1 v2 v3 v4 v5 σ = some res) : WW k 380 [(0, .ref (ad k v0)), (1, .int v1), (2, .int v2), (3, .int v3), (4, .int v4), (5, .int v5)] [] σ := by
  unfold Mo_encode_B380 at h
  refine ww_aload_n C 0 rfl rfl (dq dk_Mo_encode 171 rfl) ?_
  refine ww_iload_n C 1 rfl rfl (dq dk_Mo_encode 172 rfl) ?_
  refine ww_iload_n C 2 rfl rfl (dq dk_Mo_encode 173 rfl) ?_
  refine ww_iload_n C 3 rfl rfl (dq dk_Mo_encode 174 rfl) ?_
  refine ww_iload C 4 rfl (dq dk_Mo_encode 175 rfl) ?_
  refine ww_iload C 5 rfl (dq dk_Mo_encode 176 rfl) ?_
  refine ww_cVv (st := []) C (c_Mo_encodeNumber v0 ho_v0 v1 v2 v3 v4 v5) cw_Mo_encodeNumber ho_v0 (lt_ rfl) rfl g_7_160 hRm ⟨⟨rfl, rfl⟩, le_ rfl, le_ rfl⟩ rfl rfl rfl (le_ rfl) (dq dk_Mo_encode 177 rfl) h (fun σ1 h => ?_)
  exact ww_vret C hR (dq dk_Mo_encode 178 rfl) h
set_option maxHeartbeats 4000000 in
set_option maxRecDepth 100000 in
theorem c_Mo_encode (v0 : Nat) (ho_v0 : kd v0 = 12) (v1 : Int32) : MV y_Mo_encode rm_Mo_encode prog_14_method_39_code 6 (fun a => [.ref (a v0), .int v1]) (Mo_encode v0 v1) := by
  refine mv_of (by decide) (fun _ => le_ rfl) ?_
  intro k res σ C hR hRm hnL h
  unfold Mo_encode at h
  show WW k 0 [(0, .ref (ad k v0)), (1, .int v1)] [] σ
  refine ww_aload_n C 0 rfl rfl (dq dk_Mo_encode 0 rfl) ?_
  refine ww_getr C ko_Mo 12 ho_v0 (lt_ rfl) g_6_62 rfl rfl (dq dk_Mo_encode 1 rfl) ?_
  refine ww_iload_n C 1 rfl rfl (dq dk_Mo_encode 2 rfl) ?_
  refine ww_iald C (kc_Mo_12 _ ho_v0).1 (kc_Mo_12 _ ho_v0).2 (dq dk_Mo_encode 3 rfl) h (fun x1 h => ?_)
  refine ww_istore_n C [(2, .int x1), (0, .ref (ad k v0)), (1, .int v1)] rfl hnL (lt_ rfl) rfl (dq dk_Mo_encode 4 rfl) ?_
  refine ww_aload_n C 1 rfl rfl (dq dk_Mo_encode 5 rfl) ?_
  refine ww_getr C ko_Mo 14 ho_v0 (lt_ rfl) g_6_64 rfl rfl (dq dk_Mo_encode 6 rfl) ?_
  refine ww_iload_n C 2 rfl rfl (dq dk_Mo_encode 7 rfl) ?_
  refine ww_iald C (kc_Mo_14 _ ho_v0).1 (kc_Mo_14 _ ho_v0).2 (dq dk_Mo_encode 8 rfl) h (fun x2 h => ?_)
  refine ww_istore_n C [(3, .int x2), (2, .int x1), (0, .ref (ad k v0)), (1, .int v1)] rfl hnL (lt_ rfl) rfl (dq dk_Mo_encode 9 rfl) ?_
  refine ww_aload_n C 2 rfl rfl (dq dk_Mo_encode 10 rfl) ?_
  refine ww_getr C ko_Mo 15 ho_v0 (lt_ rfl) g_6_65 rfl rfl (dq dk_Mo_encode 11 rfl) ?_
  refine ww_iload_n C 3 rfl rfl (dq dk_Mo_encode 12 rfl) ?_
  refine ww_iald C (kc_Mo_15 _ ho_v0).1 (kc_Mo_15 _ ho_v0).2 (dq dk_Mo_encode 13 rfl) h (fun x3 h => ?_)
  refine ww_istore C [(4, .int x3), (3, .int x2), (2, .int x1), (0, .ref (ad k v0)), (1, .int v1)] hnL (lt_ rfl) rfl (dq dk_Mo_encode 14 rfl) ?_
  refine ww_aload_n C 3 rfl rfl (dq dk_Mo_encode 15 rfl) ?_
  refine ww_getr C ko_Mo 17 ho_v0 (lt_ rfl) g_6_67 rfl rfl (dq dk_Mo_encode 16 rfl) ?_
  refine ww_iload_n C 4 rfl rfl (dq dk_Mo_encode 17 rfl) ?_
  refine ww_iald C (kc_Mo_17 _ ho_v0).1 (kc_Mo_17 _ ho_v0).2 (dq dk_Mo_encode 18 rfl) h (fun x4 h => ?_)
  refine ww_istore C [(5, .int x4), (4, .int x3), (3, .int x2), (2, .int x1), (0, .ref (ad k v0)), (1, .int v1)] hnL (lt_ rfl) rfl (dq dk_Mo_encode 19 rfl) ?_
  refine ww_aload_n C 4 rfl rfl (dq dk_Mo_encode 20 rfl) ?_
  refine ww_iconst C (dq dk_Mo_encode 21 rfl) ic_0 ?_
  refine ww_puti C ko_Mo 25 ho_v0 (lt_ rfl) g_6_75 rfl rfl rfl rfl (dq dk_Mo_encode 22 rfl) h (fun σ5 h => ?_)
  refine ww_aload_n C 4 rfl rfl (dq dk_Mo_encode 23 rfl) ?_
  refine ww_getr C ko_Mo 13 ho_v0 (lt_ rfl) g_6_63 rfl rfl (dq dk_Mo_encode 24 rfl) ?_
  refine ww_iload_n C 5 rfl rfl (dq dk_Mo_encode 25 rfl) ?_
  refine ww_iald C (kc_Mo_13 _ ho_v0).1 (kc_Mo_13 _ ho_v0).2 (dq dk_Mo_encode 26 rfl) h (fun x6 h => ?_)
  by_cases e0_0 : x6 = 0
  · rw [if_pos e0_0] at h
    refine ww_tabIn C 92 (dq dk_Mo_encode 27 rfl) (by rw [e0_0]; decide) (by rw [e0_0]; decide) (by rw [e0_0]; rfl) (by decide) ?_
    refine ww_aload_n C 4 rfl rfl (dq dk_Mo_encode 28 rfl) ?_
    refine ww_iload_n C 3 rfl rfl (dq dk_Mo_encode 29 rfl) ?_
    refine ww_bipush C (dq dk_Mo_encode 30 rfl) bp_21 ?_
    refine ww_icmp_ne C 105 (dq dk_Mo_encode 31 rfl) (by decide) h (fun h => ?_) (fun h => ?_)
    · refine ww_sipush C (dq dk_Mo_encode 34 rfl) sp_244 ?_
      refine ww_cVv (st := []) C (c_Mo_put v0 ho_v0 244) cw_Mo_put ho_v0 (lt_ rfl) rfl g_7_138 hRm ⟨⟨rfl, rfl⟩, le_ rfl, le_ rfl⟩ rfl rfl rfl (le_ rfl) (dq dk_Mo_encode 35 rfl) h (fun σ7 h => ?_)
      refine ww_goto C 391 (dq dk_Mo_encode 36 rfl) (by decide) ?_
      exact ww_vret C hR (dq dk_Mo_encode 178 rfl) h
    · refine ww_sipush C (dq dk_Mo_encode 32 rfl) sp_144 ?_
      refine ww_goto C 108 (dq dk_Mo_encode 33 rfl) (by decide) ?_
      refine ww_cVv (st := []) C (c_Mo_put v0 ho_v0 144) cw_Mo_put ho_v0 (lt_ rfl) rfl g_7_138 hRm ⟨⟨rfl, rfl⟩, le_ rfl, le_ rfl⟩ rfl rfl rfl (le_ rfl) (dq dk_Mo_encode 35 rfl) h (fun σ8 h => ?_)
      refine ww_goto C 391 (dq dk_Mo_encode 36 rfl) (by decide) ?_
      exact ww_vret C hR (dq dk_Mo_encode 178 rfl) h
  rw [if_neg e0_0] at h
  by_cases e1_1 : x6 = 1
  · rw [if_pos e1_1] at h
    refine ww_tabIn C 114 (dq dk_Mo_encode 27 rfl) (by rw [e1_1]; decide) (by rw [e1_1]; decide) (by rw [e1_1]; rfl) (by decide) ?_
    refine ww_iload_n C 3 rfl rfl (dq dk_Mo_encode 37 rfl) ?_
    refine ww_bipush C (dq dk_Mo_encode 38 rfl) bp_12 ?_
    refine ww_icmp_eq C 126 (dq dk_Mo_encode 39 rfl) (by decide) h (fun h => ?_) (fun h => ?_)
    · exact ww_lv [4, 3, 2] rfl (t_Mo_encode_B126 C hR hRm hnL v0 x1 x2 ho_v0 σ5 h)
    · refine ww_iload_n C 3 rfl rfl (dq dk_Mo_encode 40 rfl) ?_
      refine ww_bipush C (dq dk_Mo_encode 41 rfl) bp_13 ?_
      refine ww_icmp_ne C 145 (dq dk_Mo_encode 42 rfl) (by decide) h (fun h => ?_) (fun h => ?_)
      · refine ww_aload_n C 4 rfl rfl (dq dk_Mo_encode 53 rfl) ?_
        refine ww_bipush C (dq dk_Mo_encode 54 rfl) bp_64 ?_
        refine ww_bipush C (dq dk_Mo_encode 55 rfl) bp_8 ?_
        refine ww_iload_n C 3 rfl rfl (dq dk_Mo_encode 56 rfl) ?_
        refine ww_bipush C (dq dk_Mo_encode 57 rfl) bp_17 ?_
        refine ww_isub C (dq dk_Mo_encode 58 rfl) ?_
        refine ww_imul C (dq dk_Mo_encode 59 rfl) ?_
        refine ww_iadd C (dq dk_Mo_encode 60 rfl) ?_
        refine ww_iload_n C 2 rfl rfl (dq dk_Mo_encode 61 rfl) ?_
        refine ww_iadd C (dq dk_Mo_encode 62 rfl) ?_
        refine ww_cVv (st := []) C (c_Mo_put v0 ho_v0 ((64 + (8 * (x1 - 17))) + x2)) cw_Mo_put ho_v0 (lt_ rfl) rfl g_7_138 hRm ⟨⟨rfl, rfl⟩, le_ rfl, le_ rfl⟩ rfl rfl rfl (le_ rfl) (dq dk_Mo_encode 63 rfl) h (fun σ9 h => ?_)
        refine ww_goto C 391 (dq dk_Mo_encode 64 rfl) (by decide) ?_
        exact ww_vret C hR (dq dk_Mo_encode 178 rfl) h
      · exact ww_lv [4, 3, 2] rfl (t_Mo_encode_B126 C hR hRm hnL v0 x1 x2 ho_v0 σ5 h)
  rw [if_neg e1_1] at h
  by_cases e2_2 : x6 = 2
  · rw [if_pos e2_2] at h
    refine ww_tabIn C 164 (dq dk_Mo_encode 27 rfl) (by rw [e2_2]; decide) (by rw [e2_2]; decide) (by rw [e2_2]; rfl) (by decide) ?_
    refine ww_iload_n C 3 rfl rfl (dq dk_Mo_encode 65 rfl) ?_
    refine ww_bipush C (dq dk_Mo_encode 66 rfl) bp_11 ?_
    refine ww_icmp_ne C 193 (dq dk_Mo_encode 67 rfl) (by decide) h (fun h => ?_) (fun h => ?_)
    · refine ww_aload_n C 4 rfl rfl (dq dk_Mo_encode 79 rfl) ?_
      refine ww_iload_n C 3 rfl rfl (dq dk_Mo_encode 80 rfl) ?_
      refine ww_cSi (st := [.ref (ad k v0)]) C (c_Mo_leftCode x1) cw_Mo_leftCode g_7_146 hRm ⟨⟨rfl, rfl⟩, le_ rfl, le_ rfl⟩ rfl rfl rfl (le_ rfl) (dq dk_Mo_encode 81 rfl) h (fun x11 σ10 h => ?_)
      refine ww_cVv (st := []) C (c_Mo_put v0 ho_v0 x11) cw_Mo_put ho_v0 (lt_ rfl) rfl g_7_138 hRm ⟨⟨rfl, rfl⟩, le_ rfl, le_ rfl⟩ rfl rfl rfl (le_ rfl) (dq dk_Mo_encode 82 rfl) h (fun σ12 h => ?_)
      refine ww_aload_n C 4 rfl rfl (dq dk_Mo_encode 83 rfl) ?_
      refine ww_iload C 1 rfl (dq dk_Mo_encode 84 rfl) ?_
      refine ww_iload_n C 2 rfl rfl (dq dk_Mo_encode 85 rfl) ?_
      refine ww_cVv (st := []) C (c_Mo_putRegister v0 ho_v0 x3 x2) cw_Mo_putRegister ho_v0 (lt_ rfl) rfl g_7_142 hRm ⟨⟨rfl, rfl⟩, le_ rfl, le_ rfl⟩ rfl rfl rfl (le_ rfl) (dq dk_Mo_encode 86 rfl) h (fun σ13 h => ?_)
      refine ww_goto C 391 (dq dk_Mo_encode 87 rfl) (by decide) ?_
      exact ww_vret C hR (dq dk_Mo_encode 178 rfl) h
    · refine ww_aload_n C 4 rfl rfl (dq dk_Mo_encode 68 rfl) ?_
      refine ww_bipush C (dq dk_Mo_encode 69 rfl) bp_15 ?_
      refine ww_cVv (st := []) C (c_Mo_put v0 ho_v0 15) cw_Mo_put ho_v0 (lt_ rfl) rfl g_7_138 hRm ⟨⟨rfl, rfl⟩, le_ rfl, le_ rfl⟩ rfl rfl rfl (le_ rfl) (dq dk_Mo_encode 70 rfl) h (fun σ14 h => ?_)
      refine ww_aload_n C 4 rfl rfl (dq dk_Mo_encode 71 rfl) ?_
      refine ww_sipush C (dq dk_Mo_encode 72 rfl) sp_175 ?_
      refine ww_cVv (st := []) C (c_Mo_put v0 ho_v0 175) cw_Mo_put ho_v0 (lt_ rfl) rfl g_7_138 hRm ⟨⟨rfl, rfl⟩, le_ rfl, le_ rfl⟩ rfl rfl rfl (le_ rfl) (dq dk_Mo_encode 73 rfl) h (fun σ15 h => ?_)
      refine ww_aload_n C 4 rfl rfl (dq dk_Mo_encode 74 rfl) ?_
      refine ww_iload_n C 2 rfl rfl (dq dk_Mo_encode 75 rfl) ?_
      refine ww_iload C 1 rfl (dq dk_Mo_encode 76 rfl) ?_
      refine ww_cVv (st := []) C (c_Mo_putRegister v0 ho_v0 x2 x3) cw_Mo_putRegister ho_v0 (lt_ rfl) rfl g_7_142 hRm ⟨⟨rfl, rfl⟩, le_ rfl, le_ rfl⟩ rfl rfl rfl (le_ rfl) (dq dk_Mo_encode 77 rfl) h (fun σ16 h => ?_)
      refine ww_goto C 391 (dq dk_Mo_encode 78 rfl) (by decide) ?_
      exact ww_vret C hR (dq dk_Mo_encode 178 rfl) h
  rw [if_neg e2_2] at h
  by_cases e3_3 : x6 = 3
  · rw [if_pos e3_3] at h
    refine ww_tabIn C 211 (dq dk_Mo_encode 27 rfl) (by rw [e3_3]; decide) (by rw [e3_3]; decide) (by rw [e3_3]; rfl) (by decide) ?_
    refine ww_iload_n C 3 rfl rfl (dq dk_Mo_encode 88 rfl) ?_
    refine ww_bipush C (dq dk_Mo_encode 89 rfl) bp_11 ?_
    refine ww_icmp_ne C 223 (dq dk_Mo_encode 90 rfl) (by decide) h (fun h => ?_) (fun h => ?_)
    · exact ww_lv [4, 5, 3, 2, 1] rfl (t_Mo_encode_B223 C hR hRm hnL v0 v1 x1 x2 x3 ho_v0 σ5 h)
    · refine ww_aload_n C 4 rfl rfl (dq dk_Mo_encode 91 rfl) ?_
      refine ww_bipush C (dq dk_Mo_encode 92 rfl) bp_15 ?_
      refine ww_cVv (st := []) C (c_Mo_put v0 ho_v0 15) cw_Mo_put ho_v0 (lt_ rfl) rfl g_7_138 hRm ⟨⟨rfl, rfl⟩, le_ rfl, le_ rfl⟩ rfl rfl rfl (le_ rfl) (dq dk_Mo_encode 93 rfl) h (fun σ17 h => ?_)
      exact ww_lv [4, 5, 3, 2, 1] rfl (t_Mo_encode_B223 C hR hRm hnL v0 v1 x1 x2 x3 ho_v0 σ17 h)
  rw [if_neg e3_3] at h
  by_cases e4_4 : x6 = 4
  · rw [if_pos e4_4] at h
    refine ww_tabIn C 285 (dq dk_Mo_encode 27 rfl) (by rw [e4_4]; decide) (by rw [e4_4]; decide) (by rw [e4_4]; rfl) (by decide) ?_
    refine ww_aload_n C 4 rfl rfl (dq dk_Mo_encode 125 rfl) ?_
    refine ww_iload_n C 3 rfl rfl (dq dk_Mo_encode 126 rfl) ?_
    refine ww_cSi (st := [.ref (ad k v0)]) C (c_Mo_leftCode x1) cw_Mo_leftCode g_7_146 hRm ⟨⟨rfl, rfl⟩, le_ rfl, le_ rfl⟩ rfl rfl rfl (le_ rfl) (dq dk_Mo_encode 127 rfl) h (fun x19 σ18 h => ?_)
    refine ww_cVv (st := []) C (c_Mo_put v0 ho_v0 x19) cw_Mo_put ho_v0 (lt_ rfl) rfl g_7_138 hRm ⟨⟨rfl, rfl⟩, le_ rfl, le_ rfl⟩ rfl rfl rfl (le_ rfl) (dq dk_Mo_encode 128 rfl) h (fun σ20 h => ?_)
    refine ww_aload_n C 4 rfl rfl (dq dk_Mo_encode 129 rfl) ?_
    refine ww_iload_n C 2 rfl rfl (dq dk_Mo_encode 130 rfl) ?_
    refine ww_iload C 1 rfl (dq dk_Mo_encode 131 rfl) ?_
    refine ww_aload_n C 4 rfl rfl (dq dk_Mo_encode 132 rfl) ?_
    refine ww_getr C ko_Mo 16 ho_v0 (lt_ rfl) g_6_66 rfl rfl (dq dk_Mo_encode 133 rfl) ?_
    refine ww_iload_n C 5 rfl rfl (dq dk_Mo_encode 134 rfl) ?_
    refine ww_iald C (kc_Mo_16 _ ho_v0).1 (kc_Mo_16 _ ho_v0).2 (dq dk_Mo_encode 135 rfl) h (fun x21 h => ?_)
    refine ww_cVv (st := []) C (c_Mo_putMemory v0 ho_v0 x2 x3 x21) cw_Mo_putMemory ho_v0 (lt_ rfl) rfl g_7_149 hRm ⟨⟨rfl, rfl⟩, le_ rfl, le_ rfl⟩ rfl rfl rfl (le_ rfl) (dq dk_Mo_encode 136 rfl) h (fun σ22 h => ?_)
    refine ww_goto C 391 (dq dk_Mo_encode 137 rfl) (by decide) ?_
    exact ww_vret C hR (dq dk_Mo_encode 178 rfl) h
  rw [if_neg e4_4] at h
  by_cases e5_5 : x6 = 5
  · rw [if_pos e5_5] at h
    refine ww_tabIn C 380 (dq dk_Mo_encode 27 rfl) (by rw [e5_5]; decide) (by rw [e5_5]; decide) (by rw [e5_5]; rfl) (by decide) ?_
    exact ww_lv [4, 5, 3, 2, 1, 0] rfl (t_Mo_encode_B380 C hR hRm hnL v0 v1 x1 x2 x3 x4 ho_v0 σ5 h)
  rw [if_neg e5_5] at h
  by_cases e6_6 : x6 = 6
  · rw [if_pos e6_6] at h
    refine ww_tabIn C 380 (dq dk_Mo_encode 27 rfl) (by rw [e6_6]; decide) (by rw [e6_6]; decide) (by rw [e6_6]; rfl) (by decide) ?_
    exact ww_lv [4, 5, 3, 2, 1, 0] rfl (t_Mo_encode_B380 C hR hRm hnL v0 v1 x1 x2 x3 x4 ho_v0 σ5 h)
  rw [if_neg e6_6] at h
  by_cases e7_7 : x6 = 7
  · rw [if_pos e7_7] at h
    refine ww_tabIn C 309 (dq dk_Mo_encode 27 rfl) (by rw [e7_7]; decide) (by rw [e7_7]; decide) (by rw [e7_7]; rfl) (by decide) ?_
    refine ww_aload_n C 4 rfl rfl (dq dk_Mo_encode 138 rfl) ?_
    refine ww_sipush C (dq dk_Mo_encode 139 rfl) sp_247 ?_
    refine ww_cVv (st := []) C (c_Mo_put v0 ho_v0 247) cw_Mo_put ho_v0 (lt_ rfl) rfl g_7_138 hRm ⟨⟨rfl, rfl⟩, le_ rfl, le_ rfl⟩ rfl rfl rfl (le_ rfl) (dq dk_Mo_encode 140 rfl) h (fun σ23 h => ?_)
    refine ww_aload_n C 4 rfl rfl (dq dk_Mo_encode 141 rfl) ?_
    refine ww_iload_n C 3 rfl rfl (dq dk_Mo_encode 142 rfl) ?_
    refine ww_bipush C (dq dk_Mo_encode 143 rfl) bp_10 ?_
    refine ww_isub C (dq dk_Mo_encode 144 rfl) ?_
    refine ww_iload C 1 rfl (dq dk_Mo_encode 145 rfl) ?_
    refine ww_aload_n C 4 rfl rfl (dq dk_Mo_encode 146 rfl) ?_
    refine ww_getr C ko_Mo 16 ho_v0 (lt_ rfl) g_6_66 rfl rfl (dq dk_Mo_encode 147 rfl) ?_
    refine ww_iload_n C 5 rfl rfl (dq dk_Mo_encode 148 rfl) ?_
    refine ww_iald C (kc_Mo_16 _ ho_v0).1 (kc_Mo_16 _ ho_v0).2 (dq dk_Mo_encode 149 rfl) h (fun x24 h => ?_)
    refine ww_cVv (st := []) C (c_Mo_putMemory v0 ho_v0 (x1 - 10) x3 x24) cw_Mo_putMemory ho_v0 (lt_ rfl) rfl g_7_149 hRm ⟨⟨rfl, rfl⟩, le_ rfl, le_ rfl⟩ rfl rfl rfl (le_ rfl) (dq dk_Mo_encode 150 rfl) h (fun σ25 h => ?_)
    refine ww_goto C 391 (dq dk_Mo_encode 151 rfl) (by decide) ?_
    exact ww_vret C hR (dq dk_Mo_encode 178 rfl) h
  rw [if_neg e7_7] at h
  by_cases e8_8 : x6 = 8
  · rw [if_pos e8_8] at h
    refine ww_tabIn C 335 (dq dk_Mo_encode 27 rfl) (by rw [e8_8]; decide) (by rw [e8_8]; decide) (by rw [e8_8]; rfl) (by decide) ?_
    refine ww_aload_n C 4 rfl rfl (dq dk_Mo_encode 152 rfl) ?_
    refine ww_iload C 0 rfl (dq dk_Mo_encode 153 rfl) ?_
    refine ww_cSi (st := [.ref (ad k v0)]) C (c_Mo_isSmall x4) cw_Mo_isSmall g_7_157 hRm ⟨⟨rfl, rfl⟩, le_ rfl, le_ rfl⟩ rfl rfl rfl (le_ rfl) (dq dk_Mo_encode 154 rfl) h (fun x27 σ26 h => ?_)
    refine ww_if_eq C 349 (dq dk_Mo_encode 155 rfl) (by decide) h (fun h => ?_) (fun h => ?_)
    · refine ww_bipush C (dq dk_Mo_encode 158 rfl) bp_104 ?_
      exact ww_lv [4, 0] rfl (t_Mo_encode_B351 C hR hRm hnL v0 x4 v0 104 ho_v0 ho_v0 σ26 h)
    · refine ww_bipush C (dq dk_Mo_encode 156 rfl) bp_106 ?_
      refine ww_goto C 351 (dq dk_Mo_encode 157 rfl) (by decide) ?_
      exact ww_lv [4, 0] rfl (t_Mo_encode_B351 C hR hRm hnL v0 x4 v0 106 ho_v0 ho_v0 σ26 h)
  rw [if_neg e8_8] at h
  have ne0_0 := lv_neT (a := 0) e0_0 (by decide)
  have ne1_1 := lv_neT (a := 1) e1_1 (by decide)
  have ne2_2 := lv_neT (a := 2) e2_2 (by decide)
  have ne3_3 := lv_neT (a := 3) e3_3 (by decide)
  have ne4_4 := lv_neT (a := 4) e4_4 (by decide)
  have ne5_5 := lv_neT (a := 5) e5_5 (by decide)
  have ne6_6 := lv_neT (a := 6) e6_6 (by decide)
  have ne7_7 := lv_neT (a := 7) e7_7 (by decide)
  have ne8_8 := lv_neT (a := 8) e8_8 (by decide)
  refine ww_tabOut C 380 (dq dk_Mo_encode 27 rfl) (by omega) (by decide) ?_
  exact ww_lv [4, 5, 3, 2, 1, 0] rfl (t_Mo_encode_B380 C hR hRm hnL v0 v1 x1 x2 x3 x4 ho_v0 σ5 h)
abbrev y_Mo_lay : MethodName := ⟨"BundleHouseModel", "lay", "(IZ)I"⟩
def dl_Mo_lay : List (Nat × Instr × Nat) := [(0, .aload_n 0, 1), (1, .getfield 257, 3), (4, .bipush 16, 2), (6, .irem, 1), (7, .iload_n 1, 1), (8, .iadd, 1), (9, .bipush 16, 2), (11, .if_icmp .le 22, 3), (14, .aload_n 0, 1), (15, .dup, 1), (16, .getfield 257, 3), (19, .bipush 16, 2), (21, .aload_n 0, 1), (22, .getfield 257, 3), (25, .bipush 16, 2), (27, .irem, 1), (28, .isub, 1), (29, .iadd, 1), (30, .putfield 257, 3), (33, .iload_n 2, 1), (34, .ifCond .eq 24, 3), (37, .aload_n 0, 1), (38, .dup, 1), (39, .getfield 257, 3), (42, .bipush 16, 2), (44, .aload_n 0, 1), (45, .getfield 257, 3), (48, .bipush 16, 2), (50, .irem, 1), (51, .isub, 1), (52, .iload_n 1, 1), (53, .isub, 1), (54, .iadd, 1), (55, .putfield 257, 3), (58, .aload_n 0, 1), (59, .getfield 257, 3), (62, .istore_n 3, 1), (63, .aload_n 0, 1), (64, .dup, 1), (65, .getfield 257, 3), (68, .iload_n 1, 1), (69, .iadd, 1), (70, .putfield 257, 3), (73, .iload_n 3, 1), (74, .ireturn, 1)]
set_option maxRecDepth 100000 in
theorem dk_Mo_lay : ∀ q ∈ dl_Mo_lay, decode prog_14_method_41_code q.1 = .ok q.2 := by decide +kernel
abbrev rm_Mo_lay : Room := { frames := 0, cells := 0, slots := 0, locals := 0 }
theorem cw_Mo_lay : CWV y_Mo_lay prog_14_method_41_code 4 (some .int) 2 := ⟨⟨g_7_129, g_1_13, by decide, by decide, by decide +kernel⟩, g_7_128, gs_5_15⟩
set_option maxHeartbeats 4000000 in
set_option maxRecDepth 100000 in
theorem t_Mo_lay_B58 {k : Cfg} {res : Int32 × St} (C : Cx k prog_14_method_41_code "BundleHouseModel") (hR : RI k .int res) (hRm : k.2.2.2.1 = rm_Mo_lay) (hnL : k.2.2.2.2.2.2.2.2.2.2.2.1 = 4) (v0 : Nat) (v1 : Int32) (ho_v0 : kd v0 = 12) (σ : St) (h : Mo_lay_B58 v0 v1 σ = some res) : WW k 58 [(0, .ref (ad k v0)), (1, .int v1)] [] σ := by
  unfold Mo_lay_B58 at h
  refine ww_aload_n C 0 rfl rfl (dq dk_Mo_lay 34 rfl) ?_
  refine ww_geti C ko_Mo 22 ho_v0 (lt_ rfl) g_6_72 rfl rfl (dq dk_Mo_lay 35 rfl) ?_
  refine ww_nmi h (fun x1 h => ?_)
  refine ww_istore_n C [(3, .int x1), (0, .ref (ad k v0)), (1, .int v1)] rfl hnL (lt_ rfl) rfl (dq dk_Mo_lay 36 rfl) ?_
  refine ww_aload_n C 1 rfl rfl (dq dk_Mo_lay 37 rfl) ?_
  refine ww_dup C rfl (dq dk_Mo_lay 38 rfl) ?_
  refine ww_geti C ko_Mo 22 ho_v0 (lt_ rfl) g_6_72 rfl rfl (dq dk_Mo_lay 39 rfl) ?_
  refine ww_iload_n C 2 rfl rfl (dq dk_Mo_lay 40 rfl) ?_
  refine ww_iadd C (dq dk_Mo_lay 41 rfl) ?_
  refine ww_puti C ko_Mo 22 ho_v0 (lt_ rfl) g_6_72 rfl rfl rfl rfl (dq dk_Mo_lay 42 rfl) h (fun σ2 h => ?_)
  refine ww_iload_n C 0 rfl rfl (dq dk_Mo_lay 43 rfl) ?_
  exact ww_iret C hR (dq dk_Mo_lay 44 rfl) h
set_option maxHeartbeats 4000000 in
set_option maxRecDepth 100000 in
theorem t_Mo_lay_B33 {k : Cfg} {res : Int32 × St} (C : Cx k prog_14_method_41_code "BundleHouseModel") (hR : RI k .int res) (hRm : k.2.2.2.1 = rm_Mo_lay) (hnL : k.2.2.2.2.2.2.2.2.2.2.2.1 = 4) (v0 : Nat) (v1 : Int32) (v2 : Int32) (ho_v0 : kd v0 = 12) (σ : St) (h : Mo_lay_B33 v0 v1 v2 σ = some res) : WW k 33 [(0, .ref (ad k v0)), (1, .int v1), (2, .int v2)] [] σ := by
  unfold Mo_lay_B33 at h
  refine ww_iload_n C 2 rfl rfl (dq dk_Mo_lay 19 rfl) ?_
  refine ww_if_eq C 58 (dq dk_Mo_lay 20 rfl) (by decide) h (fun h => ?_) (fun h => ?_)
  · exact ww_lv [0, 1] rfl (t_Mo_lay_B58 C hR hRm hnL v0 v1 ho_v0 σ h)
  · refine ww_aload_n C 0 rfl rfl (dq dk_Mo_lay 21 rfl) ?_
    refine ww_dup C rfl (dq dk_Mo_lay 22 rfl) ?_
    refine ww_geti C ko_Mo 22 ho_v0 (lt_ rfl) g_6_72 rfl rfl (dq dk_Mo_lay 23 rfl) ?_
    refine ww_bipush C (dq dk_Mo_lay 24 rfl) bp_16 ?_
    refine ww_aload_n C 0 rfl rfl (dq dk_Mo_lay 25 rfl) ?_
    refine ww_geti C ko_Mo 22 ho_v0 (lt_ rfl) g_6_72 rfl rfl (dq dk_Mo_lay 26 rfl) ?_
    refine ww_bipush C (dq dk_Mo_lay 27 rfl) bp_16 ?_
    refine ww_irem C (by decide) (dq dk_Mo_lay 28 rfl) ?_
    refine ww_isub C (dq dk_Mo_lay 29 rfl) ?_
    refine ww_iload_n C 1 rfl rfl (dq dk_Mo_lay 30 rfl) ?_
    refine ww_isub C (dq dk_Mo_lay 31 rfl) ?_
    refine ww_iadd C (dq dk_Mo_lay 32 rfl) ?_
    refine ww_puti C ko_Mo 22 ho_v0 (lt_ rfl) g_6_72 rfl rfl rfl rfl (dq dk_Mo_lay 33 rfl) h (fun σ1 h => ?_)
    exact ww_lv [0, 1] rfl (t_Mo_lay_B58 C hR hRm hnL v0 v1 ho_v0 σ1 h)
set_option maxHeartbeats 4000000 in
set_option maxRecDepth 100000 in
theorem c_Mo_lay (v0 : Nat) (ho_v0 : kd v0 = 12) (v1 : Int32) (v2 : Int32) : MI y_Mo_lay rm_Mo_lay prog_14_method_41_code 4 .int (fun a => [.ref (a v0), .int v1, .int v2]) (Mo_lay v0 v1 v2) := by
  refine mi_of (by decide) (fun _ => le_ rfl) ?_
  intro k res σ C hR hRm hnL h
  unfold Mo_lay at h
  show WW k 0 [(0, .ref (ad k v0)), (1, .int v1), (2, .int v2)] [] σ
  refine ww_aload_n C 0 rfl rfl (dq dk_Mo_lay 0 rfl) ?_
  refine ww_geti C ko_Mo 22 ho_v0 (lt_ rfl) g_6_72 rfl rfl (dq dk_Mo_lay 1 rfl) ?_
  refine ww_bipush C (dq dk_Mo_lay 2 rfl) bp_16 ?_
  refine ww_irem C (by decide) (dq dk_Mo_lay 3 rfl) ?_
  refine ww_iload_n C 1 rfl rfl (dq dk_Mo_lay 4 rfl) ?_
  refine ww_iadd C (dq dk_Mo_lay 5 rfl) ?_
  refine ww_bipush C (dq dk_Mo_lay 6 rfl) bp_16 ?_
  refine ww_icmp_le C 33 (dq dk_Mo_lay 7 rfl) (by decide) h (fun h => ?_) (fun h => ?_)
  · exact ww_lv [0, 1, 2] rfl (t_Mo_lay_B33 C hR hRm hnL v0 v1 v2 ho_v0 σ h)
  · refine ww_aload_n C 0 rfl rfl (dq dk_Mo_lay 8 rfl) ?_
    refine ww_dup C rfl (dq dk_Mo_lay 9 rfl) ?_
    refine ww_geti C ko_Mo 22 ho_v0 (lt_ rfl) g_6_72 rfl rfl (dq dk_Mo_lay 10 rfl) ?_
    refine ww_bipush C (dq dk_Mo_lay 11 rfl) bp_16 ?_
    refine ww_aload_n C 0 rfl rfl (dq dk_Mo_lay 12 rfl) ?_
    refine ww_geti C ko_Mo 22 ho_v0 (lt_ rfl) g_6_72 rfl rfl (dq dk_Mo_lay 13 rfl) ?_
    refine ww_bipush C (dq dk_Mo_lay 14 rfl) bp_16 ?_
    refine ww_irem C (by decide) (dq dk_Mo_lay 15 rfl) ?_
    refine ww_isub C (dq dk_Mo_lay 16 rfl) ?_
    refine ww_iadd C (dq dk_Mo_lay 17 rfl) ?_
    refine ww_puti C ko_Mo 22 ho_v0 (lt_ rfl) g_6_72 rfl rfl rfl rfl (dq dk_Mo_lay 18 rfl) h (fun σ1 h => ?_)
    exact ww_lv [0, 1, 2] rfl (t_Mo_lay_B33 C hR hRm hnL v0 v1 v2 ho_v0 σ1 h)
abbrev y_Mo_sizeOf : MethodName := ⟨"BundleHouseModel", "sizeOf", "(I)I"⟩
def dl_Mo_sizeOf : List (Nat × Instr × Nat) := [(0, .aload_n 0, 1), (1, .getfield 23, 3), (4, .iload_n 1, 1), (5, .iaload, 1), (6, .lookupswitch 75 #[(1, 34), (2, 49), (9, 65)], 34), (40, .aload_n 0, 1), (41, .getfield 53, 3), (44, .iload_n 1, 1), (45, .baload, 1), (46, .ifCond .eq 7, 3), (49, .iconst 5, 1), (50, .goto 4, 3), (53, .iconst 2, 1), (54, .ireturn, 1), (55, .aload_n 0, 1), (56, .getfield 53, 3), (59, .iload_n 1, 1), (60, .baload, 1), (61, .ifCond .eq 8, 3), (64, .bipush 6, 2), (66, .goto 4, 3), (69, .iconst 2, 1), (70, .ireturn, 1), (71, .aload_n 0, 1), (72, .iload_n 1, 1), (73, .invokevirtual 260, 3), (76, .aload_n 0, 1), (77, .getfield 229, 3), (80, .ireturn, 1), (81, .iconst 5, 1), (82, .ireturn, 1)]
set_option maxRecDepth 100000 in
theorem dk_Mo_sizeOf : ∀ q ∈ dl_Mo_sizeOf, decode prog_14_method_42_code q.1 = .ok q.2 := by decide +kernel
abbrev rm_Mo_sizeOf : Room := { frames := 5, cells := 0, slots := 0, locals := 124 }
theorem cw_Mo_sizeOf : CWV y_Mo_sizeOf prog_14_method_42_code 2 (some .int) 1 := ⟨⟨g_7_133, g_1_13, by decide, by decide, by decide +kernel⟩, g_7_132, gs_6_0⟩
set_option maxHeartbeats 4000000 in
set_option maxRecDepth 100000 in
theorem c_Mo_sizeOf (v0 : Nat) (ho_v0 : kd v0 = 12) (v1 : Int32) : MI y_Mo_sizeOf rm_Mo_sizeOf prog_14_method_42_code 2 .int (fun a => [.ref (a v0), .int v1]) (Mo_sizeOf v0 v1) := by
  refine mi_of (by decide) (fun _ => le_ rfl) ?_
  intro k res σ C hR hRm hnL h
  unfold Mo_sizeOf at h
  show WW k 0 [(0, .ref (ad k v0)), (1, .int v1)] [] σ
  refine ww_aload_n C 0 rfl rfl (dq dk_Mo_sizeOf 0 rfl) ?_
  refine ww_getr C ko_Mo 11 ho_v0 (lt_ rfl) g_6_61 rfl rfl (dq dk_Mo_sizeOf 1 rfl) ?_
  refine ww_iload_n C 1 rfl rfl (dq dk_Mo_sizeOf 2 rfl) ?_
  refine ww_iald C (kc_Mo_11 _ ho_v0).1 (kc_Mo_11 _ ho_v0).2 (dq dk_Mo_sizeOf 3 rfl) h (fun x1 h => ?_)
  by_cases e0_1 : x1 = 1
  · rw [if_pos e0_1] at h
    refine ww_lookup (off := 34) C 40 (dq dk_Mo_sizeOf 4 rfl) (by decide) (by rw [e0_1] <;> rfl) (by decide) ?_
    refine ww_aload_n C 0 rfl rfl (dq dk_Mo_sizeOf 5 rfl) ?_
    refine ww_getr C ko_Mo 21 ho_v0 (lt_ rfl) g_6_71 rfl rfl (dq dk_Mo_sizeOf 6 rfl) ?_
    refine ww_iload_n C 1 rfl rfl (dq dk_Mo_sizeOf 7 rfl) ?_
    refine ww_zald C (kc_Mo_21 _ ho_v0).1 (kc_Mo_21 _ ho_v0).2 (dq dk_Mo_sizeOf 8 rfl) h (fun x2 h => ?_)
    refine ww_if_eq C 53 (dq dk_Mo_sizeOf 9 rfl) (by decide) h (fun h => ?_) (fun h => ?_)
    · refine ww_iconst C (dq dk_Mo_sizeOf 12 rfl) ic_2 ?_
      exact ww_iret C hR (dq dk_Mo_sizeOf 13 rfl) h
    · refine ww_iconst C (dq dk_Mo_sizeOf 10 rfl) ic_5 ?_
      refine ww_goto C 54 (dq dk_Mo_sizeOf 11 rfl) (by decide) ?_
      exact ww_iret C hR (dq dk_Mo_sizeOf 13 rfl) h
  rw [if_neg e0_1] at h
  by_cases e1_2 : x1 = 2
  · rw [if_pos e1_2] at h
    refine ww_lookup (off := 49) C 55 (dq dk_Mo_sizeOf 4 rfl) (by decide) (by rw [e1_2] <;> rfl) (by decide) ?_
    refine ww_aload_n C 0 rfl rfl (dq dk_Mo_sizeOf 14 rfl) ?_
    refine ww_getr C ko_Mo 21 ho_v0 (lt_ rfl) g_6_71 rfl rfl (dq dk_Mo_sizeOf 15 rfl) ?_
    refine ww_iload_n C 1 rfl rfl (dq dk_Mo_sizeOf 16 rfl) ?_
    refine ww_zald C (kc_Mo_21 _ ho_v0).1 (kc_Mo_21 _ ho_v0).2 (dq dk_Mo_sizeOf 17 rfl) h (fun x3 h => ?_)
    refine ww_if_eq C 69 (dq dk_Mo_sizeOf 18 rfl) (by decide) h (fun h => ?_) (fun h => ?_)
    · refine ww_iconst C (dq dk_Mo_sizeOf 21 rfl) ic_2 ?_
      exact ww_iret C hR (dq dk_Mo_sizeOf 22 rfl) h
    · refine ww_bipush C (dq dk_Mo_sizeOf 19 rfl) bp_6 ?_
      refine ww_goto C 70 (dq dk_Mo_sizeOf 20 rfl) (by decide) ?_
      exact ww_iret C hR (dq dk_Mo_sizeOf 22 rfl) h
  rw [if_neg e1_2] at h
  by_cases e2_9 : x1 = 9
  · rw [if_pos e2_9] at h
    refine ww_lookup (off := 65) C 71 (dq dk_Mo_sizeOf 4 rfl) (by decide) (by rw [e2_9] <;> rfl) (by decide) ?_
    refine ww_aload_n C 0 rfl rfl (dq dk_Mo_sizeOf 23 rfl) ?_
    refine ww_iload_n C 1 rfl rfl (dq dk_Mo_sizeOf 24 rfl) ?_
    refine ww_cVv (st := []) C (c_Mo_encode v0 ho_v0 v1) cw_Mo_encode ho_v0 (lt_ rfl) rfl g_7_134 hRm ⟨⟨rfl, rfl⟩, le_ rfl, le_ rfl⟩ rfl rfl rfl (le_ rfl) (dq dk_Mo_sizeOf 25 rfl) h (fun σ4 h => ?_)
    refine ww_aload_n C 0 rfl rfl (dq dk_Mo_sizeOf 26 rfl) ?_
    refine ww_geti C ko_Mo 25 ho_v0 (lt_ rfl) g_6_75 rfl rfl (dq dk_Mo_sizeOf 27 rfl) ?_
    exact ww_iret C hR (dq dk_Mo_sizeOf 28 rfl) h
  rw [if_neg e2_9] at h
  have ne0_1 := lv_neT (a := 1) e0_1 (by decide)
  have ne1_2 := lv_neT (a := 2) e1_2 (by decide)
  have ne2_9 := lv_neT (a := 9) e2_9 (by decide)
  refine ww_lookup (off := 75) C 81 (dq dk_Mo_sizeOf 4 rfl) (by decide) (by show Op.lookupswitch.offset [(1, 34), (2, 49), (9, 65)] _ _ = _; rw [lv_osw (a := 1) e0_1 (by decide), lv_osw (a := 2) e1_2 (by decide), lv_osw (a := 9) e2_9 (by decide)] <;> rfl) (by decide) ?_
  refine ww_iconst C (dq dk_Mo_sizeOf 29 rfl) ic_5 ?_
  exact ww_iret C hR (dq dk_Mo_sizeOf 30 rfl) h
abbrev y_Mo_layAll : MethodName := ⟨"BundleHouseModel", "layAll", "()V"⟩
def dl_Mo_layAll : List (Nat × Instr × Nat) := [(0, .aload_n 0, 1), (1, .iconst 0, 1), (2, .putfield 257, 3), (5, .iconst 0, 1), (6, .istore_n 1, 1), (7, .iload_n 1, 1), (8, .aload_n 0, 1), (9, .getfield 208, 3), (12, .if_icmp .ge 151, 3), (15, .aload_n 0, 1), (16, .getfield 23, 3), (19, .iload_n 1, 1), (20, .iaload, 1), (21, .istore_n 2, 1), (22, .iload_n 2, 1), (23, .ifCond .ne 70, 3), (26, .aload_n 0, 1), (27, .getfield 35, 3), (30, .iload_n 1, 1), (31, .iaload, 1), (32, .iconst 1, 1), (33, .if_icmp .ne 32, 3), (36, .aload_n 0, 1), (37, .getfield 257, 3), (40, .bipush 16, 2), (42, .irem, 1), (43, .ifCond .eq 22, 3), (46, .aload_n 0, 1), (47, .dup, 1), (48, .getfield 257, 3), (51, .bipush 16, 2), (53, .aload_n 0, 1), (54, .getfield 257, 3), (57, .bipush 16, 2), (59, .irem, 1), (60, .isub, 1), (61, .iadd, 1), (62, .putfield 257, 3), (65, .aload_n 0, 1), (66, .getfield 44, 3), (69, .iload_n 1, 1), (70, .aload_n 0, 1), (71, .getfield 257, 3), (74, .iastore, 1), (75, .aload_n 0, 1), (76, .getfield 47, 3), (79, .aload_n 0, 1), (80, .getfield 32, 3), (83, .iload_n 1, 1), (84, .iaload, 1), (85, .aload_n 0, 1), (86, .getfield 257, 3), (89, .iastore, 1), (90, .goto 67, 3), (93, .iload_n 2, 1), (94, .bipush 7, 2), (96, .if_icmp .ne 25, 3), (99, .aload_n 0, 1), (100, .getfield 44, 3), (103, .iload_n 1, 1), (104, .aload_n 0, 1), (105, .iconst 1, 1), (106, .iconst 0, 1), (107, .invokevirtual 263, 3), (110, .iastore, 1), (111, .aload_n 0, 1), (112, .iconst 5, 1), (113, .iconst 0, 1), (114, .invokevirtual 263, 3), (117, .istore_n 3, 1), (118, .goto 39, 3), (121, .aload_n 0, 1), (122, .getfield 44, 3), (125, .iload_n 1, 1), (126, .aload_n 0, 1), (127, .aload_n 0, 1), (128, .iload_n 1, 1), (129, .invokevirtual 267, 3), (132, .iload_n 2, 1), (133, .iconst 3, 1), (134, .if_icmp .eq 14, 3), (137, .iload_n 2, 1), (138, .iconst 4, 1), (139, .if_icmp .eq 9, 3), (142, .iload_n 2, 1), (143, .bipush 6, 2), (145, .if_icmp .ne 7, 3), (148, .iconst 1, 1), (149, .goto 4, 3), (152, .iconst 0, 1), (153, .invokevirtual 263, 3), (156, .iastore, 1), (157, .iinc 1 1, 3), (160, .goto (-153), 3), (163, .return_, 1)]
set_option maxRecDepth 100000 in
theorem dk_Mo_layAll : ∀ q ∈ dl_Mo_layAll, decode prog_14_method_43_code q.1 = .ok q.2 := by decide +kernel
abbrev rm_Mo_layAll : Room := { frames := 6, cells := 0, slots := 0, locals := 145 }
theorem cw_Mo_layAll : CWV y_Mo_layAll prog_14_method_43_code 4 none 0 := ⟨⟨g_7_125, g_1_13, by decide, by decide, by decide +kernel⟩, g_7_124, gs_5_14⟩
set_option maxHeartbeats 4000000 in
set_option maxRecDepth 100000 in
theorem t_Mo_layAll_B65 {k : Cfg} {res : St} (C : Cx k prog_14_method_43_code "BundleHouseModel") (hR : RV k res) (hRm : k.2.2.2.1 = rm_Mo_layAll) (hnL : k.2.2.2.2.2.2.2.2.2.2.2.1 = 4) {K7 : Nat → Int32 → St → Option (St)} (hK7 : ∀ (v0 : Nat) (v1 : Int32) (ho_v0 : kd v0 = 12) (σ : St), K7 v0 v1 σ = some res → WW k 7 [(0, .ref (ad k v0)), (1, .int v1)] [] σ) (v0 : Nat) (v1 : Int32) (ho_v0 : kd v0 = 12) (σ : St) (h : Mo_layAll_B65 K7 v0 v1 σ = some res) : WW k 65 [(0, .ref (ad k v0)), (1, .int v1)] [] σ := by
  unfold Mo_layAll_B65 at h
  refine ww_aload_n C 0 rfl rfl (dq dk_Mo_layAll 38 rfl) ?_
  refine ww_getr C ko_Mo 18 ho_v0 (lt_ rfl) g_6_68 rfl rfl (dq dk_Mo_layAll 39 rfl) ?_
  refine ww_iload_n C 1 rfl rfl (dq dk_Mo_layAll 40 rfl) ?_
  refine ww_aload_n C 0 rfl rfl (dq dk_Mo_layAll 41 rfl) ?_
  refine ww_geti C ko_Mo 22 ho_v0 (lt_ rfl) g_6_72 rfl rfl (dq dk_Mo_layAll 42 rfl) ?_
  refine ww_iast C (kc_Mo_18 _ ho_v0).1 (kc_Mo_18 _ ho_v0).2 (dq dk_Mo_layAll 43 rfl) h (fun σ1 h => ?_)
  refine ww_aload_n C 0 rfl rfl (dq dk_Mo_layAll 44 rfl) ?_
  refine ww_getr C ko_Mo 19 ho_v0 (lt_ rfl) g_6_69 rfl rfl (dq dk_Mo_layAll 45 rfl) ?_
  refine ww_aload_n C 0 rfl rfl (dq dk_Mo_layAll 46 rfl) ?_
  refine ww_getr C ko_Mo 14 ho_v0 (lt_ rfl) g_6_64 rfl rfl (dq dk_Mo_layAll 47 rfl) ?_
  refine ww_iload_n C 1 rfl rfl (dq dk_Mo_layAll 48 rfl) ?_
  refine ww_iald C (kc_Mo_14 _ ho_v0).1 (kc_Mo_14 _ ho_v0).2 (dq dk_Mo_layAll 49 rfl) h (fun x2 h => ?_)
  refine ww_aload_n C 0 rfl rfl (dq dk_Mo_layAll 50 rfl) ?_
  refine ww_geti C ko_Mo 22 ho_v0 (lt_ rfl) g_6_72 rfl rfl (dq dk_Mo_layAll 51 rfl) ?_
  refine ww_iast C (kc_Mo_19 _ ho_v0).1 (kc_Mo_19 _ ho_v0).2 (dq dk_Mo_layAll 52 rfl) h (fun σ3 h => ?_)
  refine ww_goto C 157 (dq dk_Mo_layAll 53 rfl) (by decide) ?_
  refine ww_iinc C 1 (fun z => [(1, .int z), (0, .ref (ad k v0))]) rfl ic_1 hnL (lt_ rfl) (fun _ => rfl) (dq dk_Mo_layAll 92 rfl) h (fun x4 h => ?_)
  refine ww_goto C 7 (dq dk_Mo_layAll 93 rfl) (by decide) ?_
  exact ww_lv [1, 0] rfl (hK7 v0 x4 ho_v0 σ3 h)
set_option maxHeartbeats 4000000 in
set_option maxRecDepth 100000 in
theorem t_Mo_layAll_B7 {k : Cfg} {res : St} (C : Cx k prog_14_method_43_code "BundleHouseModel") (hR : RV k res) (hRm : k.2.2.2.1 = rm_Mo_layAll) (hnL : k.2.2.2.2.2.2.2.2.2.2.2.1 = 4) : ∀ (n : Nat) (v0 : Nat) (v1 : Int32) (ho_v0 : kd v0 = 12) (σ : St), Mo_layAll_B7 n v0 v1 σ = some res → WW k 7 [(0, .ref (ad k v0)), (1, .int v1)] [] σ := by
  intro n
  induction n with
  | zero =>
    intro v0 v1 ho_v0 σ h
    have h : (none : Option (St)) = some res := h
    cases h
  | succ n ih =>
    intro v0 v1 ho_v0 σ h
    unfold Mo_layAll_B7 at h
    refine ww_iload_n C 1 rfl rfl (dq dk_Mo_layAll 5 rfl) ?_
    refine ww_aload_n C 0 rfl rfl (dq dk_Mo_layAll 6 rfl) ?_
    refine ww_geti C ko_Mo 8 ho_v0 (lt_ rfl) g_6_58 rfl rfl (dq dk_Mo_layAll 7 rfl) ?_
    refine ww_icmp_ge C 163 (dq dk_Mo_layAll 8 rfl) (by decide) h (fun h => ?_) (fun h => ?_)
    · exact ww_vret C hR (dq dk_Mo_layAll 94 rfl) h
    · refine ww_aload_n C 0 rfl rfl (dq dk_Mo_layAll 9 rfl) ?_
      refine ww_getr C ko_Mo 11 ho_v0 (lt_ rfl) g_6_61 rfl rfl (dq dk_Mo_layAll 10 rfl) ?_
      refine ww_iload_n C 1 rfl rfl (dq dk_Mo_layAll 11 rfl) ?_
      refine ww_iald C (kc_Mo_11 _ ho_v0).1 (kc_Mo_11 _ ho_v0).2 (dq dk_Mo_layAll 12 rfl) h (fun x1 h => ?_)
      refine ww_istore_n C [(2, .int x1), (0, .ref (ad k v0)), (1, .int v1)] rfl hnL (lt_ rfl) rfl (dq dk_Mo_layAll 13 rfl) ?_
      refine ww_iload_n C 0 rfl rfl (dq dk_Mo_layAll 14 rfl) ?_
      refine ww_if_ne C 93 (dq dk_Mo_layAll 15 rfl) (by decide) h (fun h => ?_) (fun h => ?_)
      · refine ww_iload_n C 0 rfl rfl (dq dk_Mo_layAll 54 rfl) ?_
        refine ww_bipush C (dq dk_Mo_layAll 55 rfl) bp_7 ?_
        refine ww_icmp_ne C 121 (dq dk_Mo_layAll 56 rfl) (by decide) h (fun h => ?_) (fun h => ?_)
        · refine ww_aload_n C 1 rfl rfl (dq dk_Mo_layAll 71 rfl) ?_
          refine ww_getr C ko_Mo 18 ho_v0 (lt_ rfl) g_6_68 rfl rfl (dq dk_Mo_layAll 72 rfl) ?_
          refine ww_iload_n C 2 rfl rfl (dq dk_Mo_layAll 73 rfl) ?_
          refine ww_aload_n C 1 rfl rfl (dq dk_Mo_layAll 74 rfl) ?_
          refine ww_aload_n C 1 rfl rfl (dq dk_Mo_layAll 75 rfl) ?_
          refine ww_iload_n C 2 rfl rfl (dq dk_Mo_layAll 76 rfl) ?_
          refine ww_cVi (st := [.ref (ad k v0), .int v1, .ref (ad k (ch v0 18))]) C (c_Mo_sizeOf v0 ho_v0 v1) cw_Mo_sizeOf ho_v0 (lt_ rfl) rfl g_7_130 hRm ⟨⟨rfl, rfl⟩, le_ rfl, le_ rfl⟩ rfl rfl rfl (le_ rfl) (dq dk_Mo_layAll 77 rfl) h (fun x3 σ2 h => ?_)
          refine ww_iload_n C 0 rfl rfl (dq dk_Mo_layAll 78 rfl) ?_
          refine ww_iconst C (dq dk_Mo_layAll 79 rfl) ic_3 ?_
          refine ww_icmp_eq C 148 (dq dk_Mo_layAll 80 rfl) (by decide) h (fun h => ?_) (fun h => ?_)
          · refine ww_iconst C (dq dk_Mo_layAll 87 rfl) ic_1 ?_
            refine ww_goto C 153 (dq dk_Mo_layAll 88 rfl) (by decide) ?_
            refine ww_cVi (st := [.int v1, .ref (ad k (ch v0 18))]) C (c_Mo_lay v0 ho_v0 x3 1) cw_Mo_lay ho_v0 (lt_ rfl) rfl g_7_126 hRm ⟨⟨rfl, rfl⟩, le_ rfl, le_ rfl⟩ rfl rfl rfl (le_ rfl) (dq dk_Mo_layAll 90 rfl) h (fun x5 σ4 h => ?_)
            refine ww_iast C (kc_Mo_18 _ ho_v0).1 (kc_Mo_18 _ ho_v0).2 (dq dk_Mo_layAll 91 rfl) h (fun σ6 h => ?_)
            refine ww_iinc C 2 (fun z => [(1, .int z), (2, .int x1), (0, .ref (ad k v0))]) rfl ic_1 hnL (lt_ rfl) (fun _ => rfl) (dq dk_Mo_layAll 92 rfl) h (fun x7 h => ?_)
            refine ww_goto C 7 (dq dk_Mo_layAll 93 rfl) (by decide) ?_
            exact ww_lv [2, 0] rfl (ih v0 x7 ho_v0 σ6 h)
          · refine ww_iload_n C 0 rfl rfl (dq dk_Mo_layAll 81 rfl) ?_
            refine ww_iconst C (dq dk_Mo_layAll 82 rfl) ic_4 ?_
            refine ww_icmp_eq C 148 (dq dk_Mo_layAll 83 rfl) (by decide) h (fun h => ?_) (fun h => ?_)
            · refine ww_iconst C (dq dk_Mo_layAll 87 rfl) ic_1 ?_
              refine ww_goto C 153 (dq dk_Mo_layAll 88 rfl) (by decide) ?_
              refine ww_cVi (st := [.int v1, .ref (ad k (ch v0 18))]) C (c_Mo_lay v0 ho_v0 x3 1) cw_Mo_lay ho_v0 (lt_ rfl) rfl g_7_126 hRm ⟨⟨rfl, rfl⟩, le_ rfl, le_ rfl⟩ rfl rfl rfl (le_ rfl) (dq dk_Mo_layAll 90 rfl) h (fun x9 σ8 h => ?_)
              refine ww_iast C (kc_Mo_18 _ ho_v0).1 (kc_Mo_18 _ ho_v0).2 (dq dk_Mo_layAll 91 rfl) h (fun σ10 h => ?_)
              refine ww_iinc C 2 (fun z => [(1, .int z), (2, .int x1), (0, .ref (ad k v0))]) rfl ic_1 hnL (lt_ rfl) (fun _ => rfl) (dq dk_Mo_layAll 92 rfl) h (fun x11 h => ?_)
              refine ww_goto C 7 (dq dk_Mo_layAll 93 rfl) (by decide) ?_
              exact ww_lv [2, 0] rfl (ih v0 x11 ho_v0 σ10 h)
            · refine ww_iload_n C 0 rfl rfl (dq dk_Mo_layAll 84 rfl) ?_
              refine ww_bipush C (dq dk_Mo_layAll 85 rfl) bp_6 ?_
              refine ww_icmp_ne C 152 (dq dk_Mo_layAll 86 rfl) (by decide) h (fun h => ?_) (fun h => ?_)
              · refine ww_iconst C (dq dk_Mo_layAll 89 rfl) ic_0 ?_
                refine ww_cVi (st := [.int v1, .ref (ad k (ch v0 18))]) C (c_Mo_lay v0 ho_v0 x3 0) cw_Mo_lay ho_v0 (lt_ rfl) rfl g_7_126 hRm ⟨⟨rfl, rfl⟩, le_ rfl, le_ rfl⟩ rfl rfl rfl (le_ rfl) (dq dk_Mo_layAll 90 rfl) h (fun x13 σ12 h => ?_)
                refine ww_iast C (kc_Mo_18 _ ho_v0).1 (kc_Mo_18 _ ho_v0).2 (dq dk_Mo_layAll 91 rfl) h (fun σ14 h => ?_)
                refine ww_iinc C 2 (fun z => [(1, .int z), (2, .int x1), (0, .ref (ad k v0))]) rfl ic_1 hnL (lt_ rfl) (fun _ => rfl) (dq dk_Mo_layAll 92 rfl) h (fun x15 h => ?_)
                refine ww_goto C 7 (dq dk_Mo_layAll 93 rfl) (by decide) ?_
                exact ww_lv [2, 0] rfl (ih v0 x15 ho_v0 σ14 h)
              · refine ww_iconst C (dq dk_Mo_layAll 87 rfl) ic_1 ?_
                refine ww_goto C 153 (dq dk_Mo_layAll 88 rfl) (by decide) ?_
                refine ww_cVi (st := [.int v1, .ref (ad k (ch v0 18))]) C (c_Mo_lay v0 ho_v0 x3 1) cw_Mo_lay ho_v0 (lt_ rfl) rfl g_7_126 hRm ⟨⟨rfl, rfl⟩, le_ rfl, le_ rfl⟩ rfl rfl rfl (le_ rfl) (dq dk_Mo_layAll 90 rfl) h (fun x17 σ16 h => ?_)
                refine ww_iast C (kc_Mo_18 _ ho_v0).1 (kc_Mo_18 _ ho_v0).2 (dq dk_Mo_layAll 91 rfl) h (fun σ18 h => ?_)
                refine ww_iinc C 2 (fun z => [(1, .int z), (2, .int x1), (0, .ref (ad k v0))]) rfl ic_1 hnL (lt_ rfl) (fun _ => rfl) (dq dk_Mo_layAll 92 rfl) h (fun x19 h => ?_)
                refine ww_goto C 7 (dq dk_Mo_layAll 93 rfl) (by decide) ?_
                exact ww_lv [2, 0] rfl (ih v0 x19 ho_v0 σ18 h)
        · refine ww_aload_n C 1 rfl rfl (dq dk_Mo_layAll 57 rfl) ?_
          refine ww_getr C ko_Mo 18 ho_v0 (lt_ rfl) g_6_68 rfl rfl (dq dk_Mo_layAll 58 rfl) ?_
          refine ww_iload_n C 2 rfl rfl (dq dk_Mo_layAll 59 rfl) ?_
          refine ww_aload_n C 1 rfl rfl (dq dk_Mo_layAll 60 rfl) ?_
          refine ww_iconst C (dq dk_Mo_layAll 61 rfl) ic_1 ?_
          refine ww_iconst C (dq dk_Mo_layAll 62 rfl) ic_0 ?_
          refine ww_cVi (st := [.int v1, .ref (ad k (ch v0 18))]) C (c_Mo_lay v0 ho_v0 1 0) cw_Mo_lay ho_v0 (lt_ rfl) rfl g_7_126 hRm ⟨⟨rfl, rfl⟩, le_ rfl, le_ rfl⟩ rfl rfl rfl (le_ rfl) (dq dk_Mo_layAll 63 rfl) h (fun x21 σ20 h => ?_)
          refine ww_iast C (kc_Mo_18 _ ho_v0).1 (kc_Mo_18 _ ho_v0).2 (dq dk_Mo_layAll 64 rfl) h (fun σ22 h => ?_)
          refine ww_aload_n C 1 rfl rfl (dq dk_Mo_layAll 65 rfl) ?_
          refine ww_iconst C (dq dk_Mo_layAll 66 rfl) ic_5 ?_
          refine ww_iconst C (dq dk_Mo_layAll 67 rfl) ic_0 ?_
          refine ww_cVi (st := []) C (c_Mo_lay v0 ho_v0 5 0) cw_Mo_lay ho_v0 (lt_ rfl) rfl g_7_126 hRm ⟨⟨rfl, rfl⟩, le_ rfl, le_ rfl⟩ rfl rfl rfl (le_ rfl) (dq dk_Mo_layAll 68 rfl) h (fun x24 σ23 h => ?_)
          refine ww_istore_n C [(3, .int x24), (2, .int x1), (0, .ref (ad k v0)), (1, .int v1)] rfl hnL (lt_ rfl) rfl (dq dk_Mo_layAll 69 rfl) ?_
          refine ww_goto C 157 (dq dk_Mo_layAll 70 rfl) (by decide) ?_
          refine ww_iinc C 3 (fun z => [(1, .int z), (3, .int x24), (2, .int x1), (0, .ref (ad k v0))]) rfl ic_1 hnL (lt_ rfl) (fun _ => rfl) (dq dk_Mo_layAll 92 rfl) h (fun x25 h => ?_)
          refine ww_goto C 7 (dq dk_Mo_layAll 93 rfl) (by decide) ?_
          exact ww_lv [3, 0] rfl (ih v0 x25 ho_v0 σ23 h)
      · refine ww_aload_n C 1 rfl rfl (dq dk_Mo_layAll 16 rfl) ?_
        refine ww_getr C ko_Mo 15 ho_v0 (lt_ rfl) g_6_65 rfl rfl (dq dk_Mo_layAll 17 rfl) ?_
        refine ww_iload_n C 2 rfl rfl (dq dk_Mo_layAll 18 rfl) ?_
        refine ww_iald C (kc_Mo_15 _ ho_v0).1 (kc_Mo_15 _ ho_v0).2 (dq dk_Mo_layAll 19 rfl) h (fun x26 h => ?_)
        refine ww_iconst C (dq dk_Mo_layAll 20 rfl) ic_1 ?_
        refine ww_icmp_ne C 65 (dq dk_Mo_layAll 21 rfl) (by decide) h (fun h => ?_) (fun h => ?_)
        · exact ww_lv [1, 2] rfl (t_Mo_layAll_B65 C hR hRm hnL ih v0 v1 ho_v0 σ h)
        · refine ww_aload_n C 1 rfl rfl (dq dk_Mo_layAll 22 rfl) ?_
          refine ww_geti C ko_Mo 22 ho_v0 (lt_ rfl) g_6_72 rfl rfl (dq dk_Mo_layAll 23 rfl) ?_
          refine ww_bipush C (dq dk_Mo_layAll 24 rfl) bp_16 ?_
          refine ww_irem C (by decide) (dq dk_Mo_layAll 25 rfl) ?_
          refine ww_if_eq C 65 (dq dk_Mo_layAll 26 rfl) (by decide) h (fun h => ?_) (fun h => ?_)
          · exact ww_lv [1, 2] rfl (t_Mo_layAll_B65 C hR hRm hnL ih v0 v1 ho_v0 σ h)
          · refine ww_aload_n C 1 rfl rfl (dq dk_Mo_layAll 27 rfl) ?_
            refine ww_dup C rfl (dq dk_Mo_layAll 28 rfl) ?_
            refine ww_geti C ko_Mo 22 ho_v0 (lt_ rfl) g_6_72 rfl rfl (dq dk_Mo_layAll 29 rfl) ?_
            refine ww_bipush C (dq dk_Mo_layAll 30 rfl) bp_16 ?_
            refine ww_aload_n C 1 rfl rfl (dq dk_Mo_layAll 31 rfl) ?_
            refine ww_geti C ko_Mo 22 ho_v0 (lt_ rfl) g_6_72 rfl rfl (dq dk_Mo_layAll 32 rfl) ?_
            refine ww_bipush C (dq dk_Mo_layAll 33 rfl) bp_16 ?_
            refine ww_irem C (by decide) (dq dk_Mo_layAll 34 rfl) ?_
            refine ww_isub C (dq dk_Mo_layAll 35 rfl) ?_
            refine ww_iadd C (dq dk_Mo_layAll 36 rfl) ?_
            refine ww_puti C ko_Mo 22 ho_v0 (lt_ rfl) g_6_72 rfl rfl rfl rfl (dq dk_Mo_layAll 37 rfl) h (fun σ27 h => ?_)
            exact ww_lv [1, 2] rfl (t_Mo_layAll_B65 C hR hRm hnL ih v0 v1 ho_v0 σ27 h)
set_option maxHeartbeats 4000000 in
set_option maxRecDepth 100000 in
theorem c_Mo_layAll (v0 : Nat) (ho_v0 : kd v0 = 12) : MV y_Mo_layAll rm_Mo_layAll prog_14_method_43_code 4 (fun a => [.ref (a v0)]) (Mo_layAll v0) := by
  refine mv_of (by decide) (fun _ => le_ rfl) ?_
  intro k res σ C hR hRm hnL h
  unfold Mo_layAll at h
  show WW k 0 [(0, .ref (ad k v0))] [] σ
  refine ww_aload_n C 0 rfl rfl (dq dk_Mo_layAll 0 rfl) ?_
  refine ww_iconst C (dq dk_Mo_layAll 1 rfl) ic_0 ?_
  refine ww_puti C ko_Mo 22 ho_v0 (lt_ rfl) g_6_72 rfl rfl rfl rfl (dq dk_Mo_layAll 2 rfl) h (fun σ1 h => ?_)
  refine ww_iconst C (dq dk_Mo_layAll 3 rfl) ic_0 ?_
  refine ww_istore_n C [(1, .int 0), (0, .ref (ad k v0))] rfl hnL (lt_ rfl) rfl (dq dk_Mo_layAll 4 rfl) ?_
  exact ww_lv [1, 0] rfl (t_Mo_layAll_B7 C hR hRm hnL FU v0 0 ho_v0 σ1 h)
abbrev y_Mo_far : MethodName := ⟨"BundleHouseModel", "far", "(I)I"⟩
def dl_Mo_far : List (Nat × Instr × Nat) := [(0, .aload_n 0, 1), (1, .getfield 47, 3), (4, .aload_n 0, 1), (5, .getfield 32, 3), (8, .iload_n 1, 1), (9, .iaload, 1), (10, .iaload, 1), (11, .aload_n 0, 1), (12, .getfield 44, 3), (15, .iload_n 1, 1), (16, .iaload, 1), (17, .isub, 1), (18, .aload_n 0, 1), (19, .iload_n 1, 1), (20, .invokevirtual 267, 3), (23, .isub, 1), (24, .ireturn, 1)]
set_option maxRecDepth 100000 in
theorem dk_Mo_far : ∀ q ∈ dl_Mo_far, decode prog_14_method_44_code q.1 = .ok q.2 := by decide +kernel
abbrev rm_Mo_far : Room := { frames := 6, cells := 0, slots := 0, locals := 145 }
theorem cw_Mo_far : CWV y_Mo_far prog_14_method_44_code 2 (some .int) 1 := ⟨⟨g_7_171, g_1_13, by decide, by decide, by decide +kernel⟩, g_7_170, gs_6_8⟩
set_option maxHeartbeats 4000000 in
set_option maxRecDepth 100000 in
theorem c_Mo_far (v0 : Nat) (ho_v0 : kd v0 = 12) (v1 : Int32) : MI y_Mo_far rm_Mo_far prog_14_method_44_code 2 .int (fun a => [.ref (a v0), .int v1]) (Mo_far v0 v1) := by
  refine mi_of (by decide) (fun _ => le_ rfl) ?_
  intro k res σ C hR hRm hnL h
  unfold Mo_far at h
  show WW k 0 [(0, .ref (ad k v0)), (1, .int v1)] [] σ
  refine ww_aload_n C 0 rfl rfl (dq dk_Mo_far 0 rfl) ?_
  refine ww_getr C ko_Mo 19 ho_v0 (lt_ rfl) g_6_69 rfl rfl (dq dk_Mo_far 1 rfl) ?_
  refine ww_aload_n C 0 rfl rfl (dq dk_Mo_far 2 rfl) ?_
  refine ww_getr C ko_Mo 14 ho_v0 (lt_ rfl) g_6_64 rfl rfl (dq dk_Mo_far 3 rfl) ?_
  refine ww_iload_n C 1 rfl rfl (dq dk_Mo_far 4 rfl) ?_
  refine ww_iald C (kc_Mo_14 _ ho_v0).1 (kc_Mo_14 _ ho_v0).2 (dq dk_Mo_far 5 rfl) h (fun x1 h => ?_)
  refine ww_iald C (kc_Mo_19 _ ho_v0).1 (kc_Mo_19 _ ho_v0).2 (dq dk_Mo_far 6 rfl) h (fun x2 h => ?_)
  refine ww_aload_n C 0 rfl rfl (dq dk_Mo_far 7 rfl) ?_
  refine ww_getr C ko_Mo 18 ho_v0 (lt_ rfl) g_6_68 rfl rfl (dq dk_Mo_far 8 rfl) ?_
  refine ww_iload_n C 1 rfl rfl (dq dk_Mo_far 9 rfl) ?_
  refine ww_iald C (kc_Mo_18 _ ho_v0).1 (kc_Mo_18 _ ho_v0).2 (dq dk_Mo_far 10 rfl) h (fun x3 h => ?_)
  refine ww_isub C (dq dk_Mo_far 11 rfl) ?_
  refine ww_aload_n C 0 rfl rfl (dq dk_Mo_far 12 rfl) ?_
  refine ww_iload_n C 1 rfl rfl (dq dk_Mo_far 13 rfl) ?_
  refine ww_cVi (st := [.int (x2 - x3)]) C (c_Mo_sizeOf v0 ho_v0 v1) cw_Mo_sizeOf ho_v0 (lt_ rfl) rfl g_7_130 hRm ⟨⟨rfl, rfl⟩, le_ rfl, le_ rfl⟩ rfl rfl rfl (le_ rfl) (dq dk_Mo_far 14 rfl) h (fun x5 σ4 h => ?_)
  refine ww_isub C (dq dk_Mo_far 15 rfl) ?_
  exact ww_iret C hR (dq dk_Mo_far 16 rfl) h
abbrev y_Mo_lengthens : MethodName := ⟨"BundleHouseModel", "lengthens", "()Z"⟩
def dl_Mo_lengthens : List (Nat × Instr × Nat) := [(0, .iconst 0, 1), (1, .istore_n 1, 1), (2, .iconst 0, 1), (3, .istore_n 2, 1), (4, .iload_n 2, 1), (5, .aload_n 0, 1), (6, .getfield 208, 3), (9, .if_icmp .ge 61, 3), (12, .aload_n 0, 1), (13, .getfield 23, 3), (16, .iload_n 2, 1), (17, .iaload, 1), (18, .iconst 1, 1), (19, .if_icmp .eq 13, 3), (22, .aload_n 0, 1), (23, .getfield 23, 3), (26, .iload_n 2, 1), (27, .iaload, 1), (28, .iconst 2, 1), (29, .if_icmp .ne 35, 3), (32, .aload_n 0, 1), (33, .getfield 53, 3), (36, .iload_n 2, 1), (37, .baload, 1), (38, .ifCond .ne 26, 3), (41, .aload_n 0, 1), (42, .iload_n 2, 1), (43, .invokevirtual 270, 3), (46, .invokestatic 238, 3), (49, .ifCond .eq 6, 3), (52, .goto 12, 3), (55, .aload_n 0, 1), (56, .getfield 102, 3), (59, .iload_n 2, 1), (60, .iconst 1, 1), (61, .iastore, 1), (62, .iconst 1, 1), (63, .istore_n 1, 1), (64, .iinc 2 1, 3), (67, .goto (-63), 3), (70, .iconst 0, 1), (71, .istore_n 2, 1), (72, .iload_n 2, 1), (73, .aload_n 0, 1), (74, .getfield 208, 3), (77, .if_icmp .ge 39, 3), (80, .aload_n 0, 1), (81, .getfield 53, 3), (84, .iload_n 2, 1), (85, .aload_n 0, 1), (86, .getfield 53, 3), (89, .iload_n 2, 1), (90, .baload, 1), (91, .ifCond .ne 13, 3), (94, .aload_n 0, 1), (95, .getfield 102, 3), (98, .iload_n 2, 1), (99, .iaload, 1), (100, .iconst 1, 1), (101, .if_icmp .ne 7, 3), (104, .iconst 1, 1), (105, .goto 4, 3), (108, .iconst 0, 1), (109, .bastore, 1), (110, .iinc 2 1, 3), (113, .goto (-41), 3), (116, .iload_n 1, 1), (117, .ireturn, 1)]
set_option maxRecDepth 100000 in
theorem dk_Mo_lengthens : ∀ q ∈ dl_Mo_lengthens, decode prog_14_method_45_code q.1 = .ok q.2 := by decide +kernel
abbrev rm_Mo_lengthens : Room := { frames := 7, cells := 0, slots := 0, locals := 166 }
theorem cw_Mo_lengthens : CWV y_Mo_lengthens prog_14_method_45_code 3 (some .boolean) 0 := ⟨⟨g_7_167, g_1_13, by decide, by decide, by decide +kernel⟩, g_7_166, gs_6_7⟩
set_option maxHeartbeats 4000000 in
set_option maxRecDepth 100000 in
theorem t_Mo_lengthens_B72 {k : Cfg} {res : Int32 × St} (C : Cx k prog_14_method_45_code "BundleHouseModel") (hR : RI k .boolean res) (hRm : k.2.2.2.1 = rm_Mo_lengthens) (hnL : k.2.2.2.2.2.2.2.2.2.2.2.1 = 3) : ∀ (n : Nat) (v0 : Nat) (v1 : Int32) (v2 : Int32) (ho_v0 : kd v0 = 12) (σ : St), Mo_lengthens_B72 n v0 v1 v2 σ = some res → WW k 72 [(0, .ref (ad k v0)), (1, .int v1), (2, .int v2)] [] σ := by
  intro n
  induction n with
  | zero =>
    intro v0 v1 v2 ho_v0 σ h
    have h : (none : Option (Int32 × St)) = some res := h
    cases h
  | succ n ih =>
    intro v0 v1 v2 ho_v0 σ h
    unfold Mo_lengthens_B72 at h
    refine ww_iload_n C 2 rfl rfl (dq dk_Mo_lengthens 42 rfl) ?_
    refine ww_aload_n C 0 rfl rfl (dq dk_Mo_lengthens 43 rfl) ?_
    refine ww_geti C ko_Mo 8 ho_v0 (lt_ rfl) g_6_58 rfl rfl (dq dk_Mo_lengthens 44 rfl) ?_
    refine ww_icmp_ge C 116 (dq dk_Mo_lengthens 45 rfl) (by decide) h (fun h => ?_) (fun h => ?_)
    · refine ww_iload_n C 1 rfl rfl (dq dk_Mo_lengthens 66 rfl) ?_
      exact ww_zret C hR (dq dk_Mo_lengthens 67 rfl) h
    · refine ww_aload_n C 0 rfl rfl (dq dk_Mo_lengthens 46 rfl) ?_
      refine ww_getr C ko_Mo 21 ho_v0 (lt_ rfl) g_6_71 rfl rfl (dq dk_Mo_lengthens 47 rfl) ?_
      refine ww_iload_n C 2 rfl rfl (dq dk_Mo_lengthens 48 rfl) ?_
      refine ww_aload_n C 0 rfl rfl (dq dk_Mo_lengthens 49 rfl) ?_
      refine ww_getr C ko_Mo 21 ho_v0 (lt_ rfl) g_6_71 rfl rfl (dq dk_Mo_lengthens 50 rfl) ?_
      refine ww_iload_n C 2 rfl rfl (dq dk_Mo_lengthens 51 rfl) ?_
      refine ww_zald C (kc_Mo_21 _ ho_v0).1 (kc_Mo_21 _ ho_v0).2 (dq dk_Mo_lengthens 52 rfl) h (fun x1 h => ?_)
      refine ww_if_ne C 104 (dq dk_Mo_lengthens 53 rfl) (by decide) h (fun h => ?_) (fun h => ?_)
      · refine ww_iconst C (dq dk_Mo_lengthens 60 rfl) ic_1 ?_
        refine ww_goto C 109 (dq dk_Mo_lengthens 61 rfl) (by decide) ?_
        refine ww_zastL C (kc_Mo_21 _ ho_v0).1 (kc_Mo_21 _ ho_v0).2 (Or.inr rfl) (dq dk_Mo_lengthens 63 rfl) h (fun σ2 h => ?_)
        refine ww_iinc C 2 (fun z => [(2, .int z), (0, .ref (ad k v0)), (1, .int v1)]) rfl ic_1 hnL (lt_ rfl) (fun _ => rfl) (dq dk_Mo_lengthens 64 rfl) h (fun x3 h => ?_)
        refine ww_goto C 72 (dq dk_Mo_lengthens 65 rfl) (by decide) ?_
        exact ww_lv [1, 2, 0] rfl (ih v0 v1 x3 ho_v0 σ2 h)
      · refine ww_aload_n C 0 rfl rfl (dq dk_Mo_lengthens 54 rfl) ?_
        refine ww_getr C ko_Mo 54 ho_v0 (lt_ rfl) g_6_104 rfl rfl (dq dk_Mo_lengthens 55 rfl) ?_
        refine ww_iload_n C 2 rfl rfl (dq dk_Mo_lengthens 56 rfl) ?_
        refine ww_iald C (kc_Mo_54 _ ho_v0).1 (kc_Mo_54 _ ho_v0).2 (dq dk_Mo_lengthens 57 rfl) h (fun x4 h => ?_)
        refine ww_iconst C (dq dk_Mo_lengthens 58 rfl) ic_1 ?_
        refine ww_icmp_ne C 108 (dq dk_Mo_lengthens 59 rfl) (by decide) h (fun h => ?_) (fun h => ?_)
        · refine ww_iconst C (dq dk_Mo_lengthens 62 rfl) ic_0 ?_
          refine ww_zastL C (kc_Mo_21 _ ho_v0).1 (kc_Mo_21 _ ho_v0).2 (Or.inl rfl) (dq dk_Mo_lengthens 63 rfl) h (fun σ5 h => ?_)
          refine ww_iinc C 2 (fun z => [(2, .int z), (0, .ref (ad k v0)), (1, .int v1)]) rfl ic_1 hnL (lt_ rfl) (fun _ => rfl) (dq dk_Mo_lengthens 64 rfl) h (fun x6 h => ?_)
          refine ww_goto C 72 (dq dk_Mo_lengthens 65 rfl) (by decide) ?_
          exact ww_lv [1, 2, 0] rfl (ih v0 v1 x6 ho_v0 σ5 h)
        · refine ww_iconst C (dq dk_Mo_lengthens 60 rfl) ic_1 ?_
          refine ww_goto C 109 (dq dk_Mo_lengthens 61 rfl) (by decide) ?_
          refine ww_zastL C (kc_Mo_21 _ ho_v0).1 (kc_Mo_21 _ ho_v0).2 (Or.inr rfl) (dq dk_Mo_lengthens 63 rfl) h (fun σ7 h => ?_)
          refine ww_iinc C 2 (fun z => [(2, .int z), (0, .ref (ad k v0)), (1, .int v1)]) rfl ic_1 hnL (lt_ rfl) (fun _ => rfl) (dq dk_Mo_lengthens 64 rfl) h (fun x8 h => ?_)
          refine ww_goto C 72 (dq dk_Mo_lengthens 65 rfl) (by decide) ?_
          exact ww_lv [1, 2, 0] rfl (ih v0 v1 x8 ho_v0 σ7 h)
set_option maxHeartbeats 4000000 in
set_option maxRecDepth 100000 in
theorem t_Mo_lengthens_B32 {k : Cfg} {res : Int32 × St} (C : Cx k prog_14_method_45_code "BundleHouseModel") (hR : RI k .boolean res) (hRm : k.2.2.2.1 = rm_Mo_lengthens) (hnL : k.2.2.2.2.2.2.2.2.2.2.2.1 = 3) {K4 : Nat → Int32 → Int32 → St → Option (Int32 × St)} (hK4 : ∀ (v0 : Nat) (v1 : Int32) (v2 : Int32) (ho_v0 : kd v0 = 12) (σ : St), K4 v0 v1 v2 σ = some res → WW k 4 [(0, .ref (ad k v0)), (1, .int v1), (2, .int v2)] [] σ) (v0 : Nat) (v1 : Int32) (v2 : Int32) (ho_v0 : kd v0 = 12) (σ : St) (h : Mo_lengthens_B32 K4 v0 v1 v2 σ = some res) : WW k 32 [(0, .ref (ad k v0)), (1, .int v1), (2, .int v2)] [] σ := by
  unfold Mo_lengthens_B32 at h
  refine ww_aload_n C 0 rfl rfl (dq dk_Mo_lengthens 20 rfl) ?_
  refine ww_getr C ko_Mo 21 ho_v0 (lt_ rfl) g_6_71 rfl rfl (dq dk_Mo_lengthens 21 rfl) ?_
  refine ww_iload_n C 2 rfl rfl (dq dk_Mo_lengthens 22 rfl) ?_
  refine ww_zald C (kc_Mo_21 _ ho_v0).1 (kc_Mo_21 _ ho_v0).2 (dq dk_Mo_lengthens 23 rfl) h (fun x1 h => ?_)
  refine ww_if_ne C 64 (dq dk_Mo_lengthens 24 rfl) (by decide) h (fun h => ?_) (fun h => ?_)
  · refine ww_iinc C 2 (fun z => [(2, .int z), (0, .ref (ad k v0)), (1, .int v1)]) rfl ic_1 hnL (lt_ rfl) (fun _ => rfl) (dq dk_Mo_lengthens 38 rfl) h (fun x2 h => ?_)
    refine ww_goto C 4 (dq dk_Mo_lengthens 39 rfl) (by decide) ?_
    exact ww_lv [1, 2, 0] rfl (hK4 v0 v1 x2 ho_v0 σ h)
  · refine ww_aload_n C 0 rfl rfl (dq dk_Mo_lengthens 25 rfl) ?_
    refine ww_iload_n C 2 rfl rfl (dq dk_Mo_lengthens 26 rfl) ?_
    refine ww_cVi (st := []) C (c_Mo_far v0 ho_v0 v2) cw_Mo_far ho_v0 (lt_ rfl) rfl g_7_168 hRm ⟨⟨rfl, rfl⟩, le_ rfl, le_ rfl⟩ rfl rfl rfl (le_ rfl) (dq dk_Mo_lengthens 27 rfl) h (fun x4 σ3 h => ?_)
    refine ww_cSi (st := []) C (c_Mo_isSmall x4) cw_Mo_isSmall g_7_157 hRm ⟨⟨rfl, rfl⟩, le_ rfl, le_ rfl⟩ rfl rfl rfl (le_ rfl) (dq dk_Mo_lengthens 28 rfl) h (fun x6 σ5 h => ?_)
    refine ww_if_eq C 55 (dq dk_Mo_lengthens 29 rfl) (by decide) h (fun h => ?_) (fun h => ?_)
    · refine ww_aload_n C 0 rfl rfl (dq dk_Mo_lengthens 31 rfl) ?_
      refine ww_getr C ko_Mo 54 ho_v0 (lt_ rfl) g_6_104 rfl rfl (dq dk_Mo_lengthens 32 rfl) ?_
      refine ww_iload_n C 2 rfl rfl (dq dk_Mo_lengthens 33 rfl) ?_
      refine ww_iconst C (dq dk_Mo_lengthens 34 rfl) ic_1 ?_
      refine ww_iast C (kc_Mo_54 _ ho_v0).1 (kc_Mo_54 _ ho_v0).2 (dq dk_Mo_lengthens 35 rfl) h (fun σ7 h => ?_)
      refine ww_iconst C (dq dk_Mo_lengthens 36 rfl) ic_1 ?_
      refine ww_istore_n C [(1, .int 1), (0, .ref (ad k v0)), (2, .int v2)] rfl hnL (lt_ rfl) rfl (dq dk_Mo_lengthens 37 rfl) ?_
      refine ww_iinc C 2 (fun z => [(2, .int z), (1, .int 1), (0, .ref (ad k v0))]) rfl ic_1 hnL (lt_ rfl) (fun _ => rfl) (dq dk_Mo_lengthens 38 rfl) h (fun x8 h => ?_)
      refine ww_goto C 4 (dq dk_Mo_lengthens 39 rfl) (by decide) ?_
      exact ww_lv [2, 1, 0] rfl (hK4 v0 1 x8 ho_v0 σ7 h)
    · refine ww_goto C 64 (dq dk_Mo_lengthens 30 rfl) (by decide) ?_
      refine ww_iinc C 2 (fun z => [(2, .int z), (0, .ref (ad k v0)), (1, .int v1)]) rfl ic_1 hnL (lt_ rfl) (fun _ => rfl) (dq dk_Mo_lengthens 38 rfl) h (fun x9 h => ?_)
      refine ww_goto C 4 (dq dk_Mo_lengthens 39 rfl) (by decide) ?_
      exact ww_lv [1, 2, 0] rfl (hK4 v0 v1 x9 ho_v0 σ5 h)
set_option maxHeartbeats 4000000 in
set_option maxRecDepth 100000 in
theorem t_Mo_lengthens_B4 {k : Cfg} {res : Int32 × St} (C : Cx k prog_14_method_45_code "BundleHouseModel") (hR : RI k .boolean res) (hRm : k.2.2.2.1 = rm_Mo_lengthens) (hnL : k.2.2.2.2.2.2.2.2.2.2.2.1 = 3) : ∀ (n : Nat) (v0 : Nat) (v1 : Int32) (v2 : Int32) (ho_v0 : kd v0 = 12) (σ : St), Mo_lengthens_B4 n v0 v1 v2 σ = some res → WW k 4 [(0, .ref (ad k v0)), (1, .int v1), (2, .int v2)] [] σ := by
  intro n
  induction n with
  | zero =>
    intro v0 v1 v2 ho_v0 σ h
    have h : (none : Option (Int32 × St)) = some res := h
    cases h
  | succ n ih =>
    intro v0 v1 v2 ho_v0 σ h
    unfold Mo_lengthens_B4 at h
    refine ww_iload_n C 2 rfl rfl (dq dk_Mo_lengthens 4 rfl) ?_
    refine ww_aload_n C 0 rfl rfl (dq dk_Mo_lengthens 5 rfl) ?_
    refine ww_geti C ko_Mo 8 ho_v0 (lt_ rfl) g_6_58 rfl rfl (dq dk_Mo_lengthens 6 rfl) ?_
    refine ww_icmp_ge C 70 (dq dk_Mo_lengthens 7 rfl) (by decide) h (fun h => ?_) (fun h => ?_)
    · refine ww_iconst C (dq dk_Mo_lengthens 40 rfl) ic_0 ?_
      refine ww_istore_n C [(2, .int 0), (0, .ref (ad k v0)), (1, .int v1)] rfl hnL (lt_ rfl) rfl (dq dk_Mo_lengthens 41 rfl) ?_
      exact ww_lv [1, 2, 0] rfl (t_Mo_lengthens_B72 C hR hRm hnL FU v0 v1 0 ho_v0 σ h)
    · refine ww_aload_n C 0 rfl rfl (dq dk_Mo_lengthens 8 rfl) ?_
      refine ww_getr C ko_Mo 11 ho_v0 (lt_ rfl) g_6_61 rfl rfl (dq dk_Mo_lengthens 9 rfl) ?_
      refine ww_iload_n C 2 rfl rfl (dq dk_Mo_lengthens 10 rfl) ?_
      refine ww_iald C (kc_Mo_11 _ ho_v0).1 (kc_Mo_11 _ ho_v0).2 (dq dk_Mo_lengthens 11 rfl) h (fun x1 h => ?_)
      refine ww_iconst C (dq dk_Mo_lengthens 12 rfl) ic_1 ?_
      refine ww_icmp_eq C 32 (dq dk_Mo_lengthens 13 rfl) (by decide) h (fun h => ?_) (fun h => ?_)
      · exact ww_lv [0, 1, 2] rfl (t_Mo_lengthens_B32 C hR hRm hnL ih v0 v1 v2 ho_v0 σ h)
      · refine ww_aload_n C 0 rfl rfl (dq dk_Mo_lengthens 14 rfl) ?_
        refine ww_getr C ko_Mo 11 ho_v0 (lt_ rfl) g_6_61 rfl rfl (dq dk_Mo_lengthens 15 rfl) ?_
        refine ww_iload_n C 2 rfl rfl (dq dk_Mo_lengthens 16 rfl) ?_
        refine ww_iald C (kc_Mo_11 _ ho_v0).1 (kc_Mo_11 _ ho_v0).2 (dq dk_Mo_lengthens 17 rfl) h (fun x2 h => ?_)
        refine ww_iconst C (dq dk_Mo_lengthens 18 rfl) ic_2 ?_
        refine ww_icmp_ne C 64 (dq dk_Mo_lengthens 19 rfl) (by decide) h (fun h => ?_) (fun h => ?_)
        · refine ww_iinc C 2 (fun z => [(2, .int z), (0, .ref (ad k v0)), (1, .int v1)]) rfl ic_1 hnL (lt_ rfl) (fun _ => rfl) (dq dk_Mo_lengthens 38 rfl) h (fun x3 h => ?_)
          refine ww_goto C 4 (dq dk_Mo_lengthens 39 rfl) (by decide) ?_
          exact ww_lv [1, 2, 0] rfl (ih v0 v1 x3 ho_v0 σ h)
        · exact ww_lv [0, 1, 2] rfl (t_Mo_lengthens_B32 C hR hRm hnL ih v0 v1 v2 ho_v0 σ h)
set_option maxHeartbeats 4000000 in
set_option maxRecDepth 100000 in
theorem c_Mo_lengthens (v0 : Nat) (ho_v0 : kd v0 = 12) : MI y_Mo_lengthens rm_Mo_lengthens prog_14_method_45_code 3 .boolean (fun a => [.ref (a v0)]) (Mo_lengthens v0) := by
  refine mi_of (by decide) (fun _ => le_ rfl) ?_
  intro k res σ C hR hRm hnL h
  unfold Mo_lengthens at h
  show WW k 0 [(0, .ref (ad k v0))] [] σ
  refine ww_iconst C (dq dk_Mo_lengthens 0 rfl) ic_0 ?_
  refine ww_istore_n C [(1, .int 0), (0, .ref (ad k v0))] rfl hnL (lt_ rfl) rfl (dq dk_Mo_lengthens 1 rfl) ?_
  refine ww_iconst C (dq dk_Mo_lengthens 2 rfl) ic_0 ?_
  refine ww_istore_n C [(2, .int 0), (1, .int 0), (0, .ref (ad k v0))] rfl hnL (lt_ rfl) rfl (dq dk_Mo_lengthens 3 rfl) ?_
  exact ww_lv [2, 1, 0] rfl (t_Mo_lengthens_B4 C hR hRm hnL FU v0 0 0 ho_v0 σ h)
abbrev y_Mo_firstWrong : MethodName := ⟨"BundleHouseModel", "firstWrong", "()I"⟩
def dl_Mo_firstWrong : List (Nat × Instr × Nat) := [(0, .iconst 0, 1), (1, .istore_n 1, 1), (2, .iload_n 1, 1), (3, .bipush 40, 2), (5, .if_icmp .ge 16, 3), (8, .aload_n 0, 1), (9, .getfield 50, 3), (12, .iload_n 1, 1), (13, .iconst (-1), 1), (14, .iastore, 1), (15, .iinc 1 1, 3), (18, .goto (-16), 3), (21, .aload_n 0, 1), (22, .getfield 208, 3), (25, .iconst 1, 1), (26, .isub, 1), (27, .istore_n 1, 1), (28, .iload_n 1, 1), (29, .ifCond .lt 30, 3), (32, .aload_n 0, 1), (33, .getfield 23, 3), (36, .iload_n 1, 1), (37, .iaload, 1), (38, .ifCond .ne 15, 3), (41, .aload_n 0, 1), (42, .getfield 50, 3), (45, .aload_n 0, 1), (46, .getfield 32, 3), (49, .iload_n 1, 1), (50, .iaload, 1), (51, .iload_n 1, 1), (52, .iastore, 1), (53, .iinc 1 (-1), 3), (56, .goto (-28), 3), (59, .iconst 0, 1), (60, .istore_n 1, 1), (61, .iload_n 1, 1), (62, .aload_n 0, 1), (63, .getfield 208, 3), (66, .if_icmp .ge 124, 3), (69, .aload_n 0, 1), (70, .getfield 23, 3), (73, .iload_n 1, 1), (74, .iaload, 1), (75, .istore_n 2, 1), (76, .iload_n 2, 1), (77, .ifCond .ne 24, 3), (80, .aload_n 0, 1), (81, .getfield 50, 3), (84, .aload_n 0, 1), (85, .getfield 32, 3), (88, .iload_n 1, 1), (89, .iaload, 1), (90, .iaload, 1), (91, .iload_n 1, 1), (92, .if_icmp .eq 9, 3), (95, .sipush 1000, 3), (98, .iload_n 1, 1), (99, .iadd, 1), (100, .ireturn, 1), (101, .iload_n 2, 1), (102, .iconst 1, 1), (103, .if_icmp .eq 19, 3), (106, .iload_n 2, 1), (107, .iconst 2, 1), (108, .if_icmp .eq 14, 3), (111, .iload_n 2, 1), (112, .iconst 3, 1), (113, .if_icmp .eq 9, 3), (116, .iload_n 2, 1), (117, .bipush 8, 2), (119, .if_icmp .ne 7, 3), (122, .iconst 1, 1), (123, .goto 4, 3), (126, .iconst 0, 1), (127, .istore_n 3, 1), (128, .iload_n 3, 1), (129, .ifCond .eq 24, 3), (132, .aload_n 0, 1), (133, .getfield 50, 3), (136, .aload_n 0, 1), (137, .getfield 32, 3), (140, .iload_n 1, 1), (141, .iaload, 1), (142, .iaload, 1), (143, .iconst (-1), 1), (144, .if_icmp .ne 9, 3), (147, .sipush 2000, 3), (150, .iload_n 1, 1), (151, .iadd, 1), (152, .ireturn, 1), (153, .iload_n 2, 1), (154, .bipush 8, 2), (156, .if_icmp .ne 28, 3), (159, .aload_n 0, 1), (160, .getfield 35, 3), (163, .aload_n 0, 1), (164, .getfield 50, 3), (167, .aload_n 0, 1), (168, .getfield 32, 3), (171, .iload_n 1, 1), (172, .iaload, 1), (173, .iaload, 1), (174, .iaload, 1), (175, .ifCond .ne 9, 3), (178, .sipush 3000, 3), (181, .iload_n 1, 1), (182, .iadd, 1), (183, .ireturn, 1), (184, .iinc 1 1, 3), (187, .goto (-126), 3), (190, .iconst 0, 1), (191, .ireturn, 1)]
set_option maxRecDepth 100000 in
theorem dk_Mo_firstWrong : ∀ q ∈ dl_Mo_firstWrong, decode prog_14_method_46_code q.1 = .ok q.2 := by decide +kernel
abbrev rm_Mo_firstWrong : Room := { frames := 0, cells := 0, slots := 0, locals := 0 }
theorem cw_Mo_firstWrong : CWV y_Mo_firstWrong prog_14_method_46_code 4 (some .int) 0 := ⟨⟨g_7_121, g_1_13, by decide, by decide, by decide +kernel⟩, g_7_120, gs_5_13⟩
set_option maxHeartbeats 4000000 in
set_option maxRecDepth 100000 in
theorem t_Mo_firstWrong_B153 {k : Cfg} {res : Int32 × St} (C : Cx k prog_14_method_46_code "BundleHouseModel") (hR : RI k .int res) (hRm : k.2.2.2.1 = rm_Mo_firstWrong) (hnL : k.2.2.2.2.2.2.2.2.2.2.2.1 = 4) {K61 : Nat → Int32 → St → Option (Int32 × St)} (hK61 : ∀ (v0 : Nat) (v1 : Int32) (ho_v0 : kd v0 = 12) (σ : St), K61 v0 v1 σ = some res → WW k 61 [(0, .ref (ad k v0)), (1, .int v1)] [] σ) (v0 : Nat) (v1 : Int32) (v2 : Int32) (ho_v0 : kd v0 = 12) (σ : St) (h : Mo_firstWrong_B153 K61 v0 v1 v2 σ = some res) : WW k 153 [(0, .ref (ad k v0)), (1, .int v1), (2, .int v2)] [] σ := by
  unfold Mo_firstWrong_B153 at h
  refine ww_iload_n C 2 rfl rfl (dq dk_Mo_firstWrong 91 rfl) ?_
  refine ww_bipush C (dq dk_Mo_firstWrong 92 rfl) bp_8 ?_
  refine ww_icmp_ne C 184 (dq dk_Mo_firstWrong 93 rfl) (by decide) h (fun h => ?_) (fun h => ?_)
  · refine ww_iinc C 1 (fun z => [(1, .int z), (0, .ref (ad k v0)), (2, .int v2)]) rfl ic_1 hnL (lt_ rfl) (fun _ => rfl) (dq dk_Mo_firstWrong 109 rfl) h (fun x1 h => ?_)
    refine ww_goto C 61 (dq dk_Mo_firstWrong 110 rfl) (by decide) ?_
    exact ww_lv [1, 0] rfl (hK61 v0 x1 ho_v0 σ h)
  · refine ww_aload_n C 0 rfl rfl (dq dk_Mo_firstWrong 94 rfl) ?_
    refine ww_getr C ko_Mo 15 ho_v0 (lt_ rfl) g_6_65 rfl rfl (dq dk_Mo_firstWrong 95 rfl) ?_
    refine ww_aload_n C 0 rfl rfl (dq dk_Mo_firstWrong 96 rfl) ?_
    refine ww_getr C ko_Mo 20 ho_v0 (lt_ rfl) g_6_70 rfl rfl (dq dk_Mo_firstWrong 97 rfl) ?_
    refine ww_aload_n C 0 rfl rfl (dq dk_Mo_firstWrong 98 rfl) ?_
    refine ww_getr C ko_Mo 14 ho_v0 (lt_ rfl) g_6_64 rfl rfl (dq dk_Mo_firstWrong 99 rfl) ?_
    refine ww_iload_n C 1 rfl rfl (dq dk_Mo_firstWrong 100 rfl) ?_
    refine ww_iald C (kc_Mo_14 _ ho_v0).1 (kc_Mo_14 _ ho_v0).2 (dq dk_Mo_firstWrong 101 rfl) h (fun x2 h => ?_)
    refine ww_iald C (kc_Mo_20 _ ho_v0).1 (kc_Mo_20 _ ho_v0).2 (dq dk_Mo_firstWrong 102 rfl) h (fun x3 h => ?_)
    refine ww_iald C (kc_Mo_15 _ ho_v0).1 (kc_Mo_15 _ ho_v0).2 (dq dk_Mo_firstWrong 103 rfl) h (fun x4 h => ?_)
    refine ww_if_ne C 184 (dq dk_Mo_firstWrong 104 rfl) (by decide) h (fun h => ?_) (fun h => ?_)
    · refine ww_iinc C 1 (fun z => [(1, .int z), (0, .ref (ad k v0)), (2, .int v2)]) rfl ic_1 hnL (lt_ rfl) (fun _ => rfl) (dq dk_Mo_firstWrong 109 rfl) h (fun x5 h => ?_)
      refine ww_goto C 61 (dq dk_Mo_firstWrong 110 rfl) (by decide) ?_
      exact ww_lv [1, 0] rfl (hK61 v0 x5 ho_v0 σ h)
    · refine ww_sipush C (dq dk_Mo_firstWrong 105 rfl) sp_3000 ?_
      refine ww_iload_n C 1 rfl rfl (dq dk_Mo_firstWrong 106 rfl) ?_
      refine ww_iadd C (dq dk_Mo_firstWrong 107 rfl) ?_
      exact ww_iret C hR (dq dk_Mo_firstWrong 108 rfl) h
set_option maxHeartbeats 4000000 in
set_option maxRecDepth 100000 in
theorem t_Mo_firstWrong_B127 {k : Cfg} {res : Int32 × St} (C : Cx k prog_14_method_46_code "BundleHouseModel") (hR : RI k .int res) (hRm : k.2.2.2.1 = rm_Mo_firstWrong) (hnL : k.2.2.2.2.2.2.2.2.2.2.2.1 = 4) {K61 : Nat → Int32 → St → Option (Int32 × St)} (hK61 : ∀ (v0 : Nat) (v1 : Int32) (ho_v0 : kd v0 = 12) (σ : St), K61 v0 v1 σ = some res → WW k 61 [(0, .ref (ad k v0)), (1, .int v1)] [] σ) (v0 : Nat) (v1 : Int32) (v2 : Int32) (t0 : Int32) (ho_v0 : kd v0 = 12) (σ : St) (h : Mo_firstWrong_B127 K61 v0 v1 v2 t0 σ = some res) : WW k 127 [(0, .ref (ad k v0)), (1, .int v1), (2, .int v2)] [.int t0] σ := by
  unfold Mo_firstWrong_B127 at h
  refine ww_istore_n C [(3, .int t0), (0, .ref (ad k v0)), (1, .int v1), (2, .int v2)] rfl hnL (lt_ rfl) rfl (dq dk_Mo_firstWrong 75 rfl) ?_
  refine ww_iload_n C 0 rfl rfl (dq dk_Mo_firstWrong 76 rfl) ?_
  refine ww_if_eq C 153 (dq dk_Mo_firstWrong 77 rfl) (by decide) h (fun h => ?_) (fun h => ?_)
  · exact ww_lv [1, 2, 3] rfl (t_Mo_firstWrong_B153 C hR hRm hnL hK61 v0 v1 v2 ho_v0 σ h)
  · refine ww_aload_n C 1 rfl rfl (dq dk_Mo_firstWrong 78 rfl) ?_
    refine ww_getr C ko_Mo 20 ho_v0 (lt_ rfl) g_6_70 rfl rfl (dq dk_Mo_firstWrong 79 rfl) ?_
    refine ww_aload_n C 1 rfl rfl (dq dk_Mo_firstWrong 80 rfl) ?_
    refine ww_getr C ko_Mo 14 ho_v0 (lt_ rfl) g_6_64 rfl rfl (dq dk_Mo_firstWrong 81 rfl) ?_
    refine ww_iload_n C 2 rfl rfl (dq dk_Mo_firstWrong 82 rfl) ?_
    refine ww_iald C (kc_Mo_14 _ ho_v0).1 (kc_Mo_14 _ ho_v0).2 (dq dk_Mo_firstWrong 83 rfl) h (fun x1 h => ?_)
    refine ww_iald C (kc_Mo_20 _ ho_v0).1 (kc_Mo_20 _ ho_v0).2 (dq dk_Mo_firstWrong 84 rfl) h (fun x2 h => ?_)
    refine ww_iconst C (dq dk_Mo_firstWrong 85 rfl) ic_m1 ?_
    refine ww_icmp_ne C 153 (dq dk_Mo_firstWrong 86 rfl) (by decide) h (fun h => ?_) (fun h => ?_)
    · exact ww_lv [1, 2, 3] rfl (t_Mo_firstWrong_B153 C hR hRm hnL hK61 v0 v1 v2 ho_v0 σ h)
    · refine ww_sipush C (dq dk_Mo_firstWrong 87 rfl) sp_2000 ?_
      refine ww_iload_n C 2 rfl rfl (dq dk_Mo_firstWrong 88 rfl) ?_
      refine ww_iadd C (dq dk_Mo_firstWrong 89 rfl) ?_
      exact ww_iret C hR (dq dk_Mo_firstWrong 90 rfl) h
set_option maxHeartbeats 4000000 in
set_option maxRecDepth 100000 in
theorem t_Mo_firstWrong_B101 {k : Cfg} {res : Int32 × St} (C : Cx k prog_14_method_46_code "BundleHouseModel") (hR : RI k .int res) (hRm : k.2.2.2.1 = rm_Mo_firstWrong) (hnL : k.2.2.2.2.2.2.2.2.2.2.2.1 = 4) {K61 : Nat → Int32 → St → Option (Int32 × St)} (hK61 : ∀ (v0 : Nat) (v1 : Int32) (ho_v0 : kd v0 = 12) (σ : St), K61 v0 v1 σ = some res → WW k 61 [(0, .ref (ad k v0)), (1, .int v1)] [] σ) (v0 : Nat) (v1 : Int32) (v2 : Int32) (ho_v0 : kd v0 = 12) (σ : St) (h : Mo_firstWrong_B101 K61 v0 v1 v2 σ = some res) : WW k 101 [(0, .ref (ad k v0)), (1, .int v1), (2, .int v2)] [] σ := by
  unfold Mo_firstWrong_B101 at h
  refine ww_iload_n C 2 rfl rfl (dq dk_Mo_firstWrong 60 rfl) ?_
  refine ww_iconst C (dq dk_Mo_firstWrong 61 rfl) ic_1 ?_
  refine ww_icmp_eq C 122 (dq dk_Mo_firstWrong 62 rfl) (by decide) h (fun h => ?_) (fun h => ?_)
  · refine ww_iconst C (dq dk_Mo_firstWrong 72 rfl) ic_1 ?_
    refine ww_goto C 127 (dq dk_Mo_firstWrong 73 rfl) (by decide) ?_
    exact ww_lv [0, 1, 2] rfl (t_Mo_firstWrong_B127 C hR hRm hnL hK61 v0 v1 v2 1 ho_v0 σ h)
  · refine ww_iload_n C 2 rfl rfl (dq dk_Mo_firstWrong 63 rfl) ?_
    refine ww_iconst C (dq dk_Mo_firstWrong 64 rfl) ic_2 ?_
    refine ww_icmp_eq C 122 (dq dk_Mo_firstWrong 65 rfl) (by decide) h (fun h => ?_) (fun h => ?_)
    · refine ww_iconst C (dq dk_Mo_firstWrong 72 rfl) ic_1 ?_
      refine ww_goto C 127 (dq dk_Mo_firstWrong 73 rfl) (by decide) ?_
      exact ww_lv [0, 1, 2] rfl (t_Mo_firstWrong_B127 C hR hRm hnL hK61 v0 v1 v2 1 ho_v0 σ h)
    · refine ww_iload_n C 2 rfl rfl (dq dk_Mo_firstWrong 66 rfl) ?_
      refine ww_iconst C (dq dk_Mo_firstWrong 67 rfl) ic_3 ?_
      refine ww_icmp_eq C 122 (dq dk_Mo_firstWrong 68 rfl) (by decide) h (fun h => ?_) (fun h => ?_)
      · refine ww_iconst C (dq dk_Mo_firstWrong 72 rfl) ic_1 ?_
        refine ww_goto C 127 (dq dk_Mo_firstWrong 73 rfl) (by decide) ?_
        exact ww_lv [0, 1, 2] rfl (t_Mo_firstWrong_B127 C hR hRm hnL hK61 v0 v1 v2 1 ho_v0 σ h)
      · refine ww_iload_n C 2 rfl rfl (dq dk_Mo_firstWrong 69 rfl) ?_
        refine ww_bipush C (dq dk_Mo_firstWrong 70 rfl) bp_8 ?_
        refine ww_icmp_ne C 126 (dq dk_Mo_firstWrong 71 rfl) (by decide) h (fun h => ?_) (fun h => ?_)
        · refine ww_iconst C (dq dk_Mo_firstWrong 74 rfl) ic_0 ?_
          exact ww_lv [0, 1, 2] rfl (t_Mo_firstWrong_B127 C hR hRm hnL hK61 v0 v1 v2 0 ho_v0 σ h)
        · refine ww_iconst C (dq dk_Mo_firstWrong 72 rfl) ic_1 ?_
          refine ww_goto C 127 (dq dk_Mo_firstWrong 73 rfl) (by decide) ?_
          exact ww_lv [0, 1, 2] rfl (t_Mo_firstWrong_B127 C hR hRm hnL hK61 v0 v1 v2 1 ho_v0 σ h)
set_option maxHeartbeats 4000000 in
set_option maxRecDepth 100000 in
theorem t_Mo_firstWrong_B61 {k : Cfg} {res : Int32 × St} (C : Cx k prog_14_method_46_code "BundleHouseModel") (hR : RI k .int res) (hRm : k.2.2.2.1 = rm_Mo_firstWrong) (hnL : k.2.2.2.2.2.2.2.2.2.2.2.1 = 4) : ∀ (n : Nat) (v0 : Nat) (v1 : Int32) (ho_v0 : kd v0 = 12) (σ : St), Mo_firstWrong_B61 n v0 v1 σ = some res → WW k 61 [(0, .ref (ad k v0)), (1, .int v1)] [] σ := by
  intro n
  induction n with
  | zero =>
    intro v0 v1 ho_v0 σ h
    have h : (none : Option (Int32 × St)) = some res := h
    cases h
  | succ n ih =>
    intro v0 v1 ho_v0 σ h
    unfold Mo_firstWrong_B61 at h
    refine ww_iload_n C 1 rfl rfl (dq dk_Mo_firstWrong 36 rfl) ?_
    refine ww_aload_n C 0 rfl rfl (dq dk_Mo_firstWrong 37 rfl) ?_
    refine ww_geti C ko_Mo 8 ho_v0 (lt_ rfl) g_6_58 rfl rfl (dq dk_Mo_firstWrong 38 rfl) ?_
    refine ww_icmp_ge C 190 (dq dk_Mo_firstWrong 39 rfl) (by decide) h (fun h => ?_) (fun h => ?_)
    · refine ww_iconst C (dq dk_Mo_firstWrong 111 rfl) ic_0 ?_
      exact ww_iret C hR (dq dk_Mo_firstWrong 112 rfl) h
    · refine ww_aload_n C 0 rfl rfl (dq dk_Mo_firstWrong 40 rfl) ?_
      refine ww_getr C ko_Mo 11 ho_v0 (lt_ rfl) g_6_61 rfl rfl (dq dk_Mo_firstWrong 41 rfl) ?_
      refine ww_iload_n C 1 rfl rfl (dq dk_Mo_firstWrong 42 rfl) ?_
      refine ww_iald C (kc_Mo_11 _ ho_v0).1 (kc_Mo_11 _ ho_v0).2 (dq dk_Mo_firstWrong 43 rfl) h (fun x1 h => ?_)
      refine ww_istore_n C [(2, .int x1), (0, .ref (ad k v0)), (1, .int v1)] rfl hnL (lt_ rfl) rfl (dq dk_Mo_firstWrong 44 rfl) ?_
      refine ww_iload_n C 0 rfl rfl (dq dk_Mo_firstWrong 45 rfl) ?_
      refine ww_if_ne C 101 (dq dk_Mo_firstWrong 46 rfl) (by decide) h (fun h => ?_) (fun h => ?_)
      · exact ww_lv [1, 2, 0] rfl (t_Mo_firstWrong_B101 C hR hRm hnL ih v0 v1 x1 ho_v0 σ h)
      · refine ww_aload_n C 1 rfl rfl (dq dk_Mo_firstWrong 47 rfl) ?_
        refine ww_getr C ko_Mo 20 ho_v0 (lt_ rfl) g_6_70 rfl rfl (dq dk_Mo_firstWrong 48 rfl) ?_
        refine ww_aload_n C 1 rfl rfl (dq dk_Mo_firstWrong 49 rfl) ?_
        refine ww_getr C ko_Mo 14 ho_v0 (lt_ rfl) g_6_64 rfl rfl (dq dk_Mo_firstWrong 50 rfl) ?_
        refine ww_iload_n C 2 rfl rfl (dq dk_Mo_firstWrong 51 rfl) ?_
        refine ww_iald C (kc_Mo_14 _ ho_v0).1 (kc_Mo_14 _ ho_v0).2 (dq dk_Mo_firstWrong 52 rfl) h (fun x2 h => ?_)
        refine ww_iald C (kc_Mo_20 _ ho_v0).1 (kc_Mo_20 _ ho_v0).2 (dq dk_Mo_firstWrong 53 rfl) h (fun x3 h => ?_)
        refine ww_iload_n C 2 rfl rfl (dq dk_Mo_firstWrong 54 rfl) ?_
        refine ww_icmp_eq C 101 (dq dk_Mo_firstWrong 55 rfl) (by decide) h (fun h => ?_) (fun h => ?_)
        · exact ww_lv [1, 2, 0] rfl (t_Mo_firstWrong_B101 C hR hRm hnL ih v0 v1 x1 ho_v0 σ h)
        · refine ww_sipush C (dq dk_Mo_firstWrong 56 rfl) sp_1000 ?_
          refine ww_iload_n C 2 rfl rfl (dq dk_Mo_firstWrong 57 rfl) ?_
          refine ww_iadd C (dq dk_Mo_firstWrong 58 rfl) ?_
          exact ww_iret C hR (dq dk_Mo_firstWrong 59 rfl) h
set_option maxHeartbeats 4000000 in
set_option maxRecDepth 100000 in
theorem t_Mo_firstWrong_B28 {k : Cfg} {res : Int32 × St} (C : Cx k prog_14_method_46_code "BundleHouseModel") (hR : RI k .int res) (hRm : k.2.2.2.1 = rm_Mo_firstWrong) (hnL : k.2.2.2.2.2.2.2.2.2.2.2.1 = 4) : ∀ (n : Nat) (v0 : Nat) (v1 : Int32) (ho_v0 : kd v0 = 12) (σ : St), Mo_firstWrong_B28 n v0 v1 σ = some res → WW k 28 [(0, .ref (ad k v0)), (1, .int v1)] [] σ := by
  intro n
  induction n with
  | zero =>
    intro v0 v1 ho_v0 σ h
    have h : (none : Option (Int32 × St)) = some res := h
    cases h
  | succ n ih =>
    intro v0 v1 ho_v0 σ h
    unfold Mo_firstWrong_B28 at h
    refine ww_iload_n C 1 rfl rfl (dq dk_Mo_firstWrong 17 rfl) ?_
    refine ww_if_lt C 59 (dq dk_Mo_firstWrong 18 rfl) (by decide) h (fun h => ?_) (fun h => ?_)
    · refine ww_iconst C (dq dk_Mo_firstWrong 34 rfl) ic_0 ?_
      refine ww_istore_n C [(1, .int 0), (0, .ref (ad k v0))] rfl hnL (lt_ rfl) rfl (dq dk_Mo_firstWrong 35 rfl) ?_
      exact ww_lv [1, 0] rfl (t_Mo_firstWrong_B61 C hR hRm hnL FU v0 0 ho_v0 σ h)
    · refine ww_aload_n C 0 rfl rfl (dq dk_Mo_firstWrong 19 rfl) ?_
      refine ww_getr C ko_Mo 11 ho_v0 (lt_ rfl) g_6_61 rfl rfl (dq dk_Mo_firstWrong 20 rfl) ?_
      refine ww_iload_n C 1 rfl rfl (dq dk_Mo_firstWrong 21 rfl) ?_
      refine ww_iald C (kc_Mo_11 _ ho_v0).1 (kc_Mo_11 _ ho_v0).2 (dq dk_Mo_firstWrong 22 rfl) h (fun x1 h => ?_)
      refine ww_if_ne C 53 (dq dk_Mo_firstWrong 23 rfl) (by decide) h (fun h => ?_) (fun h => ?_)
      · refine ww_iinc C 1 (fun z => [(1, .int z), (0, .ref (ad k v0))]) rfl ic_m1 hnL (lt_ rfl) (fun _ => rfl) (dq dk_Mo_firstWrong 32 rfl) h (fun x2 h => ?_)
        refine ww_goto C 28 (dq dk_Mo_firstWrong 33 rfl) (by decide) ?_
        exact ww_lv [1, 0] rfl (ih v0 x2 ho_v0 σ h)
      · refine ww_aload_n C 0 rfl rfl (dq dk_Mo_firstWrong 24 rfl) ?_
        refine ww_getr C ko_Mo 20 ho_v0 (lt_ rfl) g_6_70 rfl rfl (dq dk_Mo_firstWrong 25 rfl) ?_
        refine ww_aload_n C 0 rfl rfl (dq dk_Mo_firstWrong 26 rfl) ?_
        refine ww_getr C ko_Mo 14 ho_v0 (lt_ rfl) g_6_64 rfl rfl (dq dk_Mo_firstWrong 27 rfl) ?_
        refine ww_iload_n C 1 rfl rfl (dq dk_Mo_firstWrong 28 rfl) ?_
        refine ww_iald C (kc_Mo_14 _ ho_v0).1 (kc_Mo_14 _ ho_v0).2 (dq dk_Mo_firstWrong 29 rfl) h (fun x3 h => ?_)
        refine ww_iload_n C 1 rfl rfl (dq dk_Mo_firstWrong 30 rfl) ?_
        refine ww_iast C (kc_Mo_20 _ ho_v0).1 (kc_Mo_20 _ ho_v0).2 (dq dk_Mo_firstWrong 31 rfl) h (fun σ4 h => ?_)
        refine ww_iinc C 1 (fun z => [(1, .int z), (0, .ref (ad k v0))]) rfl ic_m1 hnL (lt_ rfl) (fun _ => rfl) (dq dk_Mo_firstWrong 32 rfl) h (fun x5 h => ?_)
        refine ww_goto C 28 (dq dk_Mo_firstWrong 33 rfl) (by decide) ?_
        exact ww_lv [1, 0] rfl (ih v0 x5 ho_v0 σ4 h)
set_option maxHeartbeats 4000000 in
set_option maxRecDepth 100000 in
theorem t_Mo_firstWrong_B2 {k : Cfg} {res : Int32 × St} (C : Cx k prog_14_method_46_code "BundleHouseModel") (hR : RI k .int res) (hRm : k.2.2.2.1 = rm_Mo_firstWrong) (hnL : k.2.2.2.2.2.2.2.2.2.2.2.1 = 4) : ∀ (n : Nat) (v0 : Nat) (v1 : Int32) (ho_v0 : kd v0 = 12) (σ : St), Mo_firstWrong_B2 n v0 v1 σ = some res → WW k 2 [(0, .ref (ad k v0)), (1, .int v1)] [] σ := by
  intro n
  induction n with
  | zero =>
    intro v0 v1 ho_v0 σ h
    have h : (none : Option (Int32 × St)) = some res := h
    cases h
  | succ n ih =>
    intro v0 v1 ho_v0 σ h
    unfold Mo_firstWrong_B2 at h
    refine ww_iload_n C 1 rfl rfl (dq dk_Mo_firstWrong 2 rfl) ?_
    refine ww_bipush C (dq dk_Mo_firstWrong 3 rfl) bp_40 ?_
    refine ww_icmp_ge C 21 (dq dk_Mo_firstWrong 4 rfl) (by decide) h (fun h => ?_) (fun h => ?_)
    · refine ww_aload_n C 0 rfl rfl (dq dk_Mo_firstWrong 12 rfl) ?_
      refine ww_geti C ko_Mo 8 ho_v0 (lt_ rfl) g_6_58 rfl rfl (dq dk_Mo_firstWrong 13 rfl) ?_
      refine ww_iconst C (dq dk_Mo_firstWrong 14 rfl) ic_1 ?_
      refine ww_isub C (dq dk_Mo_firstWrong 15 rfl) ?_
      refine ww_nmi h (fun x1 h => ?_)
      refine ww_istore_n C [(1, .int x1), (0, .ref (ad k v0))] rfl hnL (lt_ rfl) rfl (dq dk_Mo_firstWrong 16 rfl) ?_
      exact ww_lv [1, 0] rfl (t_Mo_firstWrong_B28 C hR hRm hnL FU v0 x1 ho_v0 σ h)
    · refine ww_aload_n C 0 rfl rfl (dq dk_Mo_firstWrong 5 rfl) ?_
      refine ww_getr C ko_Mo 20 ho_v0 (lt_ rfl) g_6_70 rfl rfl (dq dk_Mo_firstWrong 6 rfl) ?_
      refine ww_iload_n C 1 rfl rfl (dq dk_Mo_firstWrong 7 rfl) ?_
      refine ww_iconst C (dq dk_Mo_firstWrong 8 rfl) ic_m1 ?_
      refine ww_iast C (kc_Mo_20 _ ho_v0).1 (kc_Mo_20 _ ho_v0).2 (dq dk_Mo_firstWrong 9 rfl) h (fun σ2 h => ?_)
      refine ww_iinc C 1 (fun z => [(1, .int z), (0, .ref (ad k v0))]) rfl ic_1 hnL (lt_ rfl) (fun _ => rfl) (dq dk_Mo_firstWrong 10 rfl) h (fun x3 h => ?_)
      refine ww_goto C 2 (dq dk_Mo_firstWrong 11 rfl) (by decide) ?_
      exact ww_lv [1, 0] rfl (ih v0 x3 ho_v0 σ2 h)
set_option maxHeartbeats 4000000 in
set_option maxRecDepth 100000 in
theorem c_Mo_firstWrong (v0 : Nat) (ho_v0 : kd v0 = 12) : MI y_Mo_firstWrong rm_Mo_firstWrong prog_14_method_46_code 4 .int (fun a => [.ref (a v0)]) (Mo_firstWrong v0) := by
  refine mi_of (by decide) (fun _ => le_ rfl) ?_
  intro k res σ C hR hRm hnL h
  unfold Mo_firstWrong at h
  show WW k 0 [(0, .ref (ad k v0))] [] σ
  refine ww_iconst C (dq dk_Mo_firstWrong 0 rfl) ic_0 ?_
  refine ww_istore_n C [(1, .int 0), (0, .ref (ad k v0))] rfl hnL (lt_ rfl) rfl (dq dk_Mo_firstWrong 1 rfl) ?_
  exact ww_lv [1, 0] rfl (t_Mo_firstWrong_B2 C hR hRm hnL FU v0 0 ho_v0 σ h)
