abbrev y_Mo_next : MethodName := ⟨"BundleHouseModel", "next", "()I"⟩
def dl_Mo_next : List (Nat × Instr × Nat) := [(0, .aload_n 0, 1), (1, .dup, 1), (2, .getfield 115, 3), (5, .iconst 1, 1), (6, .iadd, 1), (7, .putfield 115, 3), (10, .aload_n 0, 1), (11, .getfield 115, 3), (14, .aload_n 0, 1), (15, .getfield 118, 3), (18, .if_icmp .gt 17, 3), (21, .aload_n 0, 1), (22, .getfield 99, 3), (25, .aload_n 0, 1), (26, .getfield 115, 3), (29, .iconst 1, 1), (30, .isub, 1), (31, .iaload, 1), (32, .goto 4, 3), (35, .iconst (-1), 1), (36, .ireturn, 1)]
set_option maxRecDepth 100000 in
theorem dk_Mo_next : ∀ q ∈ dl_Mo_next, decode prog_14_method_7_code q.1 = .ok q.2 := by decide +kernel
abbrev rm_Mo_next : Room := { frames := 0, cells := 0, slots := 0, locals := 0 }
theorem cw_Mo_next : CWV y_Mo_next prog_14_method_7_code 1 (some .int) 0 := ⟨⟨g_7_36, g_1_13, by decide, by decide, by decide +kernel⟩, g_7_35, gs_5_2⟩
set_option maxHeartbeats 4000000 in
set_option maxRecDepth 100000 in
theorem c_Mo_next (v0 : Nat) (ho_v0 : kd v0 = 12) : MI y_Mo_next rm_Mo_next prog_14_method_7_code 1 .int (fun a => [.ref (a v0)]) (Mo_next v0) := by
  refine mi_of (by decide) (fun _ => le_ rfl) ?_
  intro k res σ C hR hRm hnL h
  unfold Mo_next at h
  show WW k 0 [(0, .ref (ad k v0))] [] σ
  refine ww_aload_n C 0 rfl rfl (dq dk_Mo_next 0 rfl) ?_
  refine ww_dup C rfl (dq dk_Mo_next 1 rfl) ?_
  refine ww_geti C ko_Mo 45 ho_v0 (lt_ rfl) g_6_95 rfl rfl (dq dk_Mo_next 2 rfl) ?_
  refine ww_iconst C (dq dk_Mo_next 3 rfl) ic_1 ?_
  refine ww_iadd C (dq dk_Mo_next 4 rfl) ?_
  refine ww_puti C ko_Mo 45 ho_v0 (lt_ rfl) g_6_95 rfl rfl rfl rfl (dq dk_Mo_next 5 rfl) h (fun σ1 h => ?_)
  refine ww_aload_n C 0 rfl rfl (dq dk_Mo_next 6 rfl) ?_
  refine ww_geti C ko_Mo 45 ho_v0 (lt_ rfl) g_6_95 rfl rfl (dq dk_Mo_next 7 rfl) ?_
  refine ww_aload_n C 0 rfl rfl (dq dk_Mo_next 8 rfl) ?_
  refine ww_geti C ko_Mo 44 ho_v0 (lt_ rfl) g_6_94 rfl rfl (dq dk_Mo_next 9 rfl) ?_
  refine ww_icmp_gt C 35 (dq dk_Mo_next 10 rfl) (by decide) h (fun h => ?_) (fun h => ?_)
  · refine ww_iconst C (dq dk_Mo_next 19 rfl) ic_m1 ?_
    exact ww_iret C hR (dq dk_Mo_next 20 rfl) h
  · refine ww_aload_n C 0 rfl rfl (dq dk_Mo_next 11 rfl) ?_
    refine ww_getm C ko_Mo 43 ho_v0 (lt_ rfl) g_6_93 rfl rfl (dq dk_Mo_next 12 rfl) ?_
    refine ww_aload_n C 0 rfl rfl (dq dk_Mo_next 13 rfl) ?_
    refine ww_geti C ko_Mo 45 ho_v0 (lt_ rfl) g_6_95 rfl rfl (dq dk_Mo_next 14 rfl) ?_
    refine ww_iconst C (dq dk_Mo_next 15 rfl) ic_1 ?_
    refine ww_isub C (dq dk_Mo_next 16 rfl) ?_
    refine ww_lrld C (dq dk_Mo_next 17 rfl) h (fun x2 h => ?_)
    refine ww_goto C 36 (dq dk_Mo_next 18 rfl) (by decide) ?_
    exact ww_iret C hR (dq dk_Mo_next 20 rfl) h
abbrev y_Mo_small : MethodName := ⟨"BundleHouseModel", "small", "()I"⟩
def dl_Mo_small : List (Nat × Instr × Nat) := [(0, .aload_n 0, 1), (1, .invokevirtual 121, 3), (4, .istore_n 1, 1), (5, .iload_n 1, 1), (6, .bipush 127, 2), (8, .if_icmp .le 11, 3), (11, .iload_n 1, 1), (12, .sipush 256, 3), (15, .isub, 1), (16, .goto 4, 3), (19, .iload_n 1, 1), (20, .ireturn, 1)]
set_option maxRecDepth 100000 in
theorem dk_Mo_small : ∀ q ∈ dl_Mo_small, decode prog_14_method_8_code q.1 = .ok q.2 := by decide +kernel
abbrev rm_Mo_small : Room := { frames := 1, cells := 0, slots := 0, locals := 20 }
theorem cw_Mo_small : CWV y_Mo_small prog_14_method_8_code 2 (some .int) 0 := ⟨⟨g_7_52, g_1_13, by decide, by decide, by decide +kernel⟩, g_7_51, gs_5_6⟩
set_option maxHeartbeats 4000000 in
set_option maxRecDepth 100000 in
theorem c_Mo_small (v0 : Nat) (ho_v0 : kd v0 = 12) : MI y_Mo_small rm_Mo_small prog_14_method_8_code 2 .int (fun a => [.ref (a v0)]) (Mo_small v0) := by
  refine mi_of (by decide) (fun _ => le_ rfl) ?_
  intro k res σ C hR hRm hnL h
  unfold Mo_small at h
  show WW k 0 [(0, .ref (ad k v0))] [] σ
  refine ww_aload_n C 0 rfl rfl (dq dk_Mo_small 0 rfl) ?_
  refine ww_cVi (st := []) C (c_Mo_next v0 ho_v0) cw_Mo_next ho_v0 (lt_ rfl) rfl g_7_33 hRm ⟨⟨rfl, rfl⟩, le_ rfl, le_ rfl⟩ rfl rfl rfl (le_ rfl) (dq dk_Mo_small 1 rfl) h (fun x2 σ1 h => ?_)
  refine ww_istore_n C [(1, .int x2), (0, .ref (ad k v0))] rfl hnL (lt_ rfl) rfl (dq dk_Mo_small 2 rfl) ?_
  refine ww_iload_n C 0 rfl rfl (dq dk_Mo_small 3 rfl) ?_
  refine ww_bipush C (dq dk_Mo_small 4 rfl) bp_127 ?_
  refine ww_icmp_le C 19 (dq dk_Mo_small 5 rfl) (by decide) h (fun h => ?_) (fun h => ?_)
  · refine ww_iload_n C 0 rfl rfl (dq dk_Mo_small 10 rfl) ?_
    exact ww_iret C hR (dq dk_Mo_small 11 rfl) h
  · refine ww_iload_n C 0 rfl rfl (dq dk_Mo_small 6 rfl) ?_
    refine ww_sipush C (dq dk_Mo_small 7 rfl) sp_256 ?_
    refine ww_isub C (dq dk_Mo_small 8 rfl) ?_
    refine ww_goto C 20 (dq dk_Mo_small 9 rfl) (by decide) ?_
    exact ww_iret C hR (dq dk_Mo_small 11 rfl) h
abbrev y_Mo_four : MethodName := ⟨"BundleHouseModel", "four", "()I"⟩
def dl_Mo_four : List (Nat × Instr × Nat) := [(0, .iconst 0, 1), (1, .istore_n 1, 1), (2, .iconst 0, 1), (3, .istore_n 2, 1), (4, .iload_n 2, 1), (5, .iconst 4, 1), (6, .if_icmp .ge 25, 3), (9, .iload_n 1, 1), (10, .aload_n 0, 1), (11, .invokevirtual 121, 3), (14, .sipush 255, 3), (17, .iand, 1), (18, .bipush 8, 2), (20, .iload_n 2, 1), (21, .imul, 1), (22, .ishl, 1), (23, .ior, 1), (24, .istore_n 1, 1), (25, .iinc 2 1, 3), (28, .goto (-24), 3), (31, .iload_n 1, 1), (32, .ireturn, 1)]
set_option maxRecDepth 100000 in
theorem dk_Mo_four : ∀ q ∈ dl_Mo_four, decode prog_14_method_9_code q.1 = .ok q.2 := by decide +kernel
abbrev rm_Mo_four : Room := { frames := 1, cells := 0, slots := 0, locals := 20 }
theorem cw_Mo_four : CWV y_Mo_four prog_14_method_9_code 3 (some .int) 0 := ⟨⟨g_7_56, g_1_13, by decide, by decide, by decide +kernel⟩, g_7_55, gs_5_7⟩
set_option maxHeartbeats 4000000 in
set_option maxRecDepth 100000 in
theorem t_Mo_four_B4 {k : Cfg} {res : Int32 × St} (C : Cx k prog_14_method_9_code "BundleHouseModel") (hR : RI k .int res) (hRm : k.2.2.2.1 = rm_Mo_four) (hnL : k.2.2.2.2.2.2.2.2.2.2.2.1 = 3) : ∀ (n : Nat) (v0 : Nat) (v1 : Int32) (v2 : Int32) (ho_v0 : kd v0 = 12) (σ : St), Mo_four_B4 n v0 v1 v2 σ = some res → WW k 4 [(0, .ref (ad k v0)), (1, .int v1), (2, .int v2)] [] σ := by
  intro n
  induction n with
  | zero =>
    intro v0 v1 v2 ho_v0 σ h
    have h : (none : Option (Int32 × St)) = some res := h
    cases h
  | succ n ih =>
    intro v0 v1 v2 ho_v0 σ h
    unfold Mo_four_B4 at h
    refine ww_iload_n C 2 rfl rfl (dq dk_Mo_four 4 rfl) ?_
    refine ww_iconst C (dq dk_Mo_four 5 rfl) ic_4 ?_
    refine ww_icmp_ge C 31 (dq dk_Mo_four 6 rfl) (by decide) h (fun h => ?_) (fun h => ?_)
    · refine ww_iload_n C 1 rfl rfl (dq dk_Mo_four 20 rfl) ?_
      exact ww_iret C hR (dq dk_Mo_four 21 rfl) h
    · refine ww_iload_n C 1 rfl rfl (dq dk_Mo_four 7 rfl) ?_
      refine ww_aload_n C 0 rfl rfl (dq dk_Mo_four 8 rfl) ?_
      refine ww_cVi (st := [.int v1]) C (c_Mo_next v0 ho_v0) cw_Mo_next ho_v0 (lt_ rfl) rfl g_7_33 hRm ⟨⟨rfl, rfl⟩, le_ rfl, le_ rfl⟩ rfl rfl rfl (le_ rfl) (dq dk_Mo_four 9 rfl) h (fun x2 σ1 h => ?_)
      refine ww_sipush C (dq dk_Mo_four 10 rfl) sp_255 ?_
      refine ww_iand C (dq dk_Mo_four 11 rfl) ?_
      refine ww_bipush C (dq dk_Mo_four 12 rfl) bp_8 ?_
      refine ww_iload_n C 2 rfl rfl (dq dk_Mo_four 13 rfl) ?_
      refine ww_imul C (dq dk_Mo_four 14 rfl) ?_
      refine ww_ishl C (dq dk_Mo_four 15 rfl) ?_
      refine ww_ior C (dq dk_Mo_four 16 rfl) ?_
      refine ww_nmi h (fun x3 h => ?_)
      refine ww_istore_n C [(1, .int x3), (0, .ref (ad k v0)), (2, .int v2)] rfl hnL (lt_ rfl) rfl (dq dk_Mo_four 17 rfl) ?_
      refine ww_iinc C 2 (fun z => [(2, .int z), (1, .int x3), (0, .ref (ad k v0))]) rfl ic_1 hnL (lt_ rfl) (fun _ => rfl) (dq dk_Mo_four 18 rfl) h (fun x4 h => ?_)
      refine ww_goto C 4 (dq dk_Mo_four 19 rfl) (by decide) ?_
      exact ww_lv [2, 1, 0] rfl (ih v0 x3 x4 ho_v0 σ1 h)
set_option maxHeartbeats 4000000 in
set_option maxRecDepth 100000 in
theorem c_Mo_four (v0 : Nat) (ho_v0 : kd v0 = 12) : MI y_Mo_four rm_Mo_four prog_14_method_9_code 3 .int (fun a => [.ref (a v0)]) (Mo_four v0) := by
  refine mi_of (by decide) (fun _ => le_ rfl) ?_
  intro k res σ C hR hRm hnL h
  unfold Mo_four at h
  show WW k 0 [(0, .ref (ad k v0))] [] σ
  refine ww_iconst C (dq dk_Mo_four 0 rfl) ic_0 ?_
  refine ww_istore_n C [(1, .int 0), (0, .ref (ad k v0))] rfl hnL (lt_ rfl) rfl (dq dk_Mo_four 1 rfl) ?_
  refine ww_iconst C (dq dk_Mo_four 2 rfl) ic_0 ?_
  refine ww_istore_n C [(2, .int 0), (1, .int 0), (0, .ref (ad k v0))] rfl hnL (lt_ rfl) rfl (dq dk_Mo_four 3 rfl) ?_
  exact ww_lv [2, 1, 0] rfl (t_Mo_four_B4 C hR hRm hnL FU v0 0 0 ho_v0 σ h)
abbrev y_Mo_told : MethodName := ⟨"BundleHouseModel", "told", "()V"⟩
def dl_Mo_told : List (Nat × Instr × Nat) := [(0, .aload_n 0, 1), (1, .invokevirtual 121, 3), (4, .sipush 255, 3), (7, .iand, 1), (8, .istore_n 1, 1), (9, .iload_n 1, 1), (10, .bipush 6, 2), (12, .ishr, 1), (13, .istore_n 2, 1), (14, .iload_n 1, 1), (15, .bipush 7, 2), (17, .iand, 1), (18, .istore_n 3, 1), (19, .aload_n 0, 1), (20, .iload_n 1, 1), (21, .iconst 3, 1), (22, .ishr, 1), (23, .bipush 7, 2), (25, .iand, 1), (26, .putfield 125, 3), (29, .aload_n 0, 1), (30, .iload_n 2, 1), (31, .iconst 3, 1), (32, .if_icmp .ge 7, 3), (35, .iconst 1, 1), (36, .goto 4, 3), (39, .iconst 0, 1), (40, .putfield 128, 3), (43, .aload_n 0, 1), (44, .iload_n 3, 1), (45, .putfield 132, 3), (48, .aload_n 0, 1), (49, .getfield 128, 3), (52, .ifCond .ne 4, 3), (55, .return_, 1), (56, .iload_n 3, 1), (57, .istore 4, 2), (59, .bipush 8, 2), (61, .istore 5, 2), (63, .iconst 0, 1), (64, .istore 6, 2), (66, .iload_n 3, 1), (67, .iconst 5, 1), (68, .if_icmp .ne 11, 3), (71, .iload_n 2, 1), (72, .ifCond .ne 7, 3), (75, .iconst 1, 1), (76, .goto 4, 3), (79, .iconst 0, 1), (80, .istore 7, 2), (82, .iload_n 3, 1), (83, .iconst 4, 1), (84, .if_icmp .ne 66, 3), (87, .aload_n 0, 1), (88, .invokevirtual 121, 3), (91, .sipush 255, 3), (94, .iand, 1), (95, .istore 8, 2), (97, .iload 8, 2), (99, .bipush 7, 2), (101, .iand, 1), (102, .istore 4, 2), (104, .iload 8, 2), (106, .iconst 3, 1), (107, .ishr, 1), (108, .bipush 7, 2), (110, .iand, 1), (111, .istore 5, 2), (113, .iload 8, 2), (115, .bipush 6, 2), (117, .ishr, 1), (118, .istore 6, 2), (120, .iload 4, 2), (122, .iconst 5, 1), (123, .if_icmp .ne 11, 3), (126, .iload_n 2, 1), (127, .ifCond .ne 7, 3), (130, .iconst 1, 1), (131, .goto 4, 3), (134, .iconst 0, 1), (135, .istore 7, 2), (137, .iload 5, 2), (139, .iconst 4, 1), (140, .if_icmp .ne 10, 3), (143, .bipush 8, 2), (145, .istore 5, 2), (147, .iconst 0, 1), (148, .istore 6, 2), (150, .aload_n 0, 1), (151, .iload_n 2, 1), (152, .iconst 1, 1), (153, .if_icmp .ne 10, 3), (156, .aload_n 0, 1), (157, .invokevirtual 135, 3), (160, .goto 21, 3), (163, .iload_n 2, 1), (164, .iconst 2, 1), (165, .if_icmp .eq 8, 3), (168, .iload 7, 2), (170, .ifCond .eq 10, 3), (173, .aload_n 0, 1), (174, .invokevirtual 138, 3), (177, .goto 4, 3), (180, .iconst 0, 1), (181, .putfield 141, 3), (184, .aload_n 0, 1), (185, .iload 7, 2), (187, .ifCond .eq 8, 3), (190, .bipush 8, 2), (192, .goto 5, 3), (195, .iload 4, 2), (197, .bipush 16, 2), (199, .iload 5, 2), (201, .imul, 1), (202, .iadd, 1), (203, .sipush 256, 3), (206, .iload 6, 2), (208, .imul, 1), (209, .iadd, 1), (210, .putfield 132, 3), (213, .return_, 1)]
set_option maxRecDepth 100000 in
theorem dk_Mo_told : ∀ q ∈ dl_Mo_told, decode prog_14_method_10_code q.1 = .ok q.2 := by decide +kernel
abbrev rm_Mo_told : Room := { frames := 2, cells := 0, slots := 0, locals := 42 }
theorem cw_Mo_told : CWV y_Mo_told prog_14_method_10_code 9 none 0 := ⟨⟨g_7_48, g_1_13, by decide, by decide, by decide +kernel⟩, g_7_47, gs_5_5⟩
set_option maxHeartbeats 4000000 in
set_option maxRecDepth 100000 in
theorem t_Mo_told_B197 {k : Cfg} {res : St} (C : Cx k prog_14_method_10_code "BundleHouseModel") (hR : RV k res) (hRm : k.2.2.2.1 = rm_Mo_told) (hnL : k.2.2.2.2.2.2.2.2.2.2.2.1 = 9) (v5 : Int32) (v6 : Int32) (t0 : Nat) (t1 : Int32) (ho_t0 : kd t0 = 12) (σ : St) (h : Mo_told_B197 v5 v6 t0 t1 σ = some res) : WW k 197 [(5, .int v5), (6, .int v6)] [.int t1, .ref (ad k t0)] σ := by
  unfold Mo_told_B197 at h
  refine ww_bipush C (dq dk_Mo_told 111 rfl) bp_16 ?_
  refine ww_iload C 0 rfl (dq dk_Mo_told 112 rfl) ?_
  refine ww_imul C (dq dk_Mo_told 113 rfl) ?_
  refine ww_iadd C (dq dk_Mo_told 114 rfl) ?_
  refine ww_sipush C (dq dk_Mo_told 115 rfl) sp_256 ?_
  refine ww_iload C 1 rfl (dq dk_Mo_told 116 rfl) ?_
  refine ww_imul C (dq dk_Mo_told 117 rfl) ?_
  refine ww_iadd C (dq dk_Mo_told 118 rfl) ?_
  refine ww_puti C ko_Mo 49 ho_t0 (lt_ rfl) g_6_99 rfl rfl rfl rfl (dq dk_Mo_told 119 rfl) h (fun σ1 h => ?_)
  exact ww_vret C hR (dq dk_Mo_told 120 rfl) h
set_option maxHeartbeats 4000000 in
set_option maxRecDepth 100000 in
theorem t_Mo_told_B150 {k : Cfg} {res : St} (C : Cx k prog_14_method_10_code "BundleHouseModel") (hR : RV k res) (hRm : k.2.2.2.1 = rm_Mo_told) (hnL : k.2.2.2.2.2.2.2.2.2.2.2.1 = 9) (v0 : Nat) (v2 : Int32) (v4 : Int32) (v5 : Int32) (v6 : Int32) (v7 : Int32) (ho_v0 : kd v0 = 12) (σ : St) (h : Mo_told_B150 v0 v2 v4 v5 v6 v7 σ = some res) : WW k 150 [(0, .ref (ad k v0)), (2, .int v2), (4, .int v4), (5, .int v5), (6, .int v6), (7, .int v7)] [] σ := by
  unfold Mo_told_B150 at h
  refine ww_aload_n C 0 rfl rfl (dq dk_Mo_told 88 rfl) ?_
  refine ww_iload_n C 1 rfl rfl (dq dk_Mo_told 89 rfl) ?_
  refine ww_iconst C (dq dk_Mo_told 90 rfl) ic_1 ?_
  refine ww_icmp_ne C 163 (dq dk_Mo_told 91 rfl) (by decide) h (fun h => ?_) (fun h => ?_)
  · refine ww_iload_n C 1 rfl rfl (dq dk_Mo_told 95 rfl) ?_
    refine ww_iconst C (dq dk_Mo_told 96 rfl) ic_2 ?_
    refine ww_icmp_eq C 173 (dq dk_Mo_told 97 rfl) (by decide) h (fun h => ?_) (fun h => ?_)
    · refine ww_aload_n C 0 rfl rfl (dq dk_Mo_told 100 rfl) ?_
      refine ww_cVi (st := [.ref (ad k v0)]) C (c_Mo_four v0 ho_v0) cw_Mo_four ho_v0 (lt_ rfl) rfl g_7_53 hRm ⟨⟨rfl, rfl⟩, le_ rfl, le_ rfl⟩ rfl rfl rfl (le_ rfl) (dq dk_Mo_told 101 rfl) h (fun x2 σ1 h => ?_)
      refine ww_goto C 181 (dq dk_Mo_told 102 rfl) (by decide) ?_
      refine ww_puti C ko_Mo 50 ho_v0 (lt_ rfl) g_6_100 rfl rfl rfl rfl (dq dk_Mo_told 104 rfl) h (fun σ3 h => ?_)
      refine ww_aload_n C 0 rfl rfl (dq dk_Mo_told 105 rfl) ?_
      refine ww_iload C 5 rfl (dq dk_Mo_told 106 rfl) ?_
      refine ww_if_eq C 195 (dq dk_Mo_told 107 rfl) (by decide) h (fun h => ?_) (fun h => ?_)
      · refine ww_iload C 2 rfl (dq dk_Mo_told 110 rfl) ?_
        exact ww_lv [3, 4] rfl (t_Mo_told_B197 C hR hRm hnL v5 v6 v0 v4 ho_v0 σ3 h)
      · refine ww_bipush C (dq dk_Mo_told 108 rfl) bp_8 ?_
        refine ww_goto C 197 (dq dk_Mo_told 109 rfl) (by decide) ?_
        exact ww_lv [3, 4] rfl (t_Mo_told_B197 C hR hRm hnL v5 v6 v0 8 ho_v0 σ3 h)
    · refine ww_iload C 5 rfl (dq dk_Mo_told 98 rfl) ?_
      refine ww_if_eq C 180 (dq dk_Mo_told 99 rfl) (by decide) h (fun h => ?_) (fun h => ?_)
      · refine ww_iconst C (dq dk_Mo_told 103 rfl) ic_0 ?_
        refine ww_puti C ko_Mo 50 ho_v0 (lt_ rfl) g_6_100 rfl rfl rfl rfl (dq dk_Mo_told 104 rfl) h (fun σ4 h => ?_)
        refine ww_aload_n C 0 rfl rfl (dq dk_Mo_told 105 rfl) ?_
        refine ww_iload C 5 rfl (dq dk_Mo_told 106 rfl) ?_
        refine ww_if_eq C 195 (dq dk_Mo_told 107 rfl) (by decide) h (fun h => ?_) (fun h => ?_)
        · refine ww_iload C 2 rfl (dq dk_Mo_told 110 rfl) ?_
          exact ww_lv [3, 4] rfl (t_Mo_told_B197 C hR hRm hnL v5 v6 v0 v4 ho_v0 σ4 h)
        · refine ww_bipush C (dq dk_Mo_told 108 rfl) bp_8 ?_
          refine ww_goto C 197 (dq dk_Mo_told 109 rfl) (by decide) ?_
          exact ww_lv [3, 4] rfl (t_Mo_told_B197 C hR hRm hnL v5 v6 v0 8 ho_v0 σ4 h)
      · refine ww_aload_n C 0 rfl rfl (dq dk_Mo_told 100 rfl) ?_
        refine ww_cVi (st := [.ref (ad k v0)]) C (c_Mo_four v0 ho_v0) cw_Mo_four ho_v0 (lt_ rfl) rfl g_7_53 hRm ⟨⟨rfl, rfl⟩, le_ rfl, le_ rfl⟩ rfl rfl rfl (le_ rfl) (dq dk_Mo_told 101 rfl) h (fun x6 σ5 h => ?_)
        refine ww_goto C 181 (dq dk_Mo_told 102 rfl) (by decide) ?_
        refine ww_puti C ko_Mo 50 ho_v0 (lt_ rfl) g_6_100 rfl rfl rfl rfl (dq dk_Mo_told 104 rfl) h (fun σ7 h => ?_)
        refine ww_aload_n C 0 rfl rfl (dq dk_Mo_told 105 rfl) ?_
        refine ww_iload C 5 rfl (dq dk_Mo_told 106 rfl) ?_
        refine ww_if_eq C 195 (dq dk_Mo_told 107 rfl) (by decide) h (fun h => ?_) (fun h => ?_)
        · refine ww_iload C 2 rfl (dq dk_Mo_told 110 rfl) ?_
          exact ww_lv [3, 4] rfl (t_Mo_told_B197 C hR hRm hnL v5 v6 v0 v4 ho_v0 σ7 h)
        · refine ww_bipush C (dq dk_Mo_told 108 rfl) bp_8 ?_
          refine ww_goto C 197 (dq dk_Mo_told 109 rfl) (by decide) ?_
          exact ww_lv [3, 4] rfl (t_Mo_told_B197 C hR hRm hnL v5 v6 v0 8 ho_v0 σ7 h)
  · refine ww_aload_n C 0 rfl rfl (dq dk_Mo_told 92 rfl) ?_
    refine ww_cVi (st := [.ref (ad k v0)]) C (c_Mo_small v0 ho_v0) cw_Mo_small ho_v0 (lt_ rfl) rfl g_7_49 hRm ⟨⟨rfl, rfl⟩, le_ rfl, le_ rfl⟩ rfl rfl rfl (le_ rfl) (dq dk_Mo_told 93 rfl) h (fun x9 σ8 h => ?_)
    refine ww_goto C 181 (dq dk_Mo_told 94 rfl) (by decide) ?_
    refine ww_puti C ko_Mo 50 ho_v0 (lt_ rfl) g_6_100 rfl rfl rfl rfl (dq dk_Mo_told 104 rfl) h (fun σ10 h => ?_)
    refine ww_aload_n C 0 rfl rfl (dq dk_Mo_told 105 rfl) ?_
    refine ww_iload C 5 rfl (dq dk_Mo_told 106 rfl) ?_
    refine ww_if_eq C 195 (dq dk_Mo_told 107 rfl) (by decide) h (fun h => ?_) (fun h => ?_)
    · refine ww_iload C 2 rfl (dq dk_Mo_told 110 rfl) ?_
      exact ww_lv [3, 4] rfl (t_Mo_told_B197 C hR hRm hnL v5 v6 v0 v4 ho_v0 σ10 h)
    · refine ww_bipush C (dq dk_Mo_told 108 rfl) bp_8 ?_
      refine ww_goto C 197 (dq dk_Mo_told 109 rfl) (by decide) ?_
      exact ww_lv [3, 4] rfl (t_Mo_told_B197 C hR hRm hnL v5 v6 v0 8 ho_v0 σ10 h)
set_option maxHeartbeats 4000000 in
set_option maxRecDepth 100000 in
theorem t_Mo_told_B135 {k : Cfg} {res : St} (C : Cx k prog_14_method_10_code "BundleHouseModel") (hR : RV k res) (hRm : k.2.2.2.1 = rm_Mo_told) (hnL : k.2.2.2.2.2.2.2.2.2.2.2.1 = 9) (v0 : Nat) (v2 : Int32) (v4 : Int32) (v5 : Int32) (v6 : Int32) (t0 : Int32) (ho_v0 : kd v0 = 12) (σ : St) (h : Mo_told_B135 v0 v2 v4 v5 v6 t0 σ = some res) : WW k 135 [(0, .ref (ad k v0)), (2, .int v2), (4, .int v4), (5, .int v5), (6, .int v6)] [.int t0] σ := by
  unfold Mo_told_B135 at h
  refine ww_istore C [(7, .int t0), (0, .ref (ad k v0)), (2, .int v2), (4, .int v4), (5, .int v5), (6, .int v6)] hnL (lt_ rfl) rfl (dq dk_Mo_told 80 rfl) ?_
  refine ww_iload C 4 rfl (dq dk_Mo_told 81 rfl) ?_
  refine ww_iconst C (dq dk_Mo_told 82 rfl) ic_4 ?_
  refine ww_icmp_ne C 150 (dq dk_Mo_told 83 rfl) (by decide) h (fun h => ?_) (fun h => ?_)
  · exact ww_lv [1, 2, 3, 4, 5, 0] rfl (t_Mo_told_B150 C hR hRm hnL v0 v2 v4 v5 v6 t0 ho_v0 σ h)
  · refine ww_bipush C (dq dk_Mo_told 84 rfl) bp_8 ?_
    refine ww_istore C [(5, .int 8), (7, .int t0), (0, .ref (ad k v0)), (2, .int v2), (4, .int v4), (6, .int v6)] hnL (lt_ rfl) rfl (dq dk_Mo_told 85 rfl) ?_
    refine ww_iconst C (dq dk_Mo_told 86 rfl) ic_0 ?_
    refine ww_istore C [(6, .int 0), (5, .int 8), (7, .int t0), (0, .ref (ad k v0)), (2, .int v2), (4, .int v4)] hnL (lt_ rfl) rfl (dq dk_Mo_told 87 rfl) ?_
    exact ww_lv [3, 4, 5, 1, 0, 2] rfl (t_Mo_told_B150 C hR hRm hnL v0 v2 v4 8 0 t0 ho_v0 σ h)
set_option maxHeartbeats 4000000 in
set_option maxRecDepth 100000 in
theorem t_Mo_told_B80 {k : Cfg} {res : St} (C : Cx k prog_14_method_10_code "BundleHouseModel") (hR : RV k res) (hRm : k.2.2.2.1 = rm_Mo_told) (hnL : k.2.2.2.2.2.2.2.2.2.2.2.1 = 9) (v0 : Nat) (v2 : Int32) (v3 : Int32) (v4 : Int32) (v5 : Int32) (v6 : Int32) (t0 : Int32) (ho_v0 : kd v0 = 12) (σ : St) (h : Mo_told_B80 v0 v2 v3 v4 v5 v6 t0 σ = some res) : WW k 80 [(0, .ref (ad k v0)), (2, .int v2), (3, .int v3), (4, .int v4), (5, .int v5), (6, .int v6)] [.int t0] σ := by
  unfold Mo_told_B80 at h
  refine ww_istore C [(7, .int t0), (0, .ref (ad k v0)), (2, .int v2), (3, .int v3), (4, .int v4), (5, .int v5), (6, .int v6)] hnL (lt_ rfl) rfl (dq dk_Mo_told 49 rfl) ?_
  refine ww_iload_n C 3 rfl rfl (dq dk_Mo_told 50 rfl) ?_
  refine ww_iconst C (dq dk_Mo_told 51 rfl) ic_4 ?_
  refine ww_icmp_ne C 150 (dq dk_Mo_told 52 rfl) (by decide) h (fun h => ?_) (fun h => ?_)
  · exact ww_lv [1, 2, 4, 5, 6, 0] rfl (t_Mo_told_B150 C hR hRm hnL v0 v2 v4 v5 v6 t0 ho_v0 σ h)
  · refine ww_aload_n C 1 rfl rfl (dq dk_Mo_told 53 rfl) ?_
    refine ww_cVi (st := []) C (c_Mo_next v0 ho_v0) cw_Mo_next ho_v0 (lt_ rfl) rfl g_7_33 hRm ⟨⟨rfl, rfl⟩, le_ rfl, le_ rfl⟩ rfl rfl rfl (le_ rfl) (dq dk_Mo_told 54 rfl) h (fun x2 σ1 h => ?_)
    refine ww_sipush C (dq dk_Mo_told 55 rfl) sp_255 ?_
    refine ww_iand C (dq dk_Mo_told 56 rfl) ?_
    refine ww_nmi h (fun x3 h => ?_)
    refine ww_istore C [(8, .int x3), (7, .int t0), (0, .ref (ad k v0)), (2, .int v2), (3, .int v3), (4, .int v4), (5, .int v5), (6, .int v6)] hnL (lt_ rfl) rfl (dq dk_Mo_told 57 rfl) ?_
    refine ww_iload C 0 rfl (dq dk_Mo_told 58 rfl) ?_
    refine ww_bipush C (dq dk_Mo_told 59 rfl) bp_7 ?_
    refine ww_iand C (dq dk_Mo_told 60 rfl) ?_
    refine ww_nmi h (fun x4 h => ?_)
    refine ww_istore C [(4, .int x4), (8, .int x3), (7, .int t0), (0, .ref (ad k v0)), (2, .int v2), (3, .int v3), (5, .int v5), (6, .int v6)] hnL (lt_ rfl) rfl (dq dk_Mo_told 61 rfl) ?_
    refine ww_iload C 1 rfl (dq dk_Mo_told 62 rfl) ?_
    refine ww_iconst C (dq dk_Mo_told 63 rfl) ic_3 ?_
    refine ww_ishr C (dq dk_Mo_told 64 rfl) ?_
    refine ww_bipush C (dq dk_Mo_told 65 rfl) bp_7 ?_
    refine ww_iand C (dq dk_Mo_told 66 rfl) ?_
    refine ww_nmi h (fun x5 h => ?_)
    refine ww_istore C [(5, .int x5), (4, .int x4), (8, .int x3), (7, .int t0), (0, .ref (ad k v0)), (2, .int v2), (3, .int v3), (6, .int v6)] hnL (lt_ rfl) rfl (dq dk_Mo_told 67 rfl) ?_
    refine ww_iload C 2 rfl (dq dk_Mo_told 68 rfl) ?_
    refine ww_bipush C (dq dk_Mo_told 69 rfl) bp_6 ?_
    refine ww_ishr C (dq dk_Mo_told 70 rfl) ?_
    refine ww_nmi h (fun x6 h => ?_)
    refine ww_istore C [(6, .int x6), (5, .int x5), (4, .int x4), (8, .int x3), (7, .int t0), (0, .ref (ad k v0)), (2, .int v2), (3, .int v3)] hnL (lt_ rfl) rfl (dq dk_Mo_told 71 rfl) ?_
    refine ww_iload C 2 rfl (dq dk_Mo_told 72 rfl) ?_
    refine ww_iconst C (dq dk_Mo_told 73 rfl) ic_5 ?_
    refine ww_icmp_ne C 134 (dq dk_Mo_told 74 rfl) (by decide) h (fun h => ?_) (fun h => ?_)
    · refine ww_iconst C (dq dk_Mo_told 79 rfl) ic_0 ?_
      exact ww_lv [5, 6, 2, 1, 0] rfl (t_Mo_told_B135 C hR hRm hnL v0 v2 x4 x5 x6 0 ho_v0 σ1 h)
    · refine ww_iload_n C 6 rfl rfl (dq dk_Mo_told 75 rfl) ?_
      refine ww_if_ne C 134 (dq dk_Mo_told 76 rfl) (by decide) h (fun h => ?_) (fun h => ?_)
      · refine ww_iconst C (dq dk_Mo_told 79 rfl) ic_0 ?_
        exact ww_lv [5, 6, 2, 1, 0] rfl (t_Mo_told_B135 C hR hRm hnL v0 v2 x4 x5 x6 0 ho_v0 σ1 h)
      · refine ww_iconst C (dq dk_Mo_told 77 rfl) ic_1 ?_
        refine ww_goto C 135 (dq dk_Mo_told 78 rfl) (by decide) ?_
        exact ww_lv [5, 6, 2, 1, 0] rfl (t_Mo_told_B135 C hR hRm hnL v0 v2 x4 x5 x6 1 ho_v0 σ1 h)
set_option maxHeartbeats 4000000 in
set_option maxRecDepth 100000 in
theorem t_Mo_told_B40 {k : Cfg} {res : St} (C : Cx k prog_14_method_10_code "BundleHouseModel") (hR : RV k res) (hRm : k.2.2.2.1 = rm_Mo_told) (hnL : k.2.2.2.2.2.2.2.2.2.2.2.1 = 9) (v0 : Nat) (v2 : Int32) (v3 : Int32) (t0 : Nat) (t1 : Int32) (ho_v0 : kd v0 = 12) (ho_t0 : kd t0 = 12) (σ : St) (h : Mo_told_B40 v0 v2 v3 t0 t1 σ = some res) : WW k 40 [(0, .ref (ad k v0)), (2, .int v2), (3, .int v3)] [.int t1, .ref (ad k t0)] σ := by
  unfold Mo_told_B40 at h
  refine ww_putz C ko_Mo 53 ho_t0 (lt_ rfl) g_6_103 rfl rfl rfl rfl (dq dk_Mo_told 27 rfl) h (fun σ1 h => ?_)
  refine ww_aload_n C 0 rfl rfl (dq dk_Mo_told 28 rfl) ?_
  refine ww_iload_n C 2 rfl rfl (dq dk_Mo_told 29 rfl) ?_
  refine ww_puti C ko_Mo 49 ho_v0 (lt_ rfl) g_6_99 rfl rfl rfl rfl (dq dk_Mo_told 30 rfl) h (fun σ2 h => ?_)
  refine ww_aload_n C 0 rfl rfl (dq dk_Mo_told 31 rfl) ?_
  refine ww_geti C ko_Mo 53 ho_v0 (lt_ rfl) g_6_103 rfl rfl (dq dk_Mo_told 32 rfl) ?_
  refine ww_if_ne C 56 (dq dk_Mo_told 33 rfl) (by decide) h (fun h => ?_) (fun h => ?_)
  · refine ww_iload_n C 2 rfl rfl (dq dk_Mo_told 35 rfl) ?_
    refine ww_istore C [(4, .int v3), (0, .ref (ad k v0)), (2, .int v2), (3, .int v3)] hnL (lt_ rfl) rfl (dq dk_Mo_told 36 rfl) ?_
    refine ww_bipush C (dq dk_Mo_told 37 rfl) bp_8 ?_
    refine ww_istore C [(5, .int 8), (4, .int v3), (0, .ref (ad k v0)), (2, .int v2), (3, .int v3)] hnL (lt_ rfl) rfl (dq dk_Mo_told 38 rfl) ?_
    refine ww_iconst C (dq dk_Mo_told 39 rfl) ic_0 ?_
    refine ww_istore C [(6, .int 0), (5, .int 8), (4, .int v3), (0, .ref (ad k v0)), (2, .int v2), (3, .int v3)] hnL (lt_ rfl) rfl (dq dk_Mo_told 40 rfl) ?_
    refine ww_iload_n C 5 rfl rfl (dq dk_Mo_told 41 rfl) ?_
    refine ww_iconst C (dq dk_Mo_told 42 rfl) ic_5 ?_
    refine ww_icmp_ne C 79 (dq dk_Mo_told 43 rfl) (by decide) h (fun h => ?_) (fun h => ?_)
    · refine ww_iconst C (dq dk_Mo_told 48 rfl) ic_0 ?_
      exact ww_lv [3, 4, 5, 2, 1, 0] rfl (t_Mo_told_B80 C hR hRm hnL v0 v2 v3 v3 8 0 0 ho_v0 σ2 h)
    · refine ww_iload_n C 4 rfl rfl (dq dk_Mo_told 44 rfl) ?_
      refine ww_if_ne C 79 (dq dk_Mo_told 45 rfl) (by decide) h (fun h => ?_) (fun h => ?_)
      · refine ww_iconst C (dq dk_Mo_told 48 rfl) ic_0 ?_
        exact ww_lv [3, 4, 5, 2, 1, 0] rfl (t_Mo_told_B80 C hR hRm hnL v0 v2 v3 v3 8 0 0 ho_v0 σ2 h)
      · refine ww_iconst C (dq dk_Mo_told 46 rfl) ic_1 ?_
        refine ww_goto C 80 (dq dk_Mo_told 47 rfl) (by decide) ?_
        exact ww_lv [3, 4, 5, 2, 1, 0] rfl (t_Mo_told_B80 C hR hRm hnL v0 v2 v3 v3 8 0 1 ho_v0 σ2 h)
  · exact ww_vret C hR (dq dk_Mo_told 34 rfl) h
set_option maxHeartbeats 4000000 in
set_option maxRecDepth 100000 in
theorem c_Mo_told (v0 : Nat) (ho_v0 : kd v0 = 12) : MV y_Mo_told rm_Mo_told prog_14_method_10_code 9 (fun a => [.ref (a v0)]) (Mo_told v0) := by
  refine mv_of (by decide) (fun _ => le_ rfl) ?_
  intro k res σ C hR hRm hnL h
  unfold Mo_told at h
  show WW k 0 [(0, .ref (ad k v0))] [] σ
  refine ww_aload_n C 0 rfl rfl (dq dk_Mo_told 0 rfl) ?_
  refine ww_cVi (st := []) C (c_Mo_next v0 ho_v0) cw_Mo_next ho_v0 (lt_ rfl) rfl g_7_33 hRm ⟨⟨rfl, rfl⟩, le_ rfl, le_ rfl⟩ rfl rfl rfl (le_ rfl) (dq dk_Mo_told 1 rfl) h (fun x2 σ1 h => ?_)
  refine ww_sipush C (dq dk_Mo_told 2 rfl) sp_255 ?_
  refine ww_iand C (dq dk_Mo_told 3 rfl) ?_
  refine ww_nmi h (fun x3 h => ?_)
  refine ww_istore_n C [(1, .int x3), (0, .ref (ad k v0))] rfl hnL (lt_ rfl) rfl (dq dk_Mo_told 4 rfl) ?_
  refine ww_iload_n C 0 rfl rfl (dq dk_Mo_told 5 rfl) ?_
  refine ww_bipush C (dq dk_Mo_told 6 rfl) bp_6 ?_
  refine ww_ishr C (dq dk_Mo_told 7 rfl) ?_
  refine ww_nmi h (fun x4 h => ?_)
  refine ww_istore_n C [(2, .int x4), (1, .int x3), (0, .ref (ad k v0))] rfl hnL (lt_ rfl) rfl (dq dk_Mo_told 8 rfl) ?_
  refine ww_iload_n C 1 rfl rfl (dq dk_Mo_told 9 rfl) ?_
  refine ww_bipush C (dq dk_Mo_told 10 rfl) bp_7 ?_
  refine ww_iand C (dq dk_Mo_told 11 rfl) ?_
  refine ww_nmi h (fun x5 h => ?_)
  refine ww_istore_n C [(3, .int x5), (2, .int x4), (1, .int x3), (0, .ref (ad k v0))] rfl hnL (lt_ rfl) rfl (dq dk_Mo_told 12 rfl) ?_
  refine ww_aload_n C 3 rfl rfl (dq dk_Mo_told 13 rfl) ?_
  refine ww_iload_n C 2 rfl rfl (dq dk_Mo_told 14 rfl) ?_
  refine ww_iconst C (dq dk_Mo_told 15 rfl) ic_3 ?_
  refine ww_ishr C (dq dk_Mo_told 16 rfl) ?_
  refine ww_bipush C (dq dk_Mo_told 17 rfl) bp_7 ?_
  refine ww_iand C (dq dk_Mo_told 18 rfl) ?_
  refine ww_puti C ko_Mo 52 ho_v0 (lt_ rfl) g_6_102 rfl rfl rfl rfl (dq dk_Mo_told 19 rfl) h (fun σ6 h => ?_)
  refine ww_aload_n C 3 rfl rfl (dq dk_Mo_told 20 rfl) ?_
  refine ww_iload_n C 1 rfl rfl (dq dk_Mo_told 21 rfl) ?_
  refine ww_iconst C (dq dk_Mo_told 22 rfl) ic_3 ?_
  refine ww_icmp_ge C 39 (dq dk_Mo_told 23 rfl) (by decide) h (fun h => ?_) (fun h => ?_)
  · refine ww_iconst C (dq dk_Mo_told 26 rfl) ic_0 ?_
    exact ww_lv [3, 1, 0] rfl (t_Mo_told_B40 C hR hRm hnL v0 x4 x5 v0 0 ho_v0 ho_v0 σ6 h)
  · refine ww_iconst C (dq dk_Mo_told 24 rfl) ic_1 ?_
    refine ww_goto C 40 (dq dk_Mo_told 25 rfl) (by decide) ?_
    exact ww_lv [3, 1, 0] rfl (t_Mo_told_B40 C hR hRm hnL v0 x4 x5 v0 1 ho_v0 ho_v0 σ6 h)
abbrev y_Mo_is : MethodName := ⟨"BundleHouseModel", "is", "(II)Z"⟩
def dl_Mo_is : List (Nat × Instr × Nat) := [(0, .aload_n 0, 1), (1, .iload_n 1, 1), (2, .putfield 144, 3), (5, .aload_n 0, 1), (6, .iload_n 2, 1), (7, .putfield 147, 3), (10, .iconst 1, 1), (11, .ireturn, 1)]
set_option maxRecDepth 100000 in
theorem dk_Mo_is : ∀ q ∈ dl_Mo_is, decode prog_14_method_11_code q.1 = .ok q.2 := by decide +kernel
abbrev rm_Mo_is : Room := { frames := 0, cells := 0, slots := 0, locals := 0 }
theorem cw_Mo_is : CWV y_Mo_is prog_14_method_11_code 3 (some .boolean) 2 := ⟨⟨g_7_60, g_1_13, by decide, by decide, by decide +kernel⟩, g_7_59, gs_5_8⟩
set_option maxHeartbeats 4000000 in
set_option maxRecDepth 100000 in
theorem c_Mo_is (v0 : Nat) (ho_v0 : kd v0 = 12) (v1 : Int32) (v2 : Int32) : MI y_Mo_is rm_Mo_is prog_14_method_11_code 3 .boolean (fun a => [.ref (a v0), .int v1, .int v2]) (Mo_is v0 v1 v2) := by
  refine mi_of (by decide) (fun _ => le_ rfl) ?_
  intro k res σ C hR hRm hnL h
  unfold Mo_is at h
  show WW k 0 [(0, .ref (ad k v0)), (1, .int v1), (2, .int v2)] [] σ
  refine ww_aload_n C 0 rfl rfl (dq dk_Mo_is 0 rfl) ?_
  refine ww_iload_n C 1 rfl rfl (dq dk_Mo_is 1 rfl) ?_
  refine ww_puti C ko_Mo 46 ho_v0 (lt_ rfl) g_6_96 rfl rfl rfl rfl (dq dk_Mo_is 2 rfl) h (fun σ1 h => ?_)
  refine ww_aload_n C 0 rfl rfl (dq dk_Mo_is 3 rfl) ?_
  refine ww_iload_n C 2 rfl rfl (dq dk_Mo_is 4 rfl) ?_
  refine ww_puti C ko_Mo 47 ho_v0 (lt_ rfl) g_6_97 rfl rfl rfl rfl (dq dk_Mo_is 5 rfl) h (fun σ2 h => ?_)
  refine ww_iconst C (dq dk_Mo_is 6 rfl) ic_1 ?_
  exact ww_zretL C hR (dq dk_Mo_is 7 rfl) (Or.inr rfl) h
abbrev y_Mo_left : MethodName := ⟨"BundleHouseModel", "left", "(I)Z"⟩
def dl_Mo_left : List (Nat × Instr × Nat) := [(0, .aload_n 0, 1), (1, .invokevirtual 150, 3), (4, .aload_n 0, 1), (5, .getfield 128, 3), (8, .ifCond .eq 18, 3), (11, .aload_n 0, 1), (12, .aload_n 0, 1), (13, .getfield 125, 3), (16, .putfield 153, 3), (19, .aload_n 0, 1), (20, .iload_n 1, 1), (21, .iconst 4, 1), (22, .invokevirtual 156, 3), (25, .ireturn, 1), (26, .aload_n 0, 1), (27, .aload_n 0, 1), (28, .getfield 132, 3), (31, .putfield 153, 3), (34, .aload_n 0, 1), (35, .aload_n 0, 1), (36, .getfield 125, 3), (39, .putfield 132, 3), (42, .aload_n 0, 1), (43, .iload_n 1, 1), (44, .iconst 2, 1), (45, .invokevirtual 156, 3), (48, .ireturn, 1)]
set_option maxRecDepth 100000 in
theorem dk_Mo_left : ∀ q ∈ dl_Mo_left, decode prog_14_method_12_code q.1 = .ok q.2 := by decide +kernel
abbrev rm_Mo_left : Room := { frames := 3, cells := 0, slots := 0, locals := 70 }
theorem cw_Mo_left : CWV y_Mo_left prog_14_method_12_code 2 (some .boolean) 1 := ⟨⟨g_7_44, g_1_13, by decide, by decide, by decide +kernel⟩, g_7_43, gs_5_4⟩
set_option maxHeartbeats 4000000 in
set_option maxRecDepth 100000 in
theorem c_Mo_left (v0 : Nat) (ho_v0 : kd v0 = 12) (v1 : Int32) : MI y_Mo_left rm_Mo_left prog_14_method_12_code 2 .boolean (fun a => [.ref (a v0), .int v1]) (Mo_left v0 v1) := by
  refine mi_of (by decide) (fun _ => le_ rfl) ?_
  intro k res σ C hR hRm hnL h
  unfold Mo_left at h
  show WW k 0 [(0, .ref (ad k v0)), (1, .int v1)] [] σ
  refine ww_aload_n C 0 rfl rfl (dq dk_Mo_left 0 rfl) ?_
  refine ww_cVv (st := []) C (c_Mo_told v0 ho_v0) cw_Mo_told ho_v0 (lt_ rfl) rfl g_7_45 hRm ⟨⟨rfl, rfl⟩, le_ rfl, le_ rfl⟩ rfl rfl rfl (le_ rfl) (dq dk_Mo_left 1 rfl) h (fun σ1 h => ?_)
  refine ww_aload_n C 0 rfl rfl (dq dk_Mo_left 2 rfl) ?_
  refine ww_geti C ko_Mo 53 ho_v0 (lt_ rfl) g_6_103 rfl rfl (dq dk_Mo_left 3 rfl) ?_
  refine ww_if_eq C 26 (dq dk_Mo_left 4 rfl) (by decide) h (fun h => ?_) (fun h => ?_)
  · refine ww_aload_n C 0 rfl rfl (dq dk_Mo_left 14 rfl) ?_
    refine ww_aload_n C 0 rfl rfl (dq dk_Mo_left 15 rfl) ?_
    refine ww_geti C ko_Mo 49 ho_v0 (lt_ rfl) g_6_99 rfl rfl (dq dk_Mo_left 16 rfl) ?_
    refine ww_puti C ko_Mo 48 ho_v0 (lt_ rfl) g_6_98 rfl rfl rfl rfl (dq dk_Mo_left 17 rfl) h (fun σ2 h => ?_)
    refine ww_aload_n C 0 rfl rfl (dq dk_Mo_left 18 rfl) ?_
    refine ww_aload_n C 0 rfl rfl (dq dk_Mo_left 19 rfl) ?_
    refine ww_geti C ko_Mo 52 ho_v0 (lt_ rfl) g_6_102 rfl rfl (dq dk_Mo_left 20 rfl) ?_
    refine ww_puti C ko_Mo 49 ho_v0 (lt_ rfl) g_6_99 rfl rfl rfl rfl (dq dk_Mo_left 21 rfl) h (fun σ3 h => ?_)
    refine ww_aload_n C 0 rfl rfl (dq dk_Mo_left 22 rfl) ?_
    refine ww_iload_n C 1 rfl rfl (dq dk_Mo_left 23 rfl) ?_
    refine ww_iconst C (dq dk_Mo_left 24 rfl) ic_2 ?_
    refine ww_cVi (st := []) C (c_Mo_is v0 ho_v0 v1 2) cw_Mo_is ho_v0 (lt_ rfl) rfl g_7_57 hRm ⟨⟨rfl, rfl⟩, le_ rfl, le_ rfl⟩ rfl rfl rfl (le_ rfl) (dq dk_Mo_left 25 rfl) h (fun x5 σ4 h => ?_)
    exact ww_zret C hR (dq dk_Mo_left 26 rfl) h
  · refine ww_aload_n C 0 rfl rfl (dq dk_Mo_left 5 rfl) ?_
    refine ww_aload_n C 0 rfl rfl (dq dk_Mo_left 6 rfl) ?_
    refine ww_geti C ko_Mo 52 ho_v0 (lt_ rfl) g_6_102 rfl rfl (dq dk_Mo_left 7 rfl) ?_
    refine ww_puti C ko_Mo 48 ho_v0 (lt_ rfl) g_6_98 rfl rfl rfl rfl (dq dk_Mo_left 8 rfl) h (fun σ6 h => ?_)
    refine ww_aload_n C 0 rfl rfl (dq dk_Mo_left 9 rfl) ?_
    refine ww_iload_n C 1 rfl rfl (dq dk_Mo_left 10 rfl) ?_
    refine ww_iconst C (dq dk_Mo_left 11 rfl) ic_4 ?_
    refine ww_cVi (st := []) C (c_Mo_is v0 ho_v0 v1 4) cw_Mo_is ho_v0 (lt_ rfl) rfl g_7_57 hRm ⟨⟨rfl, rfl⟩, le_ rfl, le_ rfl⟩ rfl rfl rfl (le_ rfl) (dq dk_Mo_left 12 rfl) h (fun x8 σ7 h => ?_)
    exact ww_zret C hR (dq dk_Mo_left 13 rfl) h
abbrev y_Mo_right : MethodName := ⟨"BundleHouseModel", "right", "(I)Z"⟩
def dl_Mo_right : List (Nat × Instr × Nat) := [(0, .aload_n 0, 1), (1, .invokevirtual 150, 3), (4, .aload_n 0, 1), (5, .aload_n 0, 1), (6, .getfield 125, 3), (9, .putfield 153, 3), (12, .aload_n 0, 1), (13, .iload_n 1, 1), (14, .aload_n 0, 1), (15, .getfield 128, 3), (18, .ifCond .eq 7, 3), (21, .iconst 3, 1), (22, .goto 4, 3), (25, .iconst 2, 1), (26, .invokevirtual 156, 3), (29, .ireturn, 1)]
set_option maxRecDepth 100000 in
theorem dk_Mo_right : ∀ q ∈ dl_Mo_right, decode prog_14_method_13_code q.1 = .ok q.2 := by decide +kernel
abbrev rm_Mo_right : Room := { frames := 3, cells := 0, slots := 0, locals := 70 }
theorem cw_Mo_right : CWV y_Mo_right prog_14_method_13_code 2 (some .boolean) 1 := ⟨⟨g_7_64, g_1_13, by decide, by decide, by decide +kernel⟩, g_7_63, gs_5_9⟩
set_option maxHeartbeats 4000000 in
set_option maxRecDepth 100000 in
theorem c_Mo_right (v0 : Nat) (ho_v0 : kd v0 = 12) (v1 : Int32) : MI y_Mo_right rm_Mo_right prog_14_method_13_code 2 .boolean (fun a => [.ref (a v0), .int v1]) (Mo_right v0 v1) := by
  refine mi_of (by decide) (fun _ => le_ rfl) ?_
  intro k res σ C hR hRm hnL h
  unfold Mo_right at h
  show WW k 0 [(0, .ref (ad k v0)), (1, .int v1)] [] σ
  refine ww_aload_n C 0 rfl rfl (dq dk_Mo_right 0 rfl) ?_
  refine ww_cVv (st := []) C (c_Mo_told v0 ho_v0) cw_Mo_told ho_v0 (lt_ rfl) rfl g_7_45 hRm ⟨⟨rfl, rfl⟩, le_ rfl, le_ rfl⟩ rfl rfl rfl (le_ rfl) (dq dk_Mo_right 1 rfl) h (fun σ1 h => ?_)
  refine ww_aload_n C 0 rfl rfl (dq dk_Mo_right 2 rfl) ?_
  refine ww_aload_n C 0 rfl rfl (dq dk_Mo_right 3 rfl) ?_
  refine ww_geti C ko_Mo 52 ho_v0 (lt_ rfl) g_6_102 rfl rfl (dq dk_Mo_right 4 rfl) ?_
  refine ww_puti C ko_Mo 48 ho_v0 (lt_ rfl) g_6_98 rfl rfl rfl rfl (dq dk_Mo_right 5 rfl) h (fun σ2 h => ?_)
  refine ww_aload_n C 0 rfl rfl (dq dk_Mo_right 6 rfl) ?_
  refine ww_iload_n C 1 rfl rfl (dq dk_Mo_right 7 rfl) ?_
  refine ww_aload_n C 0 rfl rfl (dq dk_Mo_right 8 rfl) ?_
  refine ww_geti C ko_Mo 53 ho_v0 (lt_ rfl) g_6_103 rfl rfl (dq dk_Mo_right 9 rfl) ?_
  refine ww_if_eq C 25 (dq dk_Mo_right 10 rfl) (by decide) h (fun h => ?_) (fun h => ?_)
  · refine ww_iconst C (dq dk_Mo_right 13 rfl) ic_2 ?_
    refine ww_cVi (st := []) C (c_Mo_is v0 ho_v0 v1 2) cw_Mo_is ho_v0 (lt_ rfl) rfl g_7_57 hRm ⟨⟨rfl, rfl⟩, le_ rfl, le_ rfl⟩ rfl rfl rfl (le_ rfl) (dq dk_Mo_right 14 rfl) h (fun x4 σ3 h => ?_)
    exact ww_zret C hR (dq dk_Mo_right 15 rfl) h
  · refine ww_iconst C (dq dk_Mo_right 11 rfl) ic_3 ?_
    refine ww_goto C 26 (dq dk_Mo_right 12 rfl) (by decide) ?_
    refine ww_cVi (st := []) C (c_Mo_is v0 ho_v0 v1 3) cw_Mo_is ho_v0 (lt_ rfl) rfl g_7_57 hRm ⟨⟨rfl, rfl⟩, le_ rfl, le_ rfl⟩ rfl rfl rfl (le_ rfl) (dq dk_Mo_right 14 rfl) h (fun x6 σ5 h => ?_)
    exact ww_zret C hR (dq dk_Mo_right 15 rfl) h
abbrev y_Mo_alone : MethodName := ⟨"BundleHouseModel", "alone", "(IZ)Z"⟩
def dl_Mo_alone : List (Nat × Instr × Nat) := [(0, .aload_n 0, 1), (1, .getfield 128, 3), (4, .ifCond .ne 16, 3), (7, .aload_n 0, 1), (8, .aload_n 0, 1), (9, .getfield 132, 3), (12, .putfield 153, 3), (15, .aload_n 0, 1), (16, .iconst 0, 1), (17, .putfield 132, 3), (20, .aload_n 0, 1), (21, .iload_n 1, 1), (22, .aload_n 0, 1), (23, .getfield 128, 3), (26, .ifCond .eq 17, 3), (29, .iload_n 2, 1), (30, .ifCond .eq 8, 3), (33, .bipush 6, 2), (35, .goto 17, 3), (38, .bipush 7, 2), (40, .goto 12, 3), (43, .iload_n 2, 1), (44, .ifCond .eq 7, 3), (47, .iconst 5, 1), (48, .goto 4, 3), (51, .iconst 1, 1), (52, .invokevirtual 156, 3), (55, .ireturn, 1)]
set_option maxRecDepth 100000 in
theorem dk_Mo_alone : ∀ q ∈ dl_Mo_alone, decode prog_14_method_14_code q.1 = .ok q.2 := by decide +kernel
abbrev rm_Mo_alone : Room := { frames := 1, cells := 0, slots := 0, locals := 22 }
theorem cw_Mo_alone : CWV y_Mo_alone prog_14_method_14_code 3 (some .boolean) 2 := ⟨⟨g_7_72, g_1_13, by decide, by decide, by decide +kernel⟩, g_7_71, gs_5_11⟩
set_option maxHeartbeats 4000000 in
set_option maxRecDepth 100000 in
theorem t_Mo_alone_B20 {k : Cfg} {res : Int32 × St} (C : Cx k prog_14_method_14_code "BundleHouseModel") (hR : RI k .boolean res) (hRm : k.2.2.2.1 = rm_Mo_alone) (hnL : k.2.2.2.2.2.2.2.2.2.2.2.1 = 3) (v0 : Nat) (v1 : Int32) (v2 : Int32) (ho_v0 : kd v0 = 12) (σ : St) (h : Mo_alone_B20 v0 v1 v2 σ = some res) : WW k 20 [(0, .ref (ad k v0)), (1, .int v1), (2, .int v2)] [] σ := by
  unfold Mo_alone_B20 at h
  refine ww_aload_n C 0 rfl rfl (dq dk_Mo_alone 10 rfl) ?_
  refine ww_iload_n C 1 rfl rfl (dq dk_Mo_alone 11 rfl) ?_
  refine ww_aload_n C 0 rfl rfl (dq dk_Mo_alone 12 rfl) ?_
  refine ww_geti C ko_Mo 53 ho_v0 (lt_ rfl) g_6_103 rfl rfl (dq dk_Mo_alone 13 rfl) ?_
  refine ww_if_eq C 43 (dq dk_Mo_alone 14 rfl) (by decide) h (fun h => ?_) (fun h => ?_)
  · refine ww_iload_n C 2 rfl rfl (dq dk_Mo_alone 21 rfl) ?_
    refine ww_if_eq C 51 (dq dk_Mo_alone 22 rfl) (by decide) h (fun h => ?_) (fun h => ?_)
    · refine ww_iconst C (dq dk_Mo_alone 25 rfl) ic_1 ?_
      refine ww_cVi (st := []) C (c_Mo_is v0 ho_v0 v1 1) cw_Mo_is ho_v0 (lt_ rfl) rfl g_7_57 hRm ⟨⟨rfl, rfl⟩, le_ rfl, le_ rfl⟩ rfl rfl rfl (le_ rfl) (dq dk_Mo_alone 26 rfl) h (fun x2 σ1 h => ?_)
      exact ww_zret C hR (dq dk_Mo_alone 27 rfl) h
    · refine ww_iconst C (dq dk_Mo_alone 23 rfl) ic_5 ?_
      refine ww_goto C 52 (dq dk_Mo_alone 24 rfl) (by decide) ?_
      refine ww_cVi (st := []) C (c_Mo_is v0 ho_v0 v1 5) cw_Mo_is ho_v0 (lt_ rfl) rfl g_7_57 hRm ⟨⟨rfl, rfl⟩, le_ rfl, le_ rfl⟩ rfl rfl rfl (le_ rfl) (dq dk_Mo_alone 26 rfl) h (fun x4 σ3 h => ?_)
      exact ww_zret C hR (dq dk_Mo_alone 27 rfl) h
  · refine ww_iload_n C 2 rfl rfl (dq dk_Mo_alone 15 rfl) ?_
    refine ww_if_eq C 38 (dq dk_Mo_alone 16 rfl) (by decide) h (fun h => ?_) (fun h => ?_)
    · refine ww_bipush C (dq dk_Mo_alone 19 rfl) bp_7 ?_
      refine ww_goto C 52 (dq dk_Mo_alone 20 rfl) (by decide) ?_
      refine ww_cVi (st := []) C (c_Mo_is v0 ho_v0 v1 7) cw_Mo_is ho_v0 (lt_ rfl) rfl g_7_57 hRm ⟨⟨rfl, rfl⟩, le_ rfl, le_ rfl⟩ rfl rfl rfl (le_ rfl) (dq dk_Mo_alone 26 rfl) h (fun x6 σ5 h => ?_)
      exact ww_zret C hR (dq dk_Mo_alone 27 rfl) h
    · refine ww_bipush C (dq dk_Mo_alone 17 rfl) bp_6 ?_
      refine ww_goto C 52 (dq dk_Mo_alone 18 rfl) (by decide) ?_
      refine ww_cVi (st := []) C (c_Mo_is v0 ho_v0 v1 6) cw_Mo_is ho_v0 (lt_ rfl) rfl g_7_57 hRm ⟨⟨rfl, rfl⟩, le_ rfl, le_ rfl⟩ rfl rfl rfl (le_ rfl) (dq dk_Mo_alone 26 rfl) h (fun x8 σ7 h => ?_)
      exact ww_zret C hR (dq dk_Mo_alone 27 rfl) h
set_option maxHeartbeats 4000000 in
set_option maxRecDepth 100000 in
theorem c_Mo_alone (v0 : Nat) (ho_v0 : kd v0 = 12) (v1 : Int32) (v2 : Int32) : MI y_Mo_alone rm_Mo_alone prog_14_method_14_code 3 .boolean (fun a => [.ref (a v0), .int v1, .int v2]) (Mo_alone v0 v1 v2) := by
  refine mi_of (by decide) (fun _ => le_ rfl) ?_
  intro k res σ C hR hRm hnL h
  unfold Mo_alone at h
  show WW k 0 [(0, .ref (ad k v0)), (1, .int v1), (2, .int v2)] [] σ
  refine ww_aload_n C 0 rfl rfl (dq dk_Mo_alone 0 rfl) ?_
  refine ww_geti C ko_Mo 53 ho_v0 (lt_ rfl) g_6_103 rfl rfl (dq dk_Mo_alone 1 rfl) ?_
  refine ww_if_ne C 20 (dq dk_Mo_alone 2 rfl) (by decide) h (fun h => ?_) (fun h => ?_)
  · exact ww_lv [0, 1, 2] rfl (t_Mo_alone_B20 C hR hRm hnL v0 v1 v2 ho_v0 σ h)
  · refine ww_aload_n C 0 rfl rfl (dq dk_Mo_alone 3 rfl) ?_
    refine ww_aload_n C 0 rfl rfl (dq dk_Mo_alone 4 rfl) ?_
    refine ww_geti C ko_Mo 49 ho_v0 (lt_ rfl) g_6_99 rfl rfl (dq dk_Mo_alone 5 rfl) ?_
    refine ww_puti C ko_Mo 48 ho_v0 (lt_ rfl) g_6_98 rfl rfl rfl rfl (dq dk_Mo_alone 6 rfl) h (fun σ1 h => ?_)
    refine ww_aload_n C 0 rfl rfl (dq dk_Mo_alone 7 rfl) ?_
    refine ww_iconst C (dq dk_Mo_alone 8 rfl) ic_0 ?_
    refine ww_puti C ko_Mo 49 ho_v0 (lt_ rfl) g_6_99 rfl rfl rfl rfl (dq dk_Mo_alone 9 rfl) h (fun σ2 h => ?_)
    exact ww_lv [0, 1, 2] rfl (t_Mo_alone_B20 C hR hRm hnL v0 v1 v2 ho_v0 σ2 h)
abbrev y_Mo_second : MethodName := ⟨"BundleHouseModel", "second", "()Z"⟩
def dl_Mo_second : List (Nat × Instr × Nat) := [(0, .aload_n 0, 1), (1, .invokevirtual 121, 3), (4, .istore_n 1, 1), (5, .iload_n 1, 1), (6, .sipush 175, 3), (9, .if_icmp .ne 10, 3), (12, .aload_n 0, 1), (13, .bipush 11, 2), (15, .invokevirtual 170, 3), (18, .ireturn, 1), (19, .iload_n 1, 1), (20, .sipush 128, 3), (23, .if_icmp .lt 24, 3), (26, .iload_n 1, 1), (27, .sipush 143, 3), (30, .if_icmp .gt 17, 3), (33, .iload_n 1, 1), (34, .sipush 138, 3), (37, .if_icmp .eq 10, 3), (40, .iload_n 1, 1), (41, .sipush 139, 3), (44, .if_icmp .ne 5, 3), (47, .iconst 0, 1), (48, .ireturn, 1), (49, .aload_n 0, 1), (50, .iload_n 1, 1), (51, .sipush 128, 3), (54, .isub, 1), (55, .putfield 153, 3), (58, .aload_n 0, 1), (59, .aload_n 0, 1), (60, .invokevirtual 138, 3), (63, .putfield 160, 3), (66, .aload_n 0, 1), (67, .bipush 25, 2), (69, .bipush 8, 2), (71, .invokevirtual 156, 3), (74, .ireturn, 1)]
set_option maxRecDepth 100000 in
theorem dk_Mo_second : ∀ q ∈ dl_Mo_second, decode prog_14_method_17_code q.1 = .ok q.2 := by decide +kernel
abbrev rm_Mo_second : Room := { frames := 4, cells := 0, slots := 0, locals := 91 }
theorem cw_Mo_second : CWV y_Mo_second prog_14_method_17_code 2 (some .boolean) 0 := ⟨⟨g_7_68, g_1_13, by decide, by decide, by decide +kernel⟩, g_7_67, gs_5_10⟩
set_option maxHeartbeats 4000000 in
set_option maxRecDepth 100000 in
theorem c_Mo_second (v0 : Nat) (ho_v0 : kd v0 = 12) : MI y_Mo_second rm_Mo_second prog_14_method_17_code 2 .boolean (fun a => [.ref (a v0)]) (Mo_second v0) := by
  refine mi_of (by decide) (fun _ => le_ rfl) ?_
  intro k res σ C hR hRm hnL h
  unfold Mo_second at h
  show WW k 0 [(0, .ref (ad k v0))] [] σ
  refine ww_aload_n C 0 rfl rfl (dq dk_Mo_second 0 rfl) ?_
  refine ww_cVi (st := []) C (c_Mo_next v0 ho_v0) cw_Mo_next ho_v0 (lt_ rfl) rfl g_7_33 hRm ⟨⟨rfl, rfl⟩, le_ rfl, le_ rfl⟩ rfl rfl rfl (le_ rfl) (dq dk_Mo_second 1 rfl) h (fun x2 σ1 h => ?_)
  refine ww_istore_n C [(1, .int x2), (0, .ref (ad k v0))] rfl hnL (lt_ rfl) rfl (dq dk_Mo_second 2 rfl) ?_
  refine ww_iload_n C 0 rfl rfl (dq dk_Mo_second 3 rfl) ?_
  refine ww_sipush C (dq dk_Mo_second 4 rfl) sp_175 ?_
  refine ww_icmp_ne C 19 (dq dk_Mo_second 5 rfl) (by decide) h (fun h => ?_) (fun h => ?_)
  · refine ww_iload_n C 0 rfl rfl (dq dk_Mo_second 10 rfl) ?_
    refine ww_sipush C (dq dk_Mo_second 11 rfl) sp_128 ?_
    refine ww_icmp_lt C 47 (dq dk_Mo_second 12 rfl) (by decide) h (fun h => ?_) (fun h => ?_)
    · refine ww_iconst C (dq dk_Mo_second 22 rfl) ic_0 ?_
      exact ww_zretL C hR (dq dk_Mo_second 23 rfl) (Or.inl rfl) h
    · refine ww_iload_n C 0 rfl rfl (dq dk_Mo_second 13 rfl) ?_
      refine ww_sipush C (dq dk_Mo_second 14 rfl) sp_143 ?_
      refine ww_icmp_gt C 47 (dq dk_Mo_second 15 rfl) (by decide) h (fun h => ?_) (fun h => ?_)
      · refine ww_iconst C (dq dk_Mo_second 22 rfl) ic_0 ?_
        exact ww_zretL C hR (dq dk_Mo_second 23 rfl) (Or.inl rfl) h
      · refine ww_iload_n C 0 rfl rfl (dq dk_Mo_second 16 rfl) ?_
        refine ww_sipush C (dq dk_Mo_second 17 rfl) sp_138 ?_
        refine ww_icmp_eq C 47 (dq dk_Mo_second 18 rfl) (by decide) h (fun h => ?_) (fun h => ?_)
        · refine ww_iconst C (dq dk_Mo_second 22 rfl) ic_0 ?_
          exact ww_zretL C hR (dq dk_Mo_second 23 rfl) (Or.inl rfl) h
        · refine ww_iload_n C 0 rfl rfl (dq dk_Mo_second 19 rfl) ?_
          refine ww_sipush C (dq dk_Mo_second 20 rfl) sp_139 ?_
          refine ww_icmp_ne C 49 (dq dk_Mo_second 21 rfl) (by decide) h (fun h => ?_) (fun h => ?_)
          · refine ww_aload_n C 1 rfl rfl (dq dk_Mo_second 24 rfl) ?_
            refine ww_iload_n C 0 rfl rfl (dq dk_Mo_second 25 rfl) ?_
            refine ww_sipush C (dq dk_Mo_second 26 rfl) sp_128 ?_
            refine ww_isub C (dq dk_Mo_second 27 rfl) ?_
            refine ww_puti C ko_Mo 48 ho_v0 (lt_ rfl) g_6_98 rfl rfl rfl rfl (dq dk_Mo_second 28 rfl) h (fun σ3 h => ?_)
            refine ww_aload_n C 1 rfl rfl (dq dk_Mo_second 29 rfl) ?_
            refine ww_aload_n C 1 rfl rfl (dq dk_Mo_second 30 rfl) ?_
            refine ww_cVi (st := [.ref (ad k v0)]) C (c_Mo_four v0 ho_v0) cw_Mo_four ho_v0 (lt_ rfl) rfl g_7_53 hRm ⟨⟨rfl, rfl⟩, le_ rfl, le_ rfl⟩ rfl rfl rfl (le_ rfl) (dq dk_Mo_second 31 rfl) h (fun x5 σ4 h => ?_)
            refine ww_puti C ko_Mo 51 ho_v0 (lt_ rfl) g_6_101 rfl rfl rfl rfl (dq dk_Mo_second 32 rfl) h (fun σ6 h => ?_)
            refine ww_aload_n C 1 rfl rfl (dq dk_Mo_second 33 rfl) ?_
            refine ww_bipush C (dq dk_Mo_second 34 rfl) bp_25 ?_
            refine ww_bipush C (dq dk_Mo_second 35 rfl) bp_8 ?_
            refine ww_cVi (st := []) C (c_Mo_is v0 ho_v0 25 8) cw_Mo_is ho_v0 (lt_ rfl) rfl g_7_57 hRm ⟨⟨rfl, rfl⟩, le_ rfl, le_ rfl⟩ rfl rfl rfl (le_ rfl) (dq dk_Mo_second 36 rfl) h (fun x8 σ7 h => ?_)
            exact ww_zret C hR (dq dk_Mo_second 37 rfl) h
          · refine ww_iconst C (dq dk_Mo_second 22 rfl) ic_0 ?_
            exact ww_zretL C hR (dq dk_Mo_second 23 rfl) (Or.inl rfl) h
  · refine ww_aload_n C 1 rfl rfl (dq dk_Mo_second 6 rfl) ?_
    refine ww_bipush C (dq dk_Mo_second 7 rfl) bp_11 ?_
    refine ww_cVi (st := []) C (c_Mo_right v0 ho_v0 11) cw_Mo_right ho_v0 (lt_ rfl) rfl g_7_61 hRm ⟨⟨rfl, rfl⟩, le_ rfl, le_ rfl⟩ rfl rfl rfl (le_ rfl) (dq dk_Mo_second 8 rfl) h (fun x10 σ9 h => ?_)
    exact ww_zret C hR (dq dk_Mo_second 9 rfl) h
abbrev y_Mo_known : MethodName := ⟨"BundleHouseModel", "known", "(I)Z"⟩
def dl_Mo_known : List (Nat × Instr × Nat) := [(0, .iload_n 1, 1), (1, .ifCond .ge 5, 3), (4, .iconst 0, 1), (5, .ireturn, 1), (6, .iload_n 1, 1), (7, .bipush 64, 2), (9, .if_icmp .ge 19, 3), (12, .iload_n 1, 1), (13, .bipush 7, 2), (15, .iand, 1), (16, .iconst 1, 1), (17, .if_icmp .ne 11, 3), (20, .aload_n 0, 1), (21, .iload_n 1, 1), (22, .iconst 3, 1), (23, .ishr, 1), (24, .invokevirtual 167, 3), (27, .ireturn, 1), (28, .iload_n 1, 1), (29, .bipush 64, 2), (31, .if_icmp .ge 19, 3), (34, .iload_n 1, 1), (35, .bipush 7, 2), (37, .iand, 1), (38, .iconst 3, 1), (39, .if_icmp .ne 11, 3), (42, .aload_n 0, 1), (43, .iload_n 1, 1), (44, .iconst 3, 1), (45, .ishr, 1), (46, .invokevirtual 170, 3), (49, .ireturn, 1), (50, .iload_n 1, 1), (51, .bipush 64, 2), (53, .if_icmp .lt 32, 3), (56, .iload_n 1, 1), (57, .bipush 96, 2), (59, .if_icmp .ge 26, 3), (62, .aload_n 0, 1), (63, .iload_n 1, 1), (64, .bipush 7, 2), (66, .iand, 1), (67, .putfield 153, 3), (70, .aload_n 0, 1), (71, .bipush 17, 2), (73, .iload_n 1, 1), (74, .bipush 64, 2), (76, .isub, 1), (77, .iconst 3, 1), (78, .ishr, 1), (79, .iadd, 1), (80, .iconst 1, 1), (81, .invokevirtual 156, 3), (84, .ireturn, 1), (85, .iload_n 1, 1), (86, .bipush 112, 2), (88, .if_icmp .lt 47, 3), (91, .iload_n 1, 1), (92, .sipush 128, 3), (95, .if_icmp .ge 40, 3), (98, .iload_n 1, 1), (99, .bipush 122, 2), (101, .if_icmp .eq 34, 3), (104, .iload_n 1, 1), (105, .bipush 123, 2), (107, .if_icmp .eq 28, 3), (110, .aload_n 0, 1), (111, .iload_n 1, 1), (112, .bipush 112, 2), (114, .isub, 1), (115, .putfield 153, 3), (118, .aload_n 0, 1), (119, .aload_n 0, 1), (120, .invokevirtual 135, 3), (123, .putfield 160, 3), (126, .aload_n 0, 1), (127, .bipush 25, 2), (129, .bipush 8, 2), (131, .invokevirtual 156, 3), (134, .ireturn, 1), (135, .iload_n 1, 1), (136, .sipush 184, 3), (139, .if_icmp .lt 35, 3), (142, .iload_n 1, 1), (143, .sipush 192, 3), (146, .if_icmp .ge 28, 3), (149, .aload_n 0, 1), (150, .iload_n 1, 1), (151, .sipush 184, 3), (154, .isub, 1), (155, .putfield 153, 3), (158, .aload_n 0, 1), (159, .aload_n 0, 1), (160, .invokevirtual 138, 3), (163, .putfield 160, 3), (166, .aload_n 0, 1), (167, .bipush 8, 2), (169, .iconst 5, 1), (170, .invokevirtual 156, 3), (173, .ireturn, 1), (174, .iload_n 1, 1), (175, .lookupswitch 571 #[(15, 161), (104, 166), (106, 183), (129, 200), (131, 200), (133, 238), (137, 245), (139, 252), (141, 259), (144, 281), (193, 289), (195, 370), (199, 378), (232, 411), (233, 428), (235, 445), (244, 462), (247, 470), (255, 517)], 161), (336, .aload_n 0, 1), (337, .invokevirtual 173, 3), (340, .ireturn, 1), (341, .aload_n 0, 1), (342, .aload_n 0, 1), (343, .invokevirtual 138, 3), (346, .putfield 160, 3), (349, .aload_n 0, 1), (350, .bipush 19, 2), (352, .bipush 8, 2), (354, .invokevirtual 156, 3), (357, .ireturn, 1), (358, .aload_n 0, 1), (359, .aload_n 0, 1), (360, .invokevirtual 135, 3), (363, .putfield 160, 3), (366, .aload_n 0, 1), (367, .bipush 19, 2), (369, .bipush 8, 2), (371, .invokevirtual 156, 3), (374, .ireturn, 1), (375, .aload_n 0, 1), (376, .invokevirtual 150, 3), (379, .aload_n 0, 1), (380, .aload_n 0, 1), (381, .getfield 125, 3), (384, .iconst 1, 1), (385, .invokevirtual 177, 3), (388, .pop, 1), (389, .aload_n 0, 1), (390, .iload_n 1, 1), (391, .sipush 129, 3), (394, .if_icmp .ne 10, 3), (397, .aload_n 0, 1), (398, .invokevirtual 138, 3), (401, .goto 7, 3), (404, .aload_n 0, 1), (405, .invokevirtual 135, 3), (408, .putfield 160, 3), (411, .iconst 1, 1), (412, .ireturn, 1), (413, .aload_n 0, 1), (414, .bipush 9, 2), (416, .invokevirtual 167, 3), (419, .ireturn, 1), (420, .aload_n 0, 1), (421, .bipush 8, 2), (423, .invokevirtual 167, 3), (426, .ireturn, 1), (427, .aload_n 0, 1), (428, .bipush 8, 2), (430, .invokevirtual 170, 3), (433, .ireturn, 1), (434, .aload_n 0, 1), (435, .bipush 10, 2), (437, .invokevirtual 170, 3), (440, .ifCond .eq 14, 3), (443, .aload_n 0, 1), (444, .getfield 128, 3), (447, .ifCond .eq 7, 3), (450, .iconst 1, 1), (451, .goto 4, 3), (454, .iconst 0, 1), (455, .ireturn, 1), (456, .aload_n 0, 1), (457, .bipush 21, 2), (459, .iconst 0, 1), (460, .invokevirtual 156, 3), (463, .ireturn, 1), (464, .aload_n 0, 1), (465, .invokevirtual 150, 3), (468, .aload_n 0, 1), (469, .aload_n 0, 1), (470, .getfield 125, 3), (473, .iconst 4, 1), (474, .if_icmp .ne 8, 3), (477, .bipush 14, 2), (479, .goto 18, 3), (482, .aload_n 0, 1), (483, .getfield 125, 3), (486, .iconst 5, 1), (487, .if_icmp .ne 8, 3), (490, .bipush 15, 2), (492, .goto 5, 3), (495, .bipush 16, 2), (497, .iconst 1, 1), (498, .invokevirtual 177, 3), (501, .pop, 1), (502, .aload_n 0, 1), (503, .aload_n 0, 1), (504, .invokevirtual 121, 3), (507, .sipush 255, 3), (510, .iand, 1), (511, .putfield 160, 3), (514, .aload_n 0, 1), (515, .getfield 125, 3), (518, .iconst 4, 1), (519, .if_icmp .eq 20, 3), (522, .aload_n 0, 1), (523, .getfield 125, 3), (526, .iconst 5, 1), (527, .if_icmp .eq 12, 3), (530, .aload_n 0, 1), (531, .getfield 125, 3), (534, .bipush 7, 2), (536, .if_icmp .ne 7, 3), (539, .iconst 1, 1), (540, .goto 4, 3), (543, .iconst 0, 1), (544, .ireturn, 1), (545, .aload_n 0, 1), (546, .bipush 23, 2), (548, .iconst 0, 1), (549, .invokevirtual 156, 3), (552, .ireturn, 1), (553, .aload_n 0, 1), (554, .invokevirtual 150, 3), (557, .aload_n 0, 1), (558, .bipush 8, 2), (560, .iconst 1, 1), (561, .invokevirtual 177, 3), (564, .pop, 1), (565, .aload_n 0, 1), (566, .aload_n 0, 1), (567, .invokevirtual 138, 3), (570, .putfield 160, 3), (573, .aload_n 0, 1), (574, .getfield 125, 3), (577, .ifCond .ne 7, 3), (580, .iconst 1, 1), (581, .goto 4, 3), (584, .iconst 0, 1), (585, .ireturn, 1), (586, .aload_n 0, 1), (587, .aload_n 0, 1), (588, .invokevirtual 138, 3), (591, .putfield 160, 3), (594, .aload_n 0, 1), (595, .bipush 26, 2), (597, .bipush 8, 2), (599, .invokevirtual 156, 3), (602, .ireturn, 1), (603, .aload_n 0, 1), (604, .aload_n 0, 1), (605, .invokevirtual 138, 3), (608, .putfield 160, 3), (611, .aload_n 0, 1), (612, .bipush 24, 2), (614, .bipush 8, 2), (616, .invokevirtual 156, 3), (619, .ireturn, 1), (620, .aload_n 0, 1), (621, .aload_n 0, 1), (622, .invokevirtual 135, 3), (625, .putfield 160, 3), (628, .aload_n 0, 1), (629, .bipush 24, 2), (631, .bipush 8, 2), (633, .invokevirtual 156, 3), (636, .ireturn, 1), (637, .aload_n 0, 1), (638, .bipush 22, 2), (640, .iconst 0, 1), (641, .invokevirtual 156, 3), (644, .ireturn, 1), (645, .aload_n 0, 1), (646, .invokevirtual 150, 3), (649, .aload_n 0, 1), (650, .aload_n 0, 1), (651, .getfield 125, 3), (654, .iconst 2, 1), (655, .if_icmp .ne 8, 3), (658, .bipush 12, 2), (660, .goto 5, 3), (663, .bipush 13, 2), (665, .iconst 0, 1), (666, .invokevirtual 177, 3), (669, .pop, 1), (670, .aload_n 0, 1), (671, .getfield 125, 3), (674, .iconst 2, 1), (675, .if_icmp .eq 11, 3), (678, .aload_n 0, 1), (679, .getfield 125, 3), (682, .iconst 3, 1), (683, .if_icmp .ne 7, 3), (686, .iconst 1, 1), (687, .goto 4, 3), (690, .iconst 0, 1), (691, .ireturn, 1), (692, .aload_n 0, 1), (693, .invokevirtual 150, 3), (696, .aload_n 0, 1), (697, .aload_n 0, 1), (698, .getfield 125, 3), (701, .iconst 4, 1), (702, .if_icmp .ne 8, 3), (705, .bipush 27, 2), (707, .goto 5, 3), (710, .bipush 28, 2), (712, .iconst 0, 1), (713, .invokevirtual 177, 3), (716, .pop, 1), (717, .aload_n 0, 1), (718, .getfield 128, 3), (721, .ifCond .ne 23, 3), (724, .aload_n 0, 1), (725, .getfield 125, 3), (728, .iconst 2, 1), (729, .if_icmp .eq 11, 3), (732, .aload_n 0, 1), (733, .getfield 125, 3), (736, .iconst 4, 1), (737, .if_icmp .ne 7, 3), (740, .iconst 1, 1), (741, .goto 4, 3), (744, .iconst 0, 1), (745, .ireturn, 1), (746, .iconst 0, 1), (747, .ireturn, 1)]
set_option maxRecDepth 100000 in
theorem dk_Mo_known : ∀ q ∈ dl_Mo_known, decode prog_14_method_16_code q.1 = .ok q.2 := by decide +kernel
abbrev rm_Mo_known : Room := { frames := 5, cells := 0, slots := 0, locals := 112 }
theorem cw_Mo_known : CWV y_Mo_known prog_14_method_16_code 2 (some .boolean) 1 := ⟨⟨g_7_40, g_1_13, by decide, by decide, by decide +kernel⟩, g_7_39, gs_5_3⟩
set_option maxHeartbeats 4000000 in
set_option maxRecDepth 100000 in
theorem t_Mo_known_B375 {k : Cfg} {res : Int32 × St} (C : Cx k prog_14_method_16_code "BundleHouseModel") (hR : RI k .boolean res) (hRm : k.2.2.2.1 = rm_Mo_known) (hnL : k.2.2.2.2.2.2.2.2.2.2.2.1 = 2) (v0 : Nat) (v1 : Int32) (ho_v0 : kd v0 = 12) (σ : St) (h : Mo_known_B375 v0 v1 σ = some res) : WW k 375 [(0, .ref (ad k v0)), (1, .int v1)] [] σ := by
  unfold Mo_known_B375 at h
  refine ww_aload_n C 0 rfl rfl (dq dk_Mo_known 123 rfl) ?_
  refine ww_cVv (st := []) C (c_Mo_told v0 ho_v0) cw_Mo_told ho_v0 (lt_ rfl) rfl g_7_45 hRm ⟨⟨rfl, rfl⟩, le_ rfl, le_ rfl⟩ rfl rfl rfl (le_ rfl) (dq dk_Mo_known 124 rfl) h (fun σ1 h => ?_)
  refine ww_aload_n C 0 rfl rfl (dq dk_Mo_known 125 rfl) ?_
  refine ww_aload_n C 0 rfl rfl (dq dk_Mo_known 126 rfl) ?_
  refine ww_geti C ko_Mo 52 ho_v0 (lt_ rfl) g_6_102 rfl rfl (dq dk_Mo_known 127 rfl) ?_
  refine ww_iconst C (dq dk_Mo_known 128 rfl) ic_1 ?_
  refine ww_cVi (st := []) C (c_Mo_alone v0 ho_v0 (σ1 v0 52) 1) cw_Mo_alone ho_v0 (lt_ rfl) rfl g_7_69 hRm ⟨⟨rfl, rfl⟩, le_ rfl, le_ rfl⟩ rfl rfl rfl (le_ rfl) (dq dk_Mo_known 129 rfl) h (fun x3 σ2 h => ?_)
  refine ww_pop C rfl (dq dk_Mo_known 130 rfl) ?_
  refine ww_aload_n C 0 rfl rfl (dq dk_Mo_known 131 rfl) ?_
  refine ww_iload_n C 1 rfl rfl (dq dk_Mo_known 132 rfl) ?_
  refine ww_sipush C (dq dk_Mo_known 133 rfl) sp_129 ?_
  refine ww_icmp_ne C 404 (dq dk_Mo_known 134 rfl) (by decide) h (fun h => ?_) (fun h => ?_)
  · refine ww_aload_n C 0 rfl rfl (dq dk_Mo_known 138 rfl) ?_
    refine ww_cVi (st := [.ref (ad k v0)]) C (c_Mo_small v0 ho_v0) cw_Mo_small ho_v0 (lt_ rfl) rfl g_7_49 hRm ⟨⟨rfl, rfl⟩, le_ rfl, le_ rfl⟩ rfl rfl rfl (le_ rfl) (dq dk_Mo_known 139 rfl) h (fun x5 σ4 h => ?_)
    refine ww_puti C ko_Mo 51 ho_v0 (lt_ rfl) g_6_101 rfl rfl rfl rfl (dq dk_Mo_known 140 rfl) h (fun σ6 h => ?_)
    refine ww_iconst C (dq dk_Mo_known 141 rfl) ic_1 ?_
    exact ww_zretL C hR (dq dk_Mo_known 142 rfl) (Or.inr rfl) h
  · refine ww_aload_n C 0 rfl rfl (dq dk_Mo_known 135 rfl) ?_
    refine ww_cVi (st := [.ref (ad k v0)]) C (c_Mo_four v0 ho_v0) cw_Mo_four ho_v0 (lt_ rfl) rfl g_7_53 hRm ⟨⟨rfl, rfl⟩, le_ rfl, le_ rfl⟩ rfl rfl rfl (le_ rfl) (dq dk_Mo_known 136 rfl) h (fun x8 σ7 h => ?_)
    refine ww_goto C 408 (dq dk_Mo_known 137 rfl) (by decide) ?_
    refine ww_puti C ko_Mo 51 ho_v0 (lt_ rfl) g_6_101 rfl rfl rfl rfl (dq dk_Mo_known 140 rfl) h (fun σ9 h => ?_)
    refine ww_iconst C (dq dk_Mo_known 141 rfl) ic_1 ?_
    exact ww_zretL C hR (dq dk_Mo_known 142 rfl) (Or.inr rfl) h
set_option maxHeartbeats 4000000 in
set_option maxRecDepth 100000 in
theorem t_Mo_known_B497 {k : Cfg} {res : Int32 × St} (C : Cx k prog_14_method_16_code "BundleHouseModel") (hR : RI k .boolean res) (hRm : k.2.2.2.1 = rm_Mo_known) (hnL : k.2.2.2.2.2.2.2.2.2.2.2.1 = 2) (v0 : Nat) (t0 : Nat) (t1 : Int32) (ho_v0 : kd v0 = 12) (ho_t0 : kd t0 = 12) (σ : St) (h : Mo_known_B497 v0 t0 t1 σ = some res) : WW k 497 [(0, .ref (ad k v0))] [.int t1, .ref (ad k t0)] σ := by
  unfold Mo_known_B497 at h
  refine ww_iconst C (dq dk_Mo_known 187 rfl) ic_1 ?_
  refine ww_cVi (st := []) C (c_Mo_alone t0 ho_t0 t1 1) cw_Mo_alone ho_t0 (lt_ rfl) rfl g_7_69 hRm ⟨⟨rfl, rfl⟩, le_ rfl, le_ rfl⟩ rfl rfl rfl (le_ rfl) (dq dk_Mo_known 188 rfl) h (fun x2 σ1 h => ?_)
  refine ww_pop C rfl (dq dk_Mo_known 189 rfl) ?_
  refine ww_aload_n C 0 rfl rfl (dq dk_Mo_known 190 rfl) ?_
  refine ww_aload_n C 0 rfl rfl (dq dk_Mo_known 191 rfl) ?_
  refine ww_cVi (st := [.ref (ad k v0)]) C (c_Mo_next v0 ho_v0) cw_Mo_next ho_v0 (lt_ rfl) rfl g_7_33 hRm ⟨⟨rfl, rfl⟩, le_ rfl, le_ rfl⟩ rfl rfl rfl (le_ rfl) (dq dk_Mo_known 192 rfl) h (fun x4 σ3 h => ?_)
  refine ww_sipush C (dq dk_Mo_known 193 rfl) sp_255 ?_
  refine ww_iand C (dq dk_Mo_known 194 rfl) ?_
  refine ww_puti C ko_Mo 51 ho_v0 (lt_ rfl) g_6_101 rfl rfl rfl rfl (dq dk_Mo_known 195 rfl) h (fun σ5 h => ?_)
  refine ww_aload_n C 0 rfl rfl (dq dk_Mo_known 196 rfl) ?_
  refine ww_geti C ko_Mo 52 ho_v0 (lt_ rfl) g_6_102 rfl rfl (dq dk_Mo_known 197 rfl) ?_
  refine ww_iconst C (dq dk_Mo_known 198 rfl) ic_4 ?_
  refine ww_icmp_eq C 539 (dq dk_Mo_known 199 rfl) (by decide) h (fun h => ?_) (fun h => ?_)
  · refine ww_iconst C (dq dk_Mo_known 208 rfl) ic_1 ?_
    refine ww_goto C 544 (dq dk_Mo_known 209 rfl) (by decide) ?_
    exact ww_zretL C hR (dq dk_Mo_known 211 rfl) (Or.inr rfl) h
  · refine ww_aload_n C 0 rfl rfl (dq dk_Mo_known 200 rfl) ?_
    refine ww_geti C ko_Mo 52 ho_v0 (lt_ rfl) g_6_102 rfl rfl (dq dk_Mo_known 201 rfl) ?_
    refine ww_iconst C (dq dk_Mo_known 202 rfl) ic_5 ?_
    refine ww_icmp_eq C 539 (dq dk_Mo_known 203 rfl) (by decide) h (fun h => ?_) (fun h => ?_)
    · refine ww_iconst C (dq dk_Mo_known 208 rfl) ic_1 ?_
      refine ww_goto C 544 (dq dk_Mo_known 209 rfl) (by decide) ?_
      exact ww_zretL C hR (dq dk_Mo_known 211 rfl) (Or.inr rfl) h
    · refine ww_aload_n C 0 rfl rfl (dq dk_Mo_known 204 rfl) ?_
      refine ww_geti C ko_Mo 52 ho_v0 (lt_ rfl) g_6_102 rfl rfl (dq dk_Mo_known 205 rfl) ?_
      refine ww_bipush C (dq dk_Mo_known 206 rfl) bp_7 ?_
      refine ww_icmp_ne C 543 (dq dk_Mo_known 207 rfl) (by decide) h (fun h => ?_) (fun h => ?_)
      · refine ww_iconst C (dq dk_Mo_known 210 rfl) ic_0 ?_
        exact ww_zretL C hR (dq dk_Mo_known 211 rfl) (Or.inl rfl) h
      · refine ww_iconst C (dq dk_Mo_known 208 rfl) ic_1 ?_
        refine ww_goto C 544 (dq dk_Mo_known 209 rfl) (by decide) ?_
        exact ww_zretL C hR (dq dk_Mo_known 211 rfl) (Or.inr rfl) h
set_option maxHeartbeats 4000000 in
set_option maxRecDepth 100000 in
theorem t_Mo_known_B665 {k : Cfg} {res : Int32 × St} (C : Cx k prog_14_method_16_code "BundleHouseModel") (hR : RI k .boolean res) (hRm : k.2.2.2.1 = rm_Mo_known) (hnL : k.2.2.2.2.2.2.2.2.2.2.2.1 = 2) (v0 : Nat) (t0 : Nat) (t1 : Int32) (ho_v0 : kd v0 = 12) (ho_t0 : kd t0 = 12) (σ : St) (h : Mo_known_B665 v0 t0 t1 σ = some res) : WW k 665 [(0, .ref (ad k v0))] [.int t1, .ref (ad k t0)] σ := by
  unfold Mo_known_B665 at h
  refine ww_iconst C (dq dk_Mo_known 277 rfl) ic_0 ?_
  refine ww_cVi (st := []) C (c_Mo_alone t0 ho_t0 t1 0) cw_Mo_alone ho_t0 (lt_ rfl) rfl g_7_69 hRm ⟨⟨rfl, rfl⟩, le_ rfl, le_ rfl⟩ rfl rfl rfl (le_ rfl) (dq dk_Mo_known 278 rfl) h (fun x2 σ1 h => ?_)
  refine ww_pop C rfl (dq dk_Mo_known 279 rfl) ?_
  refine ww_aload_n C 0 rfl rfl (dq dk_Mo_known 280 rfl) ?_
  refine ww_geti C ko_Mo 52 ho_v0 (lt_ rfl) g_6_102 rfl rfl (dq dk_Mo_known 281 rfl) ?_
  refine ww_iconst C (dq dk_Mo_known 282 rfl) ic_2 ?_
  refine ww_icmp_eq C 686 (dq dk_Mo_known 283 rfl) (by decide) h (fun h => ?_) (fun h => ?_)
  · refine ww_iconst C (dq dk_Mo_known 288 rfl) ic_1 ?_
    refine ww_goto C 691 (dq dk_Mo_known 289 rfl) (by decide) ?_
    exact ww_zretL C hR (dq dk_Mo_known 291 rfl) (Or.inr rfl) h
  · refine ww_aload_n C 0 rfl rfl (dq dk_Mo_known 284 rfl) ?_
    refine ww_geti C ko_Mo 52 ho_v0 (lt_ rfl) g_6_102 rfl rfl (dq dk_Mo_known 285 rfl) ?_
    refine ww_iconst C (dq dk_Mo_known 286 rfl) ic_3 ?_
    refine ww_icmp_ne C 690 (dq dk_Mo_known 287 rfl) (by decide) h (fun h => ?_) (fun h => ?_)
    · refine ww_iconst C (dq dk_Mo_known 290 rfl) ic_0 ?_
      exact ww_zretL C hR (dq dk_Mo_known 291 rfl) (Or.inl rfl) h
    · refine ww_iconst C (dq dk_Mo_known 288 rfl) ic_1 ?_
      refine ww_goto C 691 (dq dk_Mo_known 289 rfl) (by decide) ?_
      exact ww_zretL C hR (dq dk_Mo_known 291 rfl) (Or.inr rfl) h
set_option maxHeartbeats 4000000 in
set_option maxRecDepth 100000 in
theorem t_Mo_known_B712 {k : Cfg} {res : Int32 × St} (C : Cx k prog_14_method_16_code "BundleHouseModel") (hR : RI k .boolean res) (hRm : k.2.2.2.1 = rm_Mo_known) (hnL : k.2.2.2.2.2.2.2.2.2.2.2.1 = 2) (v0 : Nat) (t0 : Nat) (t1 : Int32) (ho_v0 : kd v0 = 12) (ho_t0 : kd t0 = 12) (σ : St) (h : Mo_known_B712 v0 t0 t1 σ = some res) : WW k 712 [(0, .ref (ad k v0))] [.int t1, .ref (ad k t0)] σ := by
  unfold Mo_known_B712 at h
  refine ww_iconst C (dq dk_Mo_known 302 rfl) ic_0 ?_
  refine ww_cVi (st := []) C (c_Mo_alone t0 ho_t0 t1 0) cw_Mo_alone ho_t0 (lt_ rfl) rfl g_7_69 hRm ⟨⟨rfl, rfl⟩, le_ rfl, le_ rfl⟩ rfl rfl rfl (le_ rfl) (dq dk_Mo_known 303 rfl) h (fun x2 σ1 h => ?_)
  refine ww_pop C rfl (dq dk_Mo_known 304 rfl) ?_
  refine ww_aload_n C 0 rfl rfl (dq dk_Mo_known 305 rfl) ?_
  refine ww_geti C ko_Mo 53 ho_v0 (lt_ rfl) g_6_103 rfl rfl (dq dk_Mo_known 306 rfl) ?_
  refine ww_if_ne C 744 (dq dk_Mo_known 307 rfl) (by decide) h (fun h => ?_) (fun h => ?_)
  · refine ww_iconst C (dq dk_Mo_known 318 rfl) ic_0 ?_
    exact ww_zretL C hR (dq dk_Mo_known 319 rfl) (Or.inl rfl) h
  · refine ww_aload_n C 0 rfl rfl (dq dk_Mo_known 308 rfl) ?_
    refine ww_geti C ko_Mo 52 ho_v0 (lt_ rfl) g_6_102 rfl rfl (dq dk_Mo_known 309 rfl) ?_
    refine ww_iconst C (dq dk_Mo_known 310 rfl) ic_2 ?_
    refine ww_icmp_eq C 740 (dq dk_Mo_known 311 rfl) (by decide) h (fun h => ?_) (fun h => ?_)
    · refine ww_iconst C (dq dk_Mo_known 316 rfl) ic_1 ?_
      refine ww_goto C 745 (dq dk_Mo_known 317 rfl) (by decide) ?_
      exact ww_zretL C hR (dq dk_Mo_known 319 rfl) (Or.inr rfl) h
    · refine ww_aload_n C 0 rfl rfl (dq dk_Mo_known 312 rfl) ?_
      refine ww_geti C ko_Mo 52 ho_v0 (lt_ rfl) g_6_102 rfl rfl (dq dk_Mo_known 313 rfl) ?_
      refine ww_iconst C (dq dk_Mo_known 314 rfl) ic_4 ?_
      refine ww_icmp_ne C 744 (dq dk_Mo_known 315 rfl) (by decide) h (fun h => ?_) (fun h => ?_)
      · refine ww_iconst C (dq dk_Mo_known 318 rfl) ic_0 ?_
        exact ww_zretL C hR (dq dk_Mo_known 319 rfl) (Or.inl rfl) h
      · refine ww_iconst C (dq dk_Mo_known 316 rfl) ic_1 ?_
        refine ww_goto C 745 (dq dk_Mo_known 317 rfl) (by decide) ?_
        exact ww_zretL C hR (dq dk_Mo_known 319 rfl) (Or.inr rfl) h
set_option maxHeartbeats 4000000 in
set_option maxRecDepth 100000 in
theorem t_Mo_known_B174 {k : Cfg} {res : Int32 × St} (C : Cx k prog_14_method_16_code "BundleHouseModel") (hR : RI k .boolean res) (hRm : k.2.2.2.1 = rm_Mo_known) (hnL : k.2.2.2.2.2.2.2.2.2.2.2.1 = 2) (v0 : Nat) (v1 : Int32) (ho_v0 : kd v0 = 12) (σ : St) (h : Mo_known_B174 v0 v1 σ = some res) : WW k 174 [(0, .ref (ad k v0)), (1, .int v1)] [] σ := by
  unfold Mo_known_B174 at h
  refine ww_iload_n C 1 rfl rfl (dq dk_Mo_known 100 rfl) ?_
  by_cases e0_15 : v1 = 15
  · rw [if_pos e0_15] at h
    refine ww_lookup (off := 161) C 336 (dq dk_Mo_known 101 rfl) (by decide) (by rw [e0_15] <;> rfl) (by decide) ?_
    refine ww_aload_n C 0 rfl rfl (dq dk_Mo_known 102 rfl) ?_
    refine ww_cVi (st := []) C (c_Mo_second v0 ho_v0) cw_Mo_second ho_v0 (lt_ rfl) rfl g_7_65 hRm ⟨⟨rfl, rfl⟩, le_ rfl, le_ rfl⟩ rfl rfl rfl (le_ rfl) (dq dk_Mo_known 103 rfl) h (fun x2 σ1 h => ?_)
    exact ww_zret C hR (dq dk_Mo_known 104 rfl) h
  rw [if_neg e0_15] at h
  by_cases e1_104 : v1 = 104
  · rw [if_pos e1_104] at h
    refine ww_lookup (off := 166) C 341 (dq dk_Mo_known 101 rfl) (by decide) (by rw [e1_104] <;> rfl) (by decide) ?_
    refine ww_aload_n C 0 rfl rfl (dq dk_Mo_known 105 rfl) ?_
    refine ww_aload_n C 0 rfl rfl (dq dk_Mo_known 106 rfl) ?_
    refine ww_cVi (st := [.ref (ad k v0)]) C (c_Mo_four v0 ho_v0) cw_Mo_four ho_v0 (lt_ rfl) rfl g_7_53 hRm ⟨⟨rfl, rfl⟩, le_ rfl, le_ rfl⟩ rfl rfl rfl (le_ rfl) (dq dk_Mo_known 107 rfl) h (fun x4 σ3 h => ?_)
    refine ww_puti C ko_Mo 51 ho_v0 (lt_ rfl) g_6_101 rfl rfl rfl rfl (dq dk_Mo_known 108 rfl) h (fun σ5 h => ?_)
    refine ww_aload_n C 0 rfl rfl (dq dk_Mo_known 109 rfl) ?_
    refine ww_bipush C (dq dk_Mo_known 110 rfl) bp_19 ?_
    refine ww_bipush C (dq dk_Mo_known 111 rfl) bp_8 ?_
    refine ww_cVi (st := []) C (c_Mo_is v0 ho_v0 19 8) cw_Mo_is ho_v0 (lt_ rfl) rfl g_7_57 hRm ⟨⟨rfl, rfl⟩, le_ rfl, le_ rfl⟩ rfl rfl rfl (le_ rfl) (dq dk_Mo_known 112 rfl) h (fun x7 σ6 h => ?_)
    exact ww_zret C hR (dq dk_Mo_known 113 rfl) h
  rw [if_neg e1_104] at h
  by_cases e2_106 : v1 = 106
  · rw [if_pos e2_106] at h
    refine ww_lookup (off := 183) C 358 (dq dk_Mo_known 101 rfl) (by decide) (by rw [e2_106] <;> rfl) (by decide) ?_
    refine ww_aload_n C 0 rfl rfl (dq dk_Mo_known 114 rfl) ?_
    refine ww_aload_n C 0 rfl rfl (dq dk_Mo_known 115 rfl) ?_
    refine ww_cVi (st := [.ref (ad k v0)]) C (c_Mo_small v0 ho_v0) cw_Mo_small ho_v0 (lt_ rfl) rfl g_7_49 hRm ⟨⟨rfl, rfl⟩, le_ rfl, le_ rfl⟩ rfl rfl rfl (le_ rfl) (dq dk_Mo_known 116 rfl) h (fun x9 σ8 h => ?_)
    refine ww_puti C ko_Mo 51 ho_v0 (lt_ rfl) g_6_101 rfl rfl rfl rfl (dq dk_Mo_known 117 rfl) h (fun σ10 h => ?_)
    refine ww_aload_n C 0 rfl rfl (dq dk_Mo_known 118 rfl) ?_
    refine ww_bipush C (dq dk_Mo_known 119 rfl) bp_19 ?_
    refine ww_bipush C (dq dk_Mo_known 120 rfl) bp_8 ?_
    refine ww_cVi (st := []) C (c_Mo_is v0 ho_v0 19 8) cw_Mo_is ho_v0 (lt_ rfl) rfl g_7_57 hRm ⟨⟨rfl, rfl⟩, le_ rfl, le_ rfl⟩ rfl rfl rfl (le_ rfl) (dq dk_Mo_known 121 rfl) h (fun x12 σ11 h => ?_)
    exact ww_zret C hR (dq dk_Mo_known 122 rfl) h
  rw [if_neg e2_106] at h
  by_cases e3_129 : v1 = 129
  · rw [if_pos e3_129] at h
    refine ww_lookup (off := 200) C 375 (dq dk_Mo_known 101 rfl) (by decide) (by rw [e3_129] <;> rfl) (by decide) ?_
    exact ww_lv [0, 1] rfl (t_Mo_known_B375 C hR hRm hnL v0 v1 ho_v0 σ h)
  rw [if_neg e3_129] at h
  by_cases e4_131 : v1 = 131
  · rw [if_pos e4_131] at h
    refine ww_lookup (off := 200) C 375 (dq dk_Mo_known 101 rfl) (by decide) (by rw [e4_131] <;> rfl) (by decide) ?_
    exact ww_lv [0, 1] rfl (t_Mo_known_B375 C hR hRm hnL v0 v1 ho_v0 σ h)
  rw [if_neg e4_131] at h
  by_cases e5_133 : v1 = 133
  · rw [if_pos e5_133] at h
    refine ww_lookup (off := 238) C 413 (dq dk_Mo_known 101 rfl) (by decide) (by rw [e5_133] <;> rfl) (by decide) ?_
    refine ww_aload_n C 0 rfl rfl (dq dk_Mo_known 143 rfl) ?_
    refine ww_bipush C (dq dk_Mo_known 144 rfl) bp_9 ?_
    refine ww_cVi (st := []) C (c_Mo_left v0 ho_v0 9) cw_Mo_left ho_v0 (lt_ rfl) rfl g_7_41 hRm ⟨⟨rfl, rfl⟩, le_ rfl, le_ rfl⟩ rfl rfl rfl (le_ rfl) (dq dk_Mo_known 145 rfl) h (fun x14 σ13 h => ?_)
    exact ww_zret C hR (dq dk_Mo_known 146 rfl) h
  rw [if_neg e5_133] at h
  by_cases e6_137 : v1 = 137
  · rw [if_pos e6_137] at h
    refine ww_lookup (off := 245) C 420 (dq dk_Mo_known 101 rfl) (by decide) (by rw [e6_137] <;> rfl) (by decide) ?_
    refine ww_aload_n C 0 rfl rfl (dq dk_Mo_known 147 rfl) ?_
    refine ww_bipush C (dq dk_Mo_known 148 rfl) bp_8 ?_
    refine ww_cVi (st := []) C (c_Mo_left v0 ho_v0 8) cw_Mo_left ho_v0 (lt_ rfl) rfl g_7_41 hRm ⟨⟨rfl, rfl⟩, le_ rfl, le_ rfl⟩ rfl rfl rfl (le_ rfl) (dq dk_Mo_known 149 rfl) h (fun x16 σ15 h => ?_)
    exact ww_zret C hR (dq dk_Mo_known 150 rfl) h
  rw [if_neg e6_137] at h
  by_cases e7_139 : v1 = 139
  · rw [if_pos e7_139] at h
    refine ww_lookup (off := 252) C 427 (dq dk_Mo_known 101 rfl) (by decide) (by rw [e7_139] <;> rfl) (by decide) ?_
    refine ww_aload_n C 0 rfl rfl (dq dk_Mo_known 151 rfl) ?_
    refine ww_bipush C (dq dk_Mo_known 152 rfl) bp_8 ?_
    refine ww_cVi (st := []) C (c_Mo_right v0 ho_v0 8) cw_Mo_right ho_v0 (lt_ rfl) rfl g_7_61 hRm ⟨⟨rfl, rfl⟩, le_ rfl, le_ rfl⟩ rfl rfl rfl (le_ rfl) (dq dk_Mo_known 153 rfl) h (fun x18 σ17 h => ?_)
    exact ww_zret C hR (dq dk_Mo_known 154 rfl) h
  rw [if_neg e7_139] at h
  by_cases e8_141 : v1 = 141
  · rw [if_pos e8_141] at h
    refine ww_lookup (off := 259) C 434 (dq dk_Mo_known 101 rfl) (by decide) (by rw [e8_141] <;> rfl) (by decide) ?_
    refine ww_aload_n C 0 rfl rfl (dq dk_Mo_known 155 rfl) ?_
    refine ww_bipush C (dq dk_Mo_known 156 rfl) bp_10 ?_
    refine ww_cVi (st := []) C (c_Mo_right v0 ho_v0 10) cw_Mo_right ho_v0 (lt_ rfl) rfl g_7_61 hRm ⟨⟨rfl, rfl⟩, le_ rfl, le_ rfl⟩ rfl rfl rfl (le_ rfl) (dq dk_Mo_known 157 rfl) h (fun x20 σ19 h => ?_)
    refine ww_if_eq C 454 (dq dk_Mo_known 158 rfl) (by decide) h (fun h => ?_) (fun h => ?_)
    · refine ww_iconst C (dq dk_Mo_known 164 rfl) ic_0 ?_
      exact ww_zretL C hR (dq dk_Mo_known 165 rfl) (Or.inl rfl) h
    · refine ww_aload_n C 0 rfl rfl (dq dk_Mo_known 159 rfl) ?_
      refine ww_geti C ko_Mo 53 ho_v0 (lt_ rfl) g_6_103 rfl rfl (dq dk_Mo_known 160 rfl) ?_
      refine ww_if_eq C 454 (dq dk_Mo_known 161 rfl) (by decide) h (fun h => ?_) (fun h => ?_)
      · refine ww_iconst C (dq dk_Mo_known 164 rfl) ic_0 ?_
        exact ww_zretL C hR (dq dk_Mo_known 165 rfl) (Or.inl rfl) h
      · refine ww_iconst C (dq dk_Mo_known 162 rfl) ic_1 ?_
        refine ww_goto C 455 (dq dk_Mo_known 163 rfl) (by decide) ?_
        exact ww_zretL C hR (dq dk_Mo_known 165 rfl) (Or.inr rfl) h
  rw [if_neg e8_141] at h
  by_cases e9_144 : v1 = 144
  · rw [if_pos e9_144] at h
    refine ww_lookup (off := 281) C 456 (dq dk_Mo_known 101 rfl) (by decide) (by rw [e9_144] <;> rfl) (by decide) ?_
    refine ww_aload_n C 0 rfl rfl (dq dk_Mo_known 166 rfl) ?_
    refine ww_bipush C (dq dk_Mo_known 167 rfl) bp_21 ?_
    refine ww_iconst C (dq dk_Mo_known 168 rfl) ic_0 ?_
    refine ww_cVi (st := []) C (c_Mo_is v0 ho_v0 21 0) cw_Mo_is ho_v0 (lt_ rfl) rfl g_7_57 hRm ⟨⟨rfl, rfl⟩, le_ rfl, le_ rfl⟩ rfl rfl rfl (le_ rfl) (dq dk_Mo_known 169 rfl) h (fun x22 σ21 h => ?_)
    exact ww_zret C hR (dq dk_Mo_known 170 rfl) h
  rw [if_neg e9_144] at h
  by_cases e10_193 : v1 = 193
  · rw [if_pos e10_193] at h
    refine ww_lookup (off := 289) C 464 (dq dk_Mo_known 101 rfl) (by decide) (by rw [e10_193] <;> rfl) (by decide) ?_
    refine ww_aload_n C 0 rfl rfl (dq dk_Mo_known 171 rfl) ?_
    refine ww_cVv (st := []) C (c_Mo_told v0 ho_v0) cw_Mo_told ho_v0 (lt_ rfl) rfl g_7_45 hRm ⟨⟨rfl, rfl⟩, le_ rfl, le_ rfl⟩ rfl rfl rfl (le_ rfl) (dq dk_Mo_known 172 rfl) h (fun σ23 h => ?_)
    refine ww_aload_n C 0 rfl rfl (dq dk_Mo_known 173 rfl) ?_
    refine ww_aload_n C 0 rfl rfl (dq dk_Mo_known 174 rfl) ?_
    refine ww_geti C ko_Mo 52 ho_v0 (lt_ rfl) g_6_102 rfl rfl (dq dk_Mo_known 175 rfl) ?_
    refine ww_iconst C (dq dk_Mo_known 176 rfl) ic_4 ?_
    refine ww_icmp_ne C 482 (dq dk_Mo_known 177 rfl) (by decide) h (fun h => ?_) (fun h => ?_)
    · refine ww_aload_n C 0 rfl rfl (dq dk_Mo_known 180 rfl) ?_
      refine ww_geti C ko_Mo 52 ho_v0 (lt_ rfl) g_6_102 rfl rfl (dq dk_Mo_known 181 rfl) ?_
      refine ww_iconst C (dq dk_Mo_known 182 rfl) ic_5 ?_
      refine ww_icmp_ne C 495 (dq dk_Mo_known 183 rfl) (by decide) h (fun h => ?_) (fun h => ?_)
      · refine ww_bipush C (dq dk_Mo_known 186 rfl) bp_16 ?_
        exact ww_lv [0] rfl (t_Mo_known_B497 C hR hRm hnL v0 v0 16 ho_v0 ho_v0 σ23 h)
      · refine ww_bipush C (dq dk_Mo_known 184 rfl) bp_15 ?_
        refine ww_goto C 497 (dq dk_Mo_known 185 rfl) (by decide) ?_
        exact ww_lv [0] rfl (t_Mo_known_B497 C hR hRm hnL v0 v0 15 ho_v0 ho_v0 σ23 h)
    · refine ww_bipush C (dq dk_Mo_known 178 rfl) bp_14 ?_
      refine ww_goto C 497 (dq dk_Mo_known 179 rfl) (by decide) ?_
      exact ww_lv [0] rfl (t_Mo_known_B497 C hR hRm hnL v0 v0 14 ho_v0 ho_v0 σ23 h)
  rw [if_neg e10_193] at h
  by_cases e11_195 : v1 = 195
  · rw [if_pos e11_195] at h
    refine ww_lookup (off := 370) C 545 (dq dk_Mo_known 101 rfl) (by decide) (by rw [e11_195] <;> rfl) (by decide) ?_
    refine ww_aload_n C 0 rfl rfl (dq dk_Mo_known 212 rfl) ?_
    refine ww_bipush C (dq dk_Mo_known 213 rfl) bp_23 ?_
    refine ww_iconst C (dq dk_Mo_known 214 rfl) ic_0 ?_
    refine ww_cVi (st := []) C (c_Mo_is v0 ho_v0 23 0) cw_Mo_is ho_v0 (lt_ rfl) rfl g_7_57 hRm ⟨⟨rfl, rfl⟩, le_ rfl, le_ rfl⟩ rfl rfl rfl (le_ rfl) (dq dk_Mo_known 215 rfl) h (fun x25 σ24 h => ?_)
    exact ww_zret C hR (dq dk_Mo_known 216 rfl) h
  rw [if_neg e11_195] at h
  by_cases e12_199 : v1 = 199
  · rw [if_pos e12_199] at h
    refine ww_lookup (off := 378) C 553 (dq dk_Mo_known 101 rfl) (by decide) (by rw [e12_199] <;> rfl) (by decide) ?_
    refine ww_aload_n C 0 rfl rfl (dq dk_Mo_known 217 rfl) ?_
    refine ww_cVv (st := []) C (c_Mo_told v0 ho_v0) cw_Mo_told ho_v0 (lt_ rfl) rfl g_7_45 hRm ⟨⟨rfl, rfl⟩, le_ rfl, le_ rfl⟩ rfl rfl rfl (le_ rfl) (dq dk_Mo_known 218 rfl) h (fun σ26 h => ?_)
    refine ww_aload_n C 0 rfl rfl (dq dk_Mo_known 219 rfl) ?_
    refine ww_bipush C (dq dk_Mo_known 220 rfl) bp_8 ?_
    refine ww_iconst C (dq dk_Mo_known 221 rfl) ic_1 ?_
    refine ww_cVi (st := []) C (c_Mo_alone v0 ho_v0 8 1) cw_Mo_alone ho_v0 (lt_ rfl) rfl g_7_69 hRm ⟨⟨rfl, rfl⟩, le_ rfl, le_ rfl⟩ rfl rfl rfl (le_ rfl) (dq dk_Mo_known 222 rfl) h (fun x28 σ27 h => ?_)
    refine ww_pop C rfl (dq dk_Mo_known 223 rfl) ?_
    refine ww_aload_n C 0 rfl rfl (dq dk_Mo_known 224 rfl) ?_
    refine ww_aload_n C 0 rfl rfl (dq dk_Mo_known 225 rfl) ?_
    refine ww_cVi (st := [.ref (ad k v0)]) C (c_Mo_four v0 ho_v0) cw_Mo_four ho_v0 (lt_ rfl) rfl g_7_53 hRm ⟨⟨rfl, rfl⟩, le_ rfl, le_ rfl⟩ rfl rfl rfl (le_ rfl) (dq dk_Mo_known 226 rfl) h (fun x30 σ29 h => ?_)
    refine ww_puti C ko_Mo 51 ho_v0 (lt_ rfl) g_6_101 rfl rfl rfl rfl (dq dk_Mo_known 227 rfl) h (fun σ31 h => ?_)
    refine ww_aload_n C 0 rfl rfl (dq dk_Mo_known 228 rfl) ?_
    refine ww_geti C ko_Mo 52 ho_v0 (lt_ rfl) g_6_102 rfl rfl (dq dk_Mo_known 229 rfl) ?_
    refine ww_if_ne C 584 (dq dk_Mo_known 230 rfl) (by decide) h (fun h => ?_) (fun h => ?_)
    · refine ww_iconst C (dq dk_Mo_known 233 rfl) ic_0 ?_
      exact ww_zretL C hR (dq dk_Mo_known 234 rfl) (Or.inl rfl) h
    · refine ww_iconst C (dq dk_Mo_known 231 rfl) ic_1 ?_
      refine ww_goto C 585 (dq dk_Mo_known 232 rfl) (by decide) ?_
      exact ww_zretL C hR (dq dk_Mo_known 234 rfl) (Or.inr rfl) h
  rw [if_neg e12_199] at h
  by_cases e13_232 : v1 = 232
  · rw [if_pos e13_232] at h
    refine ww_lookup (off := 411) C 586 (dq dk_Mo_known 101 rfl) (by decide) (by rw [e13_232] <;> rfl) (by decide) ?_
    refine ww_aload_n C 0 rfl rfl (dq dk_Mo_known 235 rfl) ?_
    refine ww_aload_n C 0 rfl rfl (dq dk_Mo_known 236 rfl) ?_
    refine ww_cVi (st := [.ref (ad k v0)]) C (c_Mo_four v0 ho_v0) cw_Mo_four ho_v0 (lt_ rfl) rfl g_7_53 hRm ⟨⟨rfl, rfl⟩, le_ rfl, le_ rfl⟩ rfl rfl rfl (le_ rfl) (dq dk_Mo_known 237 rfl) h (fun x33 σ32 h => ?_)
    refine ww_puti C ko_Mo 51 ho_v0 (lt_ rfl) g_6_101 rfl rfl rfl rfl (dq dk_Mo_known 238 rfl) h (fun σ34 h => ?_)
    refine ww_aload_n C 0 rfl rfl (dq dk_Mo_known 239 rfl) ?_
    refine ww_bipush C (dq dk_Mo_known 240 rfl) bp_26 ?_
    refine ww_bipush C (dq dk_Mo_known 241 rfl) bp_8 ?_
    refine ww_cVi (st := []) C (c_Mo_is v0 ho_v0 26 8) cw_Mo_is ho_v0 (lt_ rfl) rfl g_7_57 hRm ⟨⟨rfl, rfl⟩, le_ rfl, le_ rfl⟩ rfl rfl rfl (le_ rfl) (dq dk_Mo_known 242 rfl) h (fun x36 σ35 h => ?_)
    exact ww_zret C hR (dq dk_Mo_known 243 rfl) h
  rw [if_neg e13_232] at h
  by_cases e14_233 : v1 = 233
  · rw [if_pos e14_233] at h
    refine ww_lookup (off := 428) C 603 (dq dk_Mo_known 101 rfl) (by decide) (by rw [e14_233] <;> rfl) (by decide) ?_
    refine ww_aload_n C 0 rfl rfl (dq dk_Mo_known 244 rfl) ?_
    refine ww_aload_n C 0 rfl rfl (dq dk_Mo_known 245 rfl) ?_
    refine ww_cVi (st := [.ref (ad k v0)]) C (c_Mo_four v0 ho_v0) cw_Mo_four ho_v0 (lt_ rfl) rfl g_7_53 hRm ⟨⟨rfl, rfl⟩, le_ rfl, le_ rfl⟩ rfl rfl rfl (le_ rfl) (dq dk_Mo_known 246 rfl) h (fun x38 σ37 h => ?_)
    refine ww_puti C ko_Mo 51 ho_v0 (lt_ rfl) g_6_101 rfl rfl rfl rfl (dq dk_Mo_known 247 rfl) h (fun σ39 h => ?_)
    refine ww_aload_n C 0 rfl rfl (dq dk_Mo_known 248 rfl) ?_
    refine ww_bipush C (dq dk_Mo_known 249 rfl) bp_24 ?_
    refine ww_bipush C (dq dk_Mo_known 250 rfl) bp_8 ?_
    refine ww_cVi (st := []) C (c_Mo_is v0 ho_v0 24 8) cw_Mo_is ho_v0 (lt_ rfl) rfl g_7_57 hRm ⟨⟨rfl, rfl⟩, le_ rfl, le_ rfl⟩ rfl rfl rfl (le_ rfl) (dq dk_Mo_known 251 rfl) h (fun x41 σ40 h => ?_)
    exact ww_zret C hR (dq dk_Mo_known 252 rfl) h
  rw [if_neg e14_233] at h
  by_cases e15_235 : v1 = 235
  · rw [if_pos e15_235] at h
    refine ww_lookup (off := 445) C 620 (dq dk_Mo_known 101 rfl) (by decide) (by rw [e15_235] <;> rfl) (by decide) ?_
    refine ww_aload_n C 0 rfl rfl (dq dk_Mo_known 253 rfl) ?_
    refine ww_aload_n C 0 rfl rfl (dq dk_Mo_known 254 rfl) ?_
    refine ww_cVi (st := [.ref (ad k v0)]) C (c_Mo_small v0 ho_v0) cw_Mo_small ho_v0 (lt_ rfl) rfl g_7_49 hRm ⟨⟨rfl, rfl⟩, le_ rfl, le_ rfl⟩ rfl rfl rfl (le_ rfl) (dq dk_Mo_known 255 rfl) h (fun x43 σ42 h => ?_)
    refine ww_puti C ko_Mo 51 ho_v0 (lt_ rfl) g_6_101 rfl rfl rfl rfl (dq dk_Mo_known 256 rfl) h (fun σ44 h => ?_)
    refine ww_aload_n C 0 rfl rfl (dq dk_Mo_known 257 rfl) ?_
    refine ww_bipush C (dq dk_Mo_known 258 rfl) bp_24 ?_
    refine ww_bipush C (dq dk_Mo_known 259 rfl) bp_8 ?_
    refine ww_cVi (st := []) C (c_Mo_is v0 ho_v0 24 8) cw_Mo_is ho_v0 (lt_ rfl) rfl g_7_57 hRm ⟨⟨rfl, rfl⟩, le_ rfl, le_ rfl⟩ rfl rfl rfl (le_ rfl) (dq dk_Mo_known 260 rfl) h (fun x46 σ45 h => ?_)
    exact ww_zret C hR (dq dk_Mo_known 261 rfl) h
  rw [if_neg e15_235] at h
  by_cases e16_244 : v1 = 244
  · rw [if_pos e16_244] at h
    refine ww_lookup (off := 462) C 637 (dq dk_Mo_known 101 rfl) (by decide) (by rw [e16_244] <;> rfl) (by decide) ?_
    refine ww_aload_n C 0 rfl rfl (dq dk_Mo_known 262 rfl) ?_
    refine ww_bipush C (dq dk_Mo_known 263 rfl) bp_22 ?_
    refine ww_iconst C (dq dk_Mo_known 264 rfl) ic_0 ?_
    refine ww_cVi (st := []) C (c_Mo_is v0 ho_v0 22 0) cw_Mo_is ho_v0 (lt_ rfl) rfl g_7_57 hRm ⟨⟨rfl, rfl⟩, le_ rfl, le_ rfl⟩ rfl rfl rfl (le_ rfl) (dq dk_Mo_known 265 rfl) h (fun x48 σ47 h => ?_)
    exact ww_zret C hR (dq dk_Mo_known 266 rfl) h
  rw [if_neg e16_244] at h
  by_cases e17_247 : v1 = 247
  · rw [if_pos e17_247] at h
    refine ww_lookup (off := 470) C 645 (dq dk_Mo_known 101 rfl) (by decide) (by rw [e17_247] <;> rfl) (by decide) ?_
    refine ww_aload_n C 0 rfl rfl (dq dk_Mo_known 267 rfl) ?_
    refine ww_cVv (st := []) C (c_Mo_told v0 ho_v0) cw_Mo_told ho_v0 (lt_ rfl) rfl g_7_45 hRm ⟨⟨rfl, rfl⟩, le_ rfl, le_ rfl⟩ rfl rfl rfl (le_ rfl) (dq dk_Mo_known 268 rfl) h (fun σ49 h => ?_)
    refine ww_aload_n C 0 rfl rfl (dq dk_Mo_known 269 rfl) ?_
    refine ww_aload_n C 0 rfl rfl (dq dk_Mo_known 270 rfl) ?_
    refine ww_geti C ko_Mo 52 ho_v0 (lt_ rfl) g_6_102 rfl rfl (dq dk_Mo_known 271 rfl) ?_
    refine ww_iconst C (dq dk_Mo_known 272 rfl) ic_2 ?_
    refine ww_icmp_ne C 663 (dq dk_Mo_known 273 rfl) (by decide) h (fun h => ?_) (fun h => ?_)
    · refine ww_bipush C (dq dk_Mo_known 276 rfl) bp_13 ?_
      exact ww_lv [0] rfl (t_Mo_known_B665 C hR hRm hnL v0 v0 13 ho_v0 ho_v0 σ49 h)
    · refine ww_bipush C (dq dk_Mo_known 274 rfl) bp_12 ?_
      refine ww_goto C 665 (dq dk_Mo_known 275 rfl) (by decide) ?_
      exact ww_lv [0] rfl (t_Mo_known_B665 C hR hRm hnL v0 v0 12 ho_v0 ho_v0 σ49 h)
  rw [if_neg e17_247] at h
  by_cases e18_255 : v1 = 255
  · rw [if_pos e18_255] at h
    refine ww_lookup (off := 517) C 692 (dq dk_Mo_known 101 rfl) (by decide) (by rw [e18_255] <;> rfl) (by decide) ?_
    refine ww_aload_n C 0 rfl rfl (dq dk_Mo_known 292 rfl) ?_
    refine ww_cVv (st := []) C (c_Mo_told v0 ho_v0) cw_Mo_told ho_v0 (lt_ rfl) rfl g_7_45 hRm ⟨⟨rfl, rfl⟩, le_ rfl, le_ rfl⟩ rfl rfl rfl (le_ rfl) (dq dk_Mo_known 293 rfl) h (fun σ50 h => ?_)
    refine ww_aload_n C 0 rfl rfl (dq dk_Mo_known 294 rfl) ?_
    refine ww_aload_n C 0 rfl rfl (dq dk_Mo_known 295 rfl) ?_
    refine ww_geti C ko_Mo 52 ho_v0 (lt_ rfl) g_6_102 rfl rfl (dq dk_Mo_known 296 rfl) ?_
    refine ww_iconst C (dq dk_Mo_known 297 rfl) ic_4 ?_
    refine ww_icmp_ne C 710 (dq dk_Mo_known 298 rfl) (by decide) h (fun h => ?_) (fun h => ?_)
    · refine ww_bipush C (dq dk_Mo_known 301 rfl) bp_28 ?_
      exact ww_lv [0] rfl (t_Mo_known_B712 C hR hRm hnL v0 v0 28 ho_v0 ho_v0 σ50 h)
    · refine ww_bipush C (dq dk_Mo_known 299 rfl) bp_27 ?_
      refine ww_goto C 712 (dq dk_Mo_known 300 rfl) (by decide) ?_
      exact ww_lv [0] rfl (t_Mo_known_B712 C hR hRm hnL v0 v0 27 ho_v0 ho_v0 σ50 h)
  rw [if_neg e18_255] at h
  have ne0_15 := lv_neT (a := 15) e0_15 (by decide)
  have ne1_104 := lv_neT (a := 104) e1_104 (by decide)
  have ne2_106 := lv_neT (a := 106) e2_106 (by decide)
  have ne3_129 := lv_neT (a := 129) e3_129 (by decide)
  have ne4_131 := lv_neT (a := 131) e4_131 (by decide)
  have ne5_133 := lv_neT (a := 133) e5_133 (by decide)
  have ne6_137 := lv_neT (a := 137) e6_137 (by decide)
  have ne7_139 := lv_neT (a := 139) e7_139 (by decide)
  have ne8_141 := lv_neT (a := 141) e8_141 (by decide)
  have ne9_144 := lv_neT (a := 144) e9_144 (by decide)
  have ne10_193 := lv_neT (a := 193) e10_193 (by decide)
  have ne11_195 := lv_neT (a := 195) e11_195 (by decide)
  have ne12_199 := lv_neT (a := 199) e12_199 (by decide)
  have ne13_232 := lv_neT (a := 232) e13_232 (by decide)
  have ne14_233 := lv_neT (a := 233) e14_233 (by decide)
  have ne15_235 := lv_neT (a := 235) e15_235 (by decide)
  have ne16_244 := lv_neT (a := 244) e16_244 (by decide)
  have ne17_247 := lv_neT (a := 247) e17_247 (by decide)
  have ne18_255 := lv_neT (a := 255) e18_255 (by decide)
  refine ww_lookup (off := 571) C 746 (dq dk_Mo_known 101 rfl) (by decide) (by show Op.lookupswitch.offset [(15, 161), (104, 166), (106, 183), (129, 200), (131, 200), (133, 238), (137, 245), (139, 252), (141, 259), (144, 281), (193, 289), (195, 370), (199, 378), (232, 411), (233, 428), (235, 445), (244, 462), (247, 470), (255, 517)] _ _ = _; rw [lv_osw (a := 15) e0_15 (by decide), lv_osw (a := 104) e1_104 (by decide), lv_osw (a := 106) e2_106 (by decide), lv_osw (a := 129) e3_129 (by decide), lv_osw (a := 131) e4_131 (by decide), lv_osw (a := 133) e5_133 (by decide), lv_osw (a := 137) e6_137 (by decide), lv_osw (a := 139) e7_139 (by decide), lv_osw (a := 141) e8_141 (by decide), lv_osw (a := 144) e9_144 (by decide), lv_osw (a := 193) e10_193 (by decide), lv_osw (a := 195) e11_195 (by decide), lv_osw (a := 199) e12_199 (by decide), lv_osw (a := 232) e13_232 (by decide), lv_osw (a := 233) e14_233 (by decide), lv_osw (a := 235) e15_235 (by decide), lv_osw (a := 244) e16_244 (by decide), lv_osw (a := 247) e17_247 (by decide), lv_osw (a := 255) e18_255 (by decide)] <;> rfl) (by decide) ?_
  refine ww_iconst C (dq dk_Mo_known 320 rfl) ic_0 ?_
  exact ww_zretL C hR (dq dk_Mo_known 321 rfl) (Or.inl rfl) h
set_option maxHeartbeats 4000000 in
set_option maxRecDepth 100000 in
theorem t_Mo_known_B135 {k : Cfg} {res : Int32 × St} (C : Cx k prog_14_method_16_code "BundleHouseModel") (hR : RI k .boolean res) (hRm : k.2.2.2.1 = rm_Mo_known) (hnL : k.2.2.2.2.2.2.2.2.2.2.2.1 = 2) (v0 : Nat) (v1 : Int32) (ho_v0 : kd v0 = 12) (σ : St) (h : Mo_known_B135 v0 v1 σ = some res) : WW k 135 [(0, .ref (ad k v0)), (1, .int v1)] [] σ := by
  unfold Mo_known_B135 at h
  refine ww_iload_n C 1 rfl rfl (dq dk_Mo_known 80 rfl) ?_
  refine ww_sipush C (dq dk_Mo_known 81 rfl) sp_184 ?_
  refine ww_icmp_lt C 174 (dq dk_Mo_known 82 rfl) (by decide) h (fun h => ?_) (fun h => ?_)
  · exact ww_lv [0, 1] rfl (t_Mo_known_B174 C hR hRm hnL v0 v1 ho_v0 σ h)
  · refine ww_iload_n C 1 rfl rfl (dq dk_Mo_known 83 rfl) ?_
    refine ww_sipush C (dq dk_Mo_known 84 rfl) sp_192 ?_
    refine ww_icmp_ge C 174 (dq dk_Mo_known 85 rfl) (by decide) h (fun h => ?_) (fun h => ?_)
    · exact ww_lv [0, 1] rfl (t_Mo_known_B174 C hR hRm hnL v0 v1 ho_v0 σ h)
    · refine ww_aload_n C 0 rfl rfl (dq dk_Mo_known 86 rfl) ?_
      refine ww_iload_n C 1 rfl rfl (dq dk_Mo_known 87 rfl) ?_
      refine ww_sipush C (dq dk_Mo_known 88 rfl) sp_184 ?_
      refine ww_isub C (dq dk_Mo_known 89 rfl) ?_
      refine ww_puti C ko_Mo 48 ho_v0 (lt_ rfl) g_6_98 rfl rfl rfl rfl (dq dk_Mo_known 90 rfl) h (fun σ1 h => ?_)
      refine ww_aload_n C 0 rfl rfl (dq dk_Mo_known 91 rfl) ?_
      refine ww_aload_n C 0 rfl rfl (dq dk_Mo_known 92 rfl) ?_
      refine ww_cVi (st := [.ref (ad k v0)]) C (c_Mo_four v0 ho_v0) cw_Mo_four ho_v0 (lt_ rfl) rfl g_7_53 hRm ⟨⟨rfl, rfl⟩, le_ rfl, le_ rfl⟩ rfl rfl rfl (le_ rfl) (dq dk_Mo_known 93 rfl) h (fun x3 σ2 h => ?_)
      refine ww_puti C ko_Mo 51 ho_v0 (lt_ rfl) g_6_101 rfl rfl rfl rfl (dq dk_Mo_known 94 rfl) h (fun σ4 h => ?_)
      refine ww_aload_n C 0 rfl rfl (dq dk_Mo_known 95 rfl) ?_
      refine ww_bipush C (dq dk_Mo_known 96 rfl) bp_8 ?_
      refine ww_iconst C (dq dk_Mo_known 97 rfl) ic_5 ?_
      refine ww_cVi (st := []) C (c_Mo_is v0 ho_v0 8 5) cw_Mo_is ho_v0 (lt_ rfl) rfl g_7_57 hRm ⟨⟨rfl, rfl⟩, le_ rfl, le_ rfl⟩ rfl rfl rfl (le_ rfl) (dq dk_Mo_known 98 rfl) h (fun x6 σ5 h => ?_)
      exact ww_zret C hR (dq dk_Mo_known 99 rfl) h
set_option maxHeartbeats 4000000 in
set_option maxRecDepth 100000 in
theorem t_Mo_known_B85 {k : Cfg} {res : Int32 × St} (C : Cx k prog_14_method_16_code "BundleHouseModel") (hR : RI k .boolean res) (hRm : k.2.2.2.1 = rm_Mo_known) (hnL : k.2.2.2.2.2.2.2.2.2.2.2.1 = 2) (v0 : Nat) (v1 : Int32) (ho_v0 : kd v0 = 12) (σ : St) (h : Mo_known_B85 v0 v1 σ = some res) : WW k 85 [(0, .ref (ad k v0)), (1, .int v1)] [] σ := by
  unfold Mo_known_B85 at h
  refine ww_iload_n C 1 rfl rfl (dq dk_Mo_known 54 rfl) ?_
  refine ww_bipush C (dq dk_Mo_known 55 rfl) bp_112 ?_
  refine ww_icmp_lt C 135 (dq dk_Mo_known 56 rfl) (by decide) h (fun h => ?_) (fun h => ?_)
  · exact ww_lv [0, 1] rfl (t_Mo_known_B135 C hR hRm hnL v0 v1 ho_v0 σ h)
  · refine ww_iload_n C 1 rfl rfl (dq dk_Mo_known 57 rfl) ?_
    refine ww_sipush C (dq dk_Mo_known 58 rfl) sp_128 ?_
    refine ww_icmp_ge C 135 (dq dk_Mo_known 59 rfl) (by decide) h (fun h => ?_) (fun h => ?_)
    · exact ww_lv [0, 1] rfl (t_Mo_known_B135 C hR hRm hnL v0 v1 ho_v0 σ h)
    · refine ww_iload_n C 1 rfl rfl (dq dk_Mo_known 60 rfl) ?_
      refine ww_bipush C (dq dk_Mo_known 61 rfl) bp_122 ?_
      refine ww_icmp_eq C 135 (dq dk_Mo_known 62 rfl) (by decide) h (fun h => ?_) (fun h => ?_)
      · exact ww_lv [0, 1] rfl (t_Mo_known_B135 C hR hRm hnL v0 v1 ho_v0 σ h)
      · refine ww_iload_n C 1 rfl rfl (dq dk_Mo_known 63 rfl) ?_
        refine ww_bipush C (dq dk_Mo_known 64 rfl) bp_123 ?_
        refine ww_icmp_eq C 135 (dq dk_Mo_known 65 rfl) (by decide) h (fun h => ?_) (fun h => ?_)
        · exact ww_lv [0, 1] rfl (t_Mo_known_B135 C hR hRm hnL v0 v1 ho_v0 σ h)
        · refine ww_aload_n C 0 rfl rfl (dq dk_Mo_known 66 rfl) ?_
          refine ww_iload_n C 1 rfl rfl (dq dk_Mo_known 67 rfl) ?_
          refine ww_bipush C (dq dk_Mo_known 68 rfl) bp_112 ?_
          refine ww_isub C (dq dk_Mo_known 69 rfl) ?_
          refine ww_puti C ko_Mo 48 ho_v0 (lt_ rfl) g_6_98 rfl rfl rfl rfl (dq dk_Mo_known 70 rfl) h (fun σ1 h => ?_)
          refine ww_aload_n C 0 rfl rfl (dq dk_Mo_known 71 rfl) ?_
          refine ww_aload_n C 0 rfl rfl (dq dk_Mo_known 72 rfl) ?_
          refine ww_cVi (st := [.ref (ad k v0)]) C (c_Mo_small v0 ho_v0) cw_Mo_small ho_v0 (lt_ rfl) rfl g_7_49 hRm ⟨⟨rfl, rfl⟩, le_ rfl, le_ rfl⟩ rfl rfl rfl (le_ rfl) (dq dk_Mo_known 73 rfl) h (fun x3 σ2 h => ?_)
          refine ww_puti C ko_Mo 51 ho_v0 (lt_ rfl) g_6_101 rfl rfl rfl rfl (dq dk_Mo_known 74 rfl) h (fun σ4 h => ?_)
          refine ww_aload_n C 0 rfl rfl (dq dk_Mo_known 75 rfl) ?_
          refine ww_bipush C (dq dk_Mo_known 76 rfl) bp_25 ?_
          refine ww_bipush C (dq dk_Mo_known 77 rfl) bp_8 ?_
          refine ww_cVi (st := []) C (c_Mo_is v0 ho_v0 25 8) cw_Mo_is ho_v0 (lt_ rfl) rfl g_7_57 hRm ⟨⟨rfl, rfl⟩, le_ rfl, le_ rfl⟩ rfl rfl rfl (le_ rfl) (dq dk_Mo_known 78 rfl) h (fun x6 σ5 h => ?_)
          exact ww_zret C hR (dq dk_Mo_known 79 rfl) h
set_option maxHeartbeats 4000000 in
set_option maxRecDepth 100000 in
theorem t_Mo_known_B50 {k : Cfg} {res : Int32 × St} (C : Cx k prog_14_method_16_code "BundleHouseModel") (hR : RI k .boolean res) (hRm : k.2.2.2.1 = rm_Mo_known) (hnL : k.2.2.2.2.2.2.2.2.2.2.2.1 = 2) (v0 : Nat) (v1 : Int32) (ho_v0 : kd v0 = 12) (σ : St) (h : Mo_known_B50 v0 v1 σ = some res) : WW k 50 [(0, .ref (ad k v0)), (1, .int v1)] [] σ := by
  unfold Mo_known_B50 at h
  refine ww_iload_n C 1 rfl rfl (dq dk_Mo_known 32 rfl) ?_
  refine ww_bipush C (dq dk_Mo_known 33 rfl) bp_64 ?_
  refine ww_icmp_lt C 85 (dq dk_Mo_known 34 rfl) (by decide) h (fun h => ?_) (fun h => ?_)
  · exact ww_lv [0, 1] rfl (t_Mo_known_B85 C hR hRm hnL v0 v1 ho_v0 σ h)
  · refine ww_iload_n C 1 rfl rfl (dq dk_Mo_known 35 rfl) ?_
    refine ww_bipush C (dq dk_Mo_known 36 rfl) bp_96 ?_
    refine ww_icmp_ge C 85 (dq dk_Mo_known 37 rfl) (by decide) h (fun h => ?_) (fun h => ?_)
    · exact ww_lv [0, 1] rfl (t_Mo_known_B85 C hR hRm hnL v0 v1 ho_v0 σ h)
    · refine ww_aload_n C 0 rfl rfl (dq dk_Mo_known 38 rfl) ?_
      refine ww_iload_n C 1 rfl rfl (dq dk_Mo_known 39 rfl) ?_
      refine ww_bipush C (dq dk_Mo_known 40 rfl) bp_7 ?_
      refine ww_iand C (dq dk_Mo_known 41 rfl) ?_
      refine ww_puti C ko_Mo 48 ho_v0 (lt_ rfl) g_6_98 rfl rfl rfl rfl (dq dk_Mo_known 42 rfl) h (fun σ1 h => ?_)
      refine ww_aload_n C 0 rfl rfl (dq dk_Mo_known 43 rfl) ?_
      refine ww_bipush C (dq dk_Mo_known 44 rfl) bp_17 ?_
      refine ww_iload_n C 1 rfl rfl (dq dk_Mo_known 45 rfl) ?_
      refine ww_bipush C (dq dk_Mo_known 46 rfl) bp_64 ?_
      refine ww_isub C (dq dk_Mo_known 47 rfl) ?_
      refine ww_iconst C (dq dk_Mo_known 48 rfl) ic_3 ?_
      refine ww_ishr C (dq dk_Mo_known 49 rfl) ?_
      refine ww_iadd C (dq dk_Mo_known 50 rfl) ?_
      refine ww_iconst C (dq dk_Mo_known 51 rfl) ic_1 ?_
      refine ww_cVi (st := []) C (c_Mo_is v0 ho_v0 (17 + (shr (v1 - 64) 3)) 1) cw_Mo_is ho_v0 (lt_ rfl) rfl g_7_57 hRm ⟨⟨rfl, rfl⟩, le_ rfl, le_ rfl⟩ rfl rfl rfl (le_ rfl) (dq dk_Mo_known 52 rfl) h (fun x3 σ2 h => ?_)
      exact ww_zret C hR (dq dk_Mo_known 53 rfl) h
set_option maxHeartbeats 4000000 in
set_option maxRecDepth 100000 in
theorem t_Mo_known_B28 {k : Cfg} {res : Int32 × St} (C : Cx k prog_14_method_16_code "BundleHouseModel") (hR : RI k .boolean res) (hRm : k.2.2.2.1 = rm_Mo_known) (hnL : k.2.2.2.2.2.2.2.2.2.2.2.1 = 2) (v0 : Nat) (v1 : Int32) (ho_v0 : kd v0 = 12) (σ : St) (h : Mo_known_B28 v0 v1 σ = some res) : WW k 28 [(0, .ref (ad k v0)), (1, .int v1)] [] σ := by
  unfold Mo_known_B28 at h
  refine ww_iload_n C 1 rfl rfl (dq dk_Mo_known 18 rfl) ?_
  refine ww_bipush C (dq dk_Mo_known 19 rfl) bp_64 ?_
  refine ww_icmp_ge C 50 (dq dk_Mo_known 20 rfl) (by decide) h (fun h => ?_) (fun h => ?_)
  · exact ww_lv [0, 1] rfl (t_Mo_known_B50 C hR hRm hnL v0 v1 ho_v0 σ h)
  · refine ww_iload_n C 1 rfl rfl (dq dk_Mo_known 21 rfl) ?_
    refine ww_bipush C (dq dk_Mo_known 22 rfl) bp_7 ?_
    refine ww_iand C (dq dk_Mo_known 23 rfl) ?_
    refine ww_iconst C (dq dk_Mo_known 24 rfl) ic_3 ?_
    refine ww_icmp_ne C 50 (dq dk_Mo_known 25 rfl) (by decide) h (fun h => ?_) (fun h => ?_)
    · exact ww_lv [0, 1] rfl (t_Mo_known_B50 C hR hRm hnL v0 v1 ho_v0 σ h)
    · refine ww_aload_n C 0 rfl rfl (dq dk_Mo_known 26 rfl) ?_
      refine ww_iload_n C 1 rfl rfl (dq dk_Mo_known 27 rfl) ?_
      refine ww_iconst C (dq dk_Mo_known 28 rfl) ic_3 ?_
      refine ww_ishr C (dq dk_Mo_known 29 rfl) ?_
      refine ww_cVi (st := []) C (c_Mo_right v0 ho_v0 (shr v1 3)) cw_Mo_right ho_v0 (lt_ rfl) rfl g_7_61 hRm ⟨⟨rfl, rfl⟩, le_ rfl, le_ rfl⟩ rfl rfl rfl (le_ rfl) (dq dk_Mo_known 30 rfl) h (fun x2 σ1 h => ?_)
      exact ww_zret C hR (dq dk_Mo_known 31 rfl) h
set_option maxHeartbeats 4000000 in
set_option maxRecDepth 100000 in
theorem c_Mo_known (v0 : Nat) (ho_v0 : kd v0 = 12) (v1 : Int32) : MI y_Mo_known rm_Mo_known prog_14_method_16_code 2 .boolean (fun a => [.ref (a v0), .int v1]) (Mo_known v0 v1) := by
  refine mi_of (by decide) (fun _ => le_ rfl) ?_
  intro k res σ C hR hRm hnL h
  unfold Mo_known at h
  show WW k 0 [(0, .ref (ad k v0)), (1, .int v1)] [] σ
  refine ww_iload_n C 1 rfl rfl (dq dk_Mo_known 0 rfl) ?_
  refine ww_if_ge C 6 (dq dk_Mo_known 1 rfl) (by decide) h (fun h => ?_) (fun h => ?_)
  · refine ww_iload_n C 1 rfl rfl (dq dk_Mo_known 4 rfl) ?_
    refine ww_bipush C (dq dk_Mo_known 5 rfl) bp_64 ?_
    refine ww_icmp_ge C 28 (dq dk_Mo_known 6 rfl) (by decide) h (fun h => ?_) (fun h => ?_)
    · exact ww_lv [0, 1] rfl (t_Mo_known_B28 C hR hRm hnL v0 v1 ho_v0 σ h)
    · refine ww_iload_n C 1 rfl rfl (dq dk_Mo_known 7 rfl) ?_
      refine ww_bipush C (dq dk_Mo_known 8 rfl) bp_7 ?_
      refine ww_iand C (dq dk_Mo_known 9 rfl) ?_
      refine ww_iconst C (dq dk_Mo_known 10 rfl) ic_1 ?_
      refine ww_icmp_ne C 28 (dq dk_Mo_known 11 rfl) (by decide) h (fun h => ?_) (fun h => ?_)
      · exact ww_lv [0, 1] rfl (t_Mo_known_B28 C hR hRm hnL v0 v1 ho_v0 σ h)
      · refine ww_aload_n C 0 rfl rfl (dq dk_Mo_known 12 rfl) ?_
        refine ww_iload_n C 1 rfl rfl (dq dk_Mo_known 13 rfl) ?_
        refine ww_iconst C (dq dk_Mo_known 14 rfl) ic_3 ?_
        refine ww_ishr C (dq dk_Mo_known 15 rfl) ?_
        refine ww_cVi (st := []) C (c_Mo_left v0 ho_v0 (shr v1 3)) cw_Mo_left ho_v0 (lt_ rfl) rfl g_7_41 hRm ⟨⟨rfl, rfl⟩, le_ rfl, le_ rfl⟩ rfl rfl rfl (le_ rfl) (dq dk_Mo_known 16 rfl) h (fun x2 σ1 h => ?_)
        exact ww_zret C hR (dq dk_Mo_known 17 rfl) h
  · refine ww_iconst C (dq dk_Mo_known 2 rfl) ic_0 ?_
    exact ww_zretL C hR (dq dk_Mo_known 3 rfl) (Or.inl rfl) h
abbrev y_Mo_decode : MethodName := ⟨"BundleHouseModel", "decode", "([III)I"⟩
def dl_Mo_decode : List (Nat × Instr × Nat) := [(0, .aload_n 0, 1), (1, .aload_n 1, 1), (2, .putfield 99, 3), (5, .aload_n 0, 1), (6, .iload_n 2, 1), (7, .putfield 118, 3), (10, .aload_n 0, 1), (11, .iload_n 3, 1), (12, .putfield 115, 3), (15, .aload_n 0, 1), (16, .iconst 0, 1), (17, .putfield 153, 3), (20, .aload_n 0, 1), (21, .iconst 0, 1), (22, .putfield 132, 3), (25, .aload_n 0, 1), (26, .iconst 0, 1), (27, .putfield 141, 3), (30, .aload_n 0, 1), (31, .iconst 0, 1), (32, .putfield 160, 3), (35, .aload_n 0, 1), (36, .aload_n 0, 1), (37, .invokevirtual 121, 3), (40, .invokevirtual 163, 3), (43, .istore 4, 2), (45, .iload 4, 2), (47, .ifCond .eq 23, 3), (50, .aload_n 0, 1), (51, .getfield 115, 3), (54, .aload_n 0, 1), (55, .getfield 118, 3), (58, .if_icmp .gt 12, 3), (61, .aload_n 0, 1), (62, .getfield 115, 3), (65, .iload_n 3, 1), (66, .isub, 1), (67, .goto 4, 3), (70, .iconst 0, 1), (71, .ireturn, 1)]
set_option maxRecDepth 100000 in
theorem dk_Mo_decode : ∀ q ∈ dl_Mo_decode, decode prog_14_method_15_code q.1 = .ok q.2 := by decide +kernel
abbrev rm_Mo_decode : Room := { frames := 6, cells := 0, slots := 0, locals := 133 }
theorem cw_Mo_decode : CWV y_Mo_decode prog_14_method_15_code 5 (some .int) 3 := ⟨⟨g_7_32, g_1_13, by decide, by decide, by decide +kernel⟩, g_7_31, gs_5_1⟩
set_option maxHeartbeats 4000000 in
set_option maxRecDepth 100000 in
theorem c_Mo_decode (v0 : Nat) (ho_v0 : kd v0 = 12) (v1 : Nat) (v2 : Int32) (v3 : Int32) : MI y_Mo_decode rm_Mo_decode prog_14_method_15_code 5 .int (fun a => [.ref (a v0), .ref (a v1), .int v2, .int v3]) (Mo_decode v0 v1 v2 v3) := by
  refine mi_of (by decide) (fun _ => le_ rfl) ?_
  intro k res σ C hR hRm hnL h
  unfold Mo_decode at h
  show WW k 0 [(0, .ref (ad k v0)), (1, .ref (ad k v1)), (2, .int v2), (3, .int v3)] [] σ
  refine ww_aload_n C 0 rfl rfl (dq dk_Mo_decode 0 rfl) ?_
  refine ww_aload_n C 1 rfl rfl (dq dk_Mo_decode 1 rfl) ?_
  refine ww_putm C ko_Mo 43 ho_v0 (lt_ rfl) g_6_93 rfl rfl rfl rfl (dq dk_Mo_decode 2 rfl) h (fun σ1 h => ?_)
  refine ww_aload_n C 0 rfl rfl (dq dk_Mo_decode 3 rfl) ?_
  refine ww_iload_n C 2 rfl rfl (dq dk_Mo_decode 4 rfl) ?_
  refine ww_puti C ko_Mo 44 ho_v0 (lt_ rfl) g_6_94 rfl rfl rfl rfl (dq dk_Mo_decode 5 rfl) h (fun σ2 h => ?_)
  refine ww_aload_n C 0 rfl rfl (dq dk_Mo_decode 6 rfl) ?_
  refine ww_iload_n C 3 rfl rfl (dq dk_Mo_decode 7 rfl) ?_
  refine ww_puti C ko_Mo 45 ho_v0 (lt_ rfl) g_6_95 rfl rfl rfl rfl (dq dk_Mo_decode 8 rfl) h (fun σ3 h => ?_)
  refine ww_aload_n C 0 rfl rfl (dq dk_Mo_decode 9 rfl) ?_
  refine ww_iconst C (dq dk_Mo_decode 10 rfl) ic_0 ?_
  refine ww_puti C ko_Mo 48 ho_v0 (lt_ rfl) g_6_98 rfl rfl rfl rfl (dq dk_Mo_decode 11 rfl) h (fun σ4 h => ?_)
  refine ww_aload_n C 0 rfl rfl (dq dk_Mo_decode 12 rfl) ?_
  refine ww_iconst C (dq dk_Mo_decode 13 rfl) ic_0 ?_
  refine ww_puti C ko_Mo 49 ho_v0 (lt_ rfl) g_6_99 rfl rfl rfl rfl (dq dk_Mo_decode 14 rfl) h (fun σ5 h => ?_)
  refine ww_aload_n C 0 rfl rfl (dq dk_Mo_decode 15 rfl) ?_
  refine ww_iconst C (dq dk_Mo_decode 16 rfl) ic_0 ?_
  refine ww_puti C ko_Mo 50 ho_v0 (lt_ rfl) g_6_100 rfl rfl rfl rfl (dq dk_Mo_decode 17 rfl) h (fun σ6 h => ?_)
  refine ww_aload_n C 0 rfl rfl (dq dk_Mo_decode 18 rfl) ?_
  refine ww_iconst C (dq dk_Mo_decode 19 rfl) ic_0 ?_
  refine ww_puti C ko_Mo 51 ho_v0 (lt_ rfl) g_6_101 rfl rfl rfl rfl (dq dk_Mo_decode 20 rfl) h (fun σ7 h => ?_)
  refine ww_aload_n C 0 rfl rfl (dq dk_Mo_decode 21 rfl) ?_
  refine ww_aload_n C 0 rfl rfl (dq dk_Mo_decode 22 rfl) ?_
  refine ww_cVi (st := [.ref (ad k v0)]) C (c_Mo_next v0 ho_v0) cw_Mo_next ho_v0 (lt_ rfl) rfl g_7_33 hRm ⟨⟨rfl, rfl⟩, le_ rfl, le_ rfl⟩ rfl rfl rfl (le_ rfl) (dq dk_Mo_decode 23 rfl) h (fun x9 σ8 h => ?_)
  refine ww_cVi (st := []) C (c_Mo_known v0 ho_v0 x9) cw_Mo_known ho_v0 (lt_ rfl) rfl g_7_37 hRm ⟨⟨rfl, rfl⟩, le_ rfl, le_ rfl⟩ rfl rfl rfl (le_ rfl) (dq dk_Mo_decode 24 rfl) h (fun x11 σ10 h => ?_)
  refine ww_istore C [(4, .int x11), (0, .ref (ad k v0)), (1, .ref (ad k v1)), (2, .int v2), (3, .int v3)] hnL (lt_ rfl) rfl (dq dk_Mo_decode 25 rfl) ?_
  refine ww_iload C 0 rfl (dq dk_Mo_decode 26 rfl) ?_
  refine ww_if_eq C 70 (dq dk_Mo_decode 27 rfl) (by decide) h (fun h => ?_) (fun h => ?_)
  · refine ww_iconst C (dq dk_Mo_decode 38 rfl) ic_0 ?_
    exact ww_iret C hR (dq dk_Mo_decode 39 rfl) h
  · refine ww_aload_n C 1 rfl rfl (dq dk_Mo_decode 28 rfl) ?_
    refine ww_geti C ko_Mo 45 ho_v0 (lt_ rfl) g_6_95 rfl rfl (dq dk_Mo_decode 29 rfl) ?_
    refine ww_aload_n C 1 rfl rfl (dq dk_Mo_decode 30 rfl) ?_
    refine ww_geti C ko_Mo 44 ho_v0 (lt_ rfl) g_6_94 rfl rfl (dq dk_Mo_decode 31 rfl) ?_
    refine ww_icmp_gt C 70 (dq dk_Mo_decode 32 rfl) (by decide) h (fun h => ?_) (fun h => ?_)
    · refine ww_iconst C (dq dk_Mo_decode 38 rfl) ic_0 ?_
      exact ww_iret C hR (dq dk_Mo_decode 39 rfl) h
    · refine ww_aload_n C 1 rfl rfl (dq dk_Mo_decode 33 rfl) ?_
      refine ww_geti C ko_Mo 45 ho_v0 (lt_ rfl) g_6_95 rfl rfl (dq dk_Mo_decode 34 rfl) ?_
      refine ww_iload_n C 4 rfl rfl (dq dk_Mo_decode 35 rfl) ?_
      refine ww_isub C (dq dk_Mo_decode 36 rfl) ?_
      refine ww_goto C 71 (dq dk_Mo_decode 37 rfl) (by decide) ?_
      exact ww_iret C hR (dq dk_Mo_decode 39 rfl) h
abbrev y_Mo_faults : MethodName := ⟨"BundleHouseModel", "faults", "(II)Z"⟩
def dl_Mo_faults : List (Nat × Instr × Nat) := [(0, .aload_n 0, 1), (1, .iload_n 1, 1), (2, .putfield 181, 3), (5, .aload_n 0, 1), (6, .iload_n 2, 1), (7, .putfield 13, 3), (10, .iconst 0, 1), (11, .ireturn, 1)]
set_option maxRecDepth 100000 in
theorem dk_Mo_faults : ∀ q ∈ dl_Mo_faults, decode prog_14_method_18_code q.1 = .ok q.2 := by decide +kernel
abbrev rm_Mo_faults : Room := { frames := 0, cells := 0, slots := 0, locals := 0 }
theorem cw_Mo_faults : CWV y_Mo_faults prog_14_method_18_code 3 (some .boolean) 2 := ⟨⟨g_7_28, g_1_13, by decide, by decide, by decide +kernel⟩, g_7_27, gs_5_0⟩
set_option maxHeartbeats 4000000 in
set_option maxRecDepth 100000 in
theorem c_Mo_faults (v0 : Nat) (ho_v0 : kd v0 = 12) (v1 : Int32) (v2 : Int32) : MI y_Mo_faults rm_Mo_faults prog_14_method_18_code 3 .boolean (fun a => [.ref (a v0), .int v1, .int v2]) (Mo_faults v0 v1 v2) := by
  refine mi_of (by decide) (fun _ => le_ rfl) ?_
  intro k res σ C hR hRm hnL h
  unfold Mo_faults at h
  show WW k 0 [(0, .ref (ad k v0)), (1, .int v1), (2, .int v2)] [] σ
  refine ww_aload_n C 0 rfl rfl (dq dk_Mo_faults 0 rfl) ?_
  refine ww_iload_n C 1 rfl rfl (dq dk_Mo_faults 1 rfl) ?_
  refine ww_puti C ko_Mo 3 ho_v0 (lt_ rfl) g_6_53 rfl rfl rfl rfl (dq dk_Mo_faults 2 rfl) h (fun σ1 h => ?_)
  refine ww_aload_n C 0 rfl rfl (dq dk_Mo_faults 3 rfl) ?_
  refine ww_iload_n C 2 rfl rfl (dq dk_Mo_faults 4 rfl) ?_
  refine ww_puti C ko_Mo 4 ho_v0 (lt_ rfl) g_6_54 rfl rfl rfl rfl (dq dk_Mo_faults 5 rfl) h (fun σ2 h => ?_)
  refine ww_iconst C (dq dk_Mo_faults 6 rfl) ic_0 ?_
  exact ww_zretL C hR (dq dk_Mo_faults 7 rfl) (Or.inl rfl) h
abbrev y_Mo_isService : MethodName := ⟨"BundleHouseModel", "isService", "(I)Z"⟩
def dl_Mo_isService : List (Nat × Instr × Nat) := [(0, .iload_n 0, 1), (1, .ifCond .eq 21, 3), (4, .iload_n 0, 1), (5, .bipush 16, 2), (7, .if_icmp .eq 15, 3), (10, .iload_n 0, 1), (11, .bipush 32, 2), (13, .if_icmp .eq 9, 3), (16, .iload_n 0, 1), (17, .bipush 48, 2), (19, .if_icmp .ne 7, 3), (22, .iconst 1, 1), (23, .goto 4, 3), (26, .iconst 0, 1), (27, .ireturn, 1)]
set_option maxRecDepth 100000 in
theorem dk_Mo_isService : ∀ q ∈ dl_Mo_isService, decode prog_14_method_20_code q.1 = .ok q.2 := by decide +kernel
abbrev rm_Mo_isService : Room := { frames := 0, cells := 0, slots := 0, locals := 0 }
theorem cw_Mo_isService : CWS y_Mo_isService prog_14_method_20_code 1 (some .boolean) 1 := ⟨⟨g_7_75, g_1_13, by decide, by decide, by decide +kernel⟩, g_7_74⟩
set_option maxHeartbeats 4000000 in
set_option maxRecDepth 100000 in
theorem c_Mo_isService (v0 : Int32) : MI y_Mo_isService rm_Mo_isService prog_14_method_20_code 1 .boolean (fun a => [.int v0]) (Mo_isService v0) := by
  refine mi_of (by decide) (fun _ => le_ rfl) ?_
  intro k res σ C hR hRm hnL h
  unfold Mo_isService at h
  show WW k 0 [(0, .int v0)] [] σ
  refine ww_iload_n C 0 rfl rfl (dq dk_Mo_isService 0 rfl) ?_
  refine ww_if_eq C 22 (dq dk_Mo_isService 1 rfl) (by decide) h (fun h => ?_) (fun h => ?_)
  · refine ww_iconst C (dq dk_Mo_isService 11 rfl) ic_1 ?_
    refine ww_goto C 27 (dq dk_Mo_isService 12 rfl) (by decide) ?_
    exact ww_zretL C hR (dq dk_Mo_isService 14 rfl) (Or.inr rfl) h
  · refine ww_iload_n C 0 rfl rfl (dq dk_Mo_isService 2 rfl) ?_
    refine ww_bipush C (dq dk_Mo_isService 3 rfl) bp_16 ?_
    refine ww_icmp_eq C 22 (dq dk_Mo_isService 4 rfl) (by decide) h (fun h => ?_) (fun h => ?_)
    · refine ww_iconst C (dq dk_Mo_isService 11 rfl) ic_1 ?_
      refine ww_goto C 27 (dq dk_Mo_isService 12 rfl) (by decide) ?_
      exact ww_zretL C hR (dq dk_Mo_isService 14 rfl) (Or.inr rfl) h
    · refine ww_iload_n C 0 rfl rfl (dq dk_Mo_isService 5 rfl) ?_
      refine ww_bipush C (dq dk_Mo_isService 6 rfl) bp_32 ?_
      refine ww_icmp_eq C 22 (dq dk_Mo_isService 7 rfl) (by decide) h (fun h => ?_) (fun h => ?_)
      · refine ww_iconst C (dq dk_Mo_isService 11 rfl) ic_1 ?_
        refine ww_goto C 27 (dq dk_Mo_isService 12 rfl) (by decide) ?_
        exact ww_zretL C hR (dq dk_Mo_isService 14 rfl) (Or.inr rfl) h
      · refine ww_iload_n C 0 rfl rfl (dq dk_Mo_isService 8 rfl) ?_
        refine ww_bipush C (dq dk_Mo_isService 9 rfl) bp_48 ?_
        refine ww_icmp_ne C 26 (dq dk_Mo_isService 10 rfl) (by decide) h (fun h => ?_) (fun h => ?_)
        · refine ww_iconst C (dq dk_Mo_isService 13 rfl) ic_0 ?_
          exact ww_zretL C hR (dq dk_Mo_isService 14 rfl) (Or.inl rfl) h
        · refine ww_iconst C (dq dk_Mo_isService 11 rfl) ic_1 ?_
          refine ww_goto C 27 (dq dk_Mo_isService 12 rfl) (by decide) ?_
          exact ww_zretL C hR (dq dk_Mo_isService 14 rfl) (Or.inr rfl) h
