abbrev y_Reader_read : MethodName := ⟨"BundleHouse$Reader", "read", "(I)Z"⟩
def dl_Reader_read : List (Nat × Instr × Nat) := [(0, .aload_n 0, 1), (1, .iload_n 1, 1), (2, .putfield 22, 3), (5, .aload_n 0, 1), (6, .iconst 1, 1), (7, .putfield 26, 3), (10, .aload_n 0, 1), (11, .iconst 0, 1), (12, .putfield 30, 3), (15, .aload_n 0, 1), (16, .iconst 0, 1), (17, .putfield 33, 3), (20, .aload_n 0, 1), (21, .getfield 12, 3), (24, .iconst 0, 1), (25, .iconst 0, 1), (26, .iconst 0, 1), (27, .iconst 0, 1), (28, .iconst 0, 1), (29, .iconst 0, 1), (30, .invokevirtual 36, 3), (33, .aload_n 0, 1), (34, .invokevirtual 40, 3), (37, .istore_n 2, 1), (38, .iload_n 2, 1), (39, .bipush 15, 2), (41, .if_icmp .ne 14, 3), (44, .aload_n 0, 1), (45, .aload_n 0, 1), (46, .invokevirtual 40, 3), (49, .invokevirtual 44, 3), (52, .goto 8, 3), (55, .aload_n 0, 1), (56, .iload_n 2, 1), (57, .invokevirtual 48, 3), (60, .aload_n 0, 1), (61, .getfield 30, 3), (64, .ifCond .eq 27, 3), (67, .aload_n 0, 1), (68, .invokevirtual 51, 3), (71, .aload_n 0, 1), (72, .iload_n 2, 1), (73, .invokevirtual 54, 3), (76, .aload_n 0, 1), (77, .getfield 12, 3), (80, .aload_n 0, 1), (81, .aload_n 0, 1), (82, .getfield 57, 3), (85, .invokevirtual 60, 3), (88, .putfield 64, 3), (91, .aload_n 0, 1), (92, .getfield 12, 3), (95, .aload_n 0, 1), (96, .aload_n 0, 1), (97, .getfield 33, 3), (100, .invokevirtual 60, 3), (103, .putfield 67, 3), (106, .aload_n 0, 1), (107, .getfield 12, 3), (110, .aload_n 0, 1), (111, .getfield 22, 3), (114, .iload_n 1, 1), (115, .isub, 1), (116, .putfield 70, 3), (119, .aload_n 0, 1), (120, .getfield 26, 3), (123, .ireturn, 1)]
set_option maxRecDepth 100000 in
theorem dk_Reader_read : ∀ q ∈ dl_Reader_read, decode prog_9_method_2_code q.1 = .ok q.2 := by decide +kernel
abbrev rm_Reader_read : Room := { frames := 3, cells := 0, slots := 0, locals := 67 }
theorem cw_Reader_read : CWV y_Reader_read prog_9_method_2_code 3 (some .boolean) 1 := ⟨⟨g_2_235, g_1_4, by decide, by decide, by decide +kernel⟩, g_2_233, g_2_234⟩
set_option maxHeartbeats 4000000 in
set_option maxRecDepth 100000 in
theorem t_Reader_read_B91 {k : Cfg} {res : Int32 × St} (C : Cx k prog_9_method_2_code "BundleHouse$Reader") (hR : RI k .boolean res) (hRm : k.2.2.2.1 = rm_Reader_read) (hnL : k.2.2.2.2.2.2.2.2.2.2.2.1 = 3) (v0 : Nat) (v1 : Int32) (ho_v0 : kd v0 = 3) (σ : St) (h : Reader_read_B91 v0 v1 σ = some res) : WW k 91 [(0, .ref (ad k v0)), (1, .int v1)] [] σ := by
  unfold Reader_read_B91 at h
  refine ww_aload_n C 0 rfl rfl (dq dk_Reader_read 50 rfl) ?_
  refine ww_getr C ko_Reader 0 ho_v0 (lt_ rfl) g_1_122 rfl rfl (dq dk_Reader_read 51 rfl) ?_
  refine ww_aload_n C 0 rfl rfl (dq dk_Reader_read 52 rfl) ?_
  refine ww_aload_n C 0 rfl rfl (dq dk_Reader_read 53 rfl) ?_
  refine ww_geti C ko_Reader 5 ho_v0 (lt_ rfl) g_1_130 rfl rfl (dq dk_Reader_read 54 rfl) ?_
  refine ww_cVi (st := [.ref (ad k (ch v0 0))]) C (c_Reader_takeNumber v0 ho_v0 (σ v0 5)) cw_Reader_takeNumber ho_v0 (lt_ rfl) rfl g_3_47 hRm ⟨⟨rfl, rfl⟩, le_ rfl, le_ rfl⟩ rfl rfl rfl (le_ rfl) (dq dk_Reader_read 55 rfl) h (fun x2 σ1 h => ?_)
  refine ww_puti C ko_Instruction 5 (kc_Reader_0 _ ho_v0) (lt_ rfl) g_1_98 rfl rfl rfl rfl (dq dk_Reader_read 56 rfl) h (fun σ3 h => ?_)
  refine ww_aload_n C 0 rfl rfl (dq dk_Reader_read 57 rfl) ?_
  refine ww_getr C ko_Reader 0 ho_v0 (lt_ rfl) g_1_122 rfl rfl (dq dk_Reader_read 58 rfl) ?_
  refine ww_aload_n C 0 rfl rfl (dq dk_Reader_read 59 rfl) ?_
  refine ww_geti C ko_Reader 2 ho_v0 (lt_ rfl) g_1_127 rfl rfl (dq dk_Reader_read 60 rfl) ?_
  refine ww_iload_n C 1 rfl rfl (dq dk_Reader_read 61 rfl) ?_
  refine ww_isub C (dq dk_Reader_read 62 rfl) ?_
  refine ww_puti C ko_Instruction 6 (kc_Reader_0 _ ho_v0) (lt_ rfl) g_1_103 rfl rfl rfl rfl (dq dk_Reader_read 63 rfl) h (fun σ4 h => ?_)
  refine ww_aload_n C 0 rfl rfl (dq dk_Reader_read 64 rfl) ?_
  refine ww_geti C ko_Reader 3 ho_v0 (lt_ rfl) g_1_128 rfl rfl (dq dk_Reader_read 65 rfl) ?_
  exact ww_zret C hR (dq dk_Reader_read 66 rfl) h
set_option maxHeartbeats 4000000 in
set_option maxRecDepth 100000 in
theorem t_Reader_read_B60 {k : Cfg} {res : Int32 × St} (C : Cx k prog_9_method_2_code "BundleHouse$Reader") (hR : RI k .boolean res) (hRm : k.2.2.2.1 = rm_Reader_read) (hnL : k.2.2.2.2.2.2.2.2.2.2.2.1 = 3) (v0 : Nat) (v1 : Int32) (v2 : Int32) (ho_v0 : kd v0 = 3) (σ : St) (h : Reader_read_B60 v0 v1 v2 σ = some res) : WW k 60 [(0, .ref (ad k v0)), (1, .int v1), (2, .int v2)] [] σ := by
  unfold Reader_read_B60 at h
  refine ww_aload_n C 0 rfl rfl (dq dk_Reader_read 35 rfl) ?_
  refine ww_geti C ko_Reader 4 ho_v0 (lt_ rfl) g_1_129 rfl rfl (dq dk_Reader_read 36 rfl) ?_
  refine ww_if_eq C 91 (dq dk_Reader_read 37 rfl) (by decide) h (fun h => ?_) (fun h => ?_)
  · exact ww_lv [0, 1] rfl (t_Reader_read_B91 C hR hRm hnL v0 v1 ho_v0 σ h)
  · refine ww_aload_n C 0 rfl rfl (dq dk_Reader_read 38 rfl) ?_
    refine ww_cVv (st := []) C (c_Reader_takeOperand v0 ho_v0) cw_Reader_takeOperand ho_v0 (lt_ rfl) rfl g_3_35 hRm ⟨⟨rfl, rfl⟩, le_ rfl, le_ rfl⟩ rfl rfl rfl (le_ rfl) (dq dk_Reader_read 39 rfl) h (fun σ1 h => ?_)
    refine ww_aload_n C 0 rfl rfl (dq dk_Reader_read 40 rfl) ?_
    refine ww_iload_n C 2 rfl rfl (dq dk_Reader_read 41 rfl) ?_
    refine ww_cVv (st := []) C (c_Reader_giveForm v0 ho_v0 v2) cw_Reader_giveForm ho_v0 (lt_ rfl) rfl g_3_39 hRm ⟨⟨rfl, rfl⟩, le_ rfl, le_ rfl⟩ rfl rfl rfl (le_ rfl) (dq dk_Reader_read 42 rfl) h (fun σ2 h => ?_)
    refine ww_aload_n C 0 rfl rfl (dq dk_Reader_read 43 rfl) ?_
    refine ww_getr C ko_Reader 0 ho_v0 (lt_ rfl) g_1_122 rfl rfl (dq dk_Reader_read 44 rfl) ?_
    refine ww_aload_n C 0 rfl rfl (dq dk_Reader_read 45 rfl) ?_
    refine ww_aload_n C 0 rfl rfl (dq dk_Reader_read 46 rfl) ?_
    refine ww_geti C ko_Reader 6 ho_v0 (lt_ rfl) g_1_131 rfl rfl (dq dk_Reader_read 47 rfl) ?_
    refine ww_cVi (st := [.ref (ad k (ch v0 0))]) C (c_Reader_takeNumber v0 ho_v0 (σ2 v0 6)) cw_Reader_takeNumber ho_v0 (lt_ rfl) rfl g_3_47 hRm ⟨⟨rfl, rfl⟩, le_ rfl, le_ rfl⟩ rfl rfl rfl (le_ rfl) (dq dk_Reader_read 48 rfl) h (fun x4 σ3 h => ?_)
    refine ww_puti C ko_Instruction 4 (kc_Reader_0 _ ho_v0) (lt_ rfl) g_1_94 rfl rfl rfl rfl (dq dk_Reader_read 49 rfl) h (fun σ5 h => ?_)
    exact ww_lv [0, 1] rfl (t_Reader_read_B91 C hR hRm hnL v0 v1 ho_v0 σ5 h)
set_option maxHeartbeats 4000000 in
set_option maxRecDepth 100000 in
theorem c_Reader_read (v0 : Nat) (ho_v0 : kd v0 = 3) (v1 : Int32) : MI y_Reader_read rm_Reader_read prog_9_method_2_code 3 .boolean (fun a => [.ref (a v0), .int v1]) (Reader_read v0 v1) := by
  refine mi_of (by decide) (fun _ => le_ rfl) ?_
  intro k res σ C hR hRm hnL h
  unfold Reader_read at h
  show WW k 0 [(0, .ref (ad k v0)), (1, .int v1)] [] σ
  refine ww_aload_n C 0 rfl rfl (dq dk_Reader_read 0 rfl) ?_
  refine ww_iload_n C 1 rfl rfl (dq dk_Reader_read 1 rfl) ?_
  refine ww_puti C ko_Reader 2 ho_v0 (lt_ rfl) g_1_127 rfl rfl rfl rfl (dq dk_Reader_read 2 rfl) h (fun σ1 h => ?_)
  refine ww_aload_n C 0 rfl rfl (dq dk_Reader_read 3 rfl) ?_
  refine ww_iconst C (dq dk_Reader_read 4 rfl) ic_1 ?_
  refine ww_putZ C ko_Reader 3 ho_v0 (lt_ rfl) g_1_128 rfl rfl rfl rfl (Or.inr rfl) (dq dk_Reader_read 5 rfl) h (fun σ2 h => ?_)
  refine ww_aload_n C 0 rfl rfl (dq dk_Reader_read 6 rfl) ?_
  refine ww_iconst C (dq dk_Reader_read 7 rfl) ic_0 ?_
  refine ww_puti C ko_Reader 4 ho_v0 (lt_ rfl) g_1_129 rfl rfl rfl rfl (dq dk_Reader_read 8 rfl) h (fun σ3 h => ?_)
  refine ww_aload_n C 0 rfl rfl (dq dk_Reader_read 9 rfl) ?_
  refine ww_iconst C (dq dk_Reader_read 10 rfl) ic_0 ?_
  refine ww_puti C ko_Reader 5 ho_v0 (lt_ rfl) g_1_130 rfl rfl rfl rfl (dq dk_Reader_read 11 rfl) h (fun σ4 h => ?_)
  refine ww_aload_n C 0 rfl rfl (dq dk_Reader_read 12 rfl) ?_
  refine ww_getr C ko_Reader 0 ho_v0 (lt_ rfl) g_1_122 rfl rfl (dq dk_Reader_read 13 rfl) ?_
  refine ww_iconst C (dq dk_Reader_read 14 rfl) ic_0 ?_
  refine ww_iconst C (dq dk_Reader_read 15 rfl) ic_0 ?_
  refine ww_iconst C (dq dk_Reader_read 16 rfl) ic_0 ?_
  refine ww_iconst C (dq dk_Reader_read 17 rfl) ic_0 ?_
  refine ww_iconst C (dq dk_Reader_read 18 rfl) ic_0 ?_
  refine ww_iconst C (dq dk_Reader_read 19 rfl) ic_0 ?_
  refine ww_cVv (st := []) C (c_Instruction_fill (ch v0 0) (kc_Reader_0 _ ho_v0) 0 0 0 0 0 0) cw_Instruction_fill (kc_Reader_0 _ ho_v0) (lt_ rfl) rfl g_2_236 hRm ⟨⟨rfl, rfl⟩, le_ rfl, le_ rfl⟩ rfl rfl rfl (le_ rfl) (dq dk_Reader_read 20 rfl) h (fun σ5 h => ?_)
  refine ww_aload_n C 0 rfl rfl (dq dk_Reader_read 21 rfl) ?_
  refine ww_cVi (st := []) C (c_Reader_take v0 ho_v0) cw_Reader_take ho_v0 (lt_ rfl) rfl g_3_0 hRm ⟨⟨rfl, rfl⟩, le_ rfl, le_ rfl⟩ rfl rfl rfl (le_ rfl) (dq dk_Reader_read 22 rfl) h (fun x7 σ6 h => ?_)
  refine ww_istore_n C [(2, .int x7), (0, .ref (ad k v0)), (1, .int v1)] rfl hnL (lt_ rfl) rfl (dq dk_Reader_read 23 rfl) ?_
  refine ww_iload_n C 0 rfl rfl (dq dk_Reader_read 24 rfl) ?_
  refine ww_bipush C (dq dk_Reader_read 25 rfl) bp_15 ?_
  refine ww_icmp_ne C 55 (dq dk_Reader_read 26 rfl) (by decide) h (fun h => ?_) (fun h => ?_)
  · refine ww_aload_n C 1 rfl rfl (dq dk_Reader_read 32 rfl) ?_
    refine ww_iload_n C 0 rfl rfl (dq dk_Reader_read 33 rfl) ?_
    refine ww_cVv (st := []) C (c_Reader_shape v0 ho_v0 x7) cw_Reader_shape ho_v0 (lt_ rfl) rfl g_3_23 hRm ⟨⟨rfl, rfl⟩, le_ rfl, le_ rfl⟩ rfl rfl rfl (le_ rfl) (dq dk_Reader_read 34 rfl) h (fun σ8 h => ?_)
    exact ww_lv [1, 2, 0] rfl (t_Reader_read_B60 C hR hRm hnL v0 v1 x7 ho_v0 σ8 h)
  · refine ww_aload_n C 1 rfl rfl (dq dk_Reader_read 27 rfl) ?_
    refine ww_aload_n C 1 rfl rfl (dq dk_Reader_read 28 rfl) ?_
    refine ww_cVi (st := [.ref (ad k v0)]) C (c_Reader_take v0 ho_v0) cw_Reader_take ho_v0 (lt_ rfl) rfl g_3_0 hRm ⟨⟨rfl, rfl⟩, le_ rfl, le_ rfl⟩ rfl rfl rfl (le_ rfl) (dq dk_Reader_read 29 rfl) h (fun x10 σ9 h => ?_)
    refine ww_cVv (st := []) C (c_Reader_shapeBehind15 v0 ho_v0 x10) cw_Reader_shapeBehind15 ho_v0 (lt_ rfl) rfl g_3_4 hRm ⟨⟨rfl, rfl⟩, le_ rfl, le_ rfl⟩ rfl rfl rfl (le_ rfl) (dq dk_Reader_read 30 rfl) h (fun σ11 h => ?_)
    refine ww_goto C 60 (dq dk_Reader_read 31 rfl) (by decide) ?_
    exact ww_lv [1, 2, 0] rfl (t_Reader_read_B60 C hR hRm hnL v0 v1 x7 ho_v0 σ11 h)
abbrev y_Policy_faultOfFound : MethodName := ⟨"BundleHouse$Policy", "faultOfFound", "(III)I"⟩
def dl_Policy_faultOfFound : List (Nat × Instr × Nat) := [(0, .aload_n 0, 1), (1, .getfield 24, 3), (4, .getfield 52, 3), (7, .getfield 56, 3), (10, .istore 4, 2), (12, .iload 4, 2), (14, .bipush 23, 2), (16, .if_icmp .ne 5, 3), (19, .iconst 2, 1), (20, .ireturn, 1), (21, .iload_n 1, 1), (22, .aload_n 0, 1), (23, .getfield 24, 3), (26, .getfield 52, 3), (29, .getfield 68, 3), (32, .iadd, 1), (33, .istore 5, 2), (35, .iload 5, 2), (37, .iload_n 2, 1), (38, .if_icmp .le 5, 3), (41, .iconst 3, 1), (42, .ireturn, 1), (43, .iload 4, 2), (45, .bipush 27, 2), (47, .if_icmp .eq 10, 3), (50, .iload 4, 2), (52, .bipush 28, 2), (54, .if_icmp .ne 19, 3), (57, .iload_n 3, 1), (58, .aload_n 0, 1), (59, .getfield 24, 3), (62, .getfield 52, 3), (65, .getfield 71, 3), (68, .if_icmp .eq 5, 3), (71, .iconst 4, 1), (72, .ireturn, 1), (73, .iload 4, 2), (75, .bipush 26, 2), (77, .if_icmp .eq 10, 3), (80, .iload 4, 2), (82, .bipush 28, 2), (84, .if_icmp .ne 13, 3), (87, .iload 5, 2), (89, .iload_n 2, 1), (90, .if_icmp .eq 7, 3), (93, .iconst 5, 1), (94, .goto 4, 3), (97, .iconst 0, 1), (98, .ireturn, 1)]
set_option maxRecDepth 100000 in
theorem dk_Policy_faultOfFound : ∀ q ∈ dl_Policy_faultOfFound, decode prog_7_method_4_code q.1 = .ok q.2 := by decide +kernel
abbrev rm_Policy_faultOfFound : Room := { frames := 0, cells := 0, slots := 0, locals := 0 }
theorem cw_Policy_faultOfFound : CWV y_Policy_faultOfFound prog_7_method_4_code 6 (some .int) 3 := ⟨⟨g_3_54, g_1_3, by decide, by decide, by decide +kernel⟩, g_3_53, gs_1_13⟩
set_option maxHeartbeats 4000000 in
set_option maxRecDepth 100000 in
theorem t_Policy_faultOfFound_B57 {k : Cfg} {res : Int32 × St} (C : Cx k prog_7_method_4_code "BundleHouse$Policy") (hR : RI k .int res) (hRm : k.2.2.2.1 = rm_Policy_faultOfFound) (hnL : k.2.2.2.2.2.2.2.2.2.2.2.1 = 6) (v0 : Nat) (v2 : Int32) (v3 : Int32) (v4 : Int32) (v5 : Int32) (ho_v0 : kd v0 = 2) (σ : St) (h : Policy_faultOfFound_B57 v0 v2 v3 v4 v5 σ = some res) : WW k 57 [(0, .ref (ad k v0)), (2, .int v2), (3, .int v3), (4, .int v4), (5, .int v5)] [] σ := by
  unfold Policy_faultOfFound_B57 at h
  refine ww_iload_n C 2 rfl rfl (dq dk_Policy_faultOfFound 28 rfl) ?_
  refine ww_aload_n C 0 rfl rfl (dq dk_Policy_faultOfFound 29 rfl) ?_
  refine ww_getr C ko_Policy 2 ho_v0 (lt_ rfl) g_1_159 rfl rfl (dq dk_Policy_faultOfFound 30 rfl) ?_
  refine ww_getr C ko_Reader 0 (kc_Policy_2 _ ho_v0) (lt_ rfl) g_1_123 rfl rfl (dq dk_Policy_faultOfFound 31 rfl) ?_
  refine ww_geti C ko_Instruction 2 (kc_Reader_0 _ (kc_Policy_2 _ ho_v0)) (lt_ rfl) g_1_84 rfl rfl (dq dk_Policy_faultOfFound 32 rfl) ?_
  refine ww_icmp_eq C 73 (dq dk_Policy_faultOfFound 33 rfl) (by decide) h (fun h => ?_) (fun h => ?_)
  · refine ww_iload C 3 rfl (dq dk_Policy_faultOfFound 36 rfl) ?_
    refine ww_bipush C (dq dk_Policy_faultOfFound 37 rfl) bp_26 ?_
    refine ww_icmp_eq C 87 (dq dk_Policy_faultOfFound 38 rfl) (by decide) h (fun h => ?_) (fun h => ?_)
    · refine ww_iload C 4 rfl (dq dk_Policy_faultOfFound 42 rfl) ?_
      refine ww_iload_n C 1 rfl rfl (dq dk_Policy_faultOfFound 43 rfl) ?_
      refine ww_icmp_eq C 97 (dq dk_Policy_faultOfFound 44 rfl) (by decide) h (fun h => ?_) (fun h => ?_)
      · refine ww_iconst C (dq dk_Policy_faultOfFound 47 rfl) ic_0 ?_
        exact ww_iret C hR (dq dk_Policy_faultOfFound 48 rfl) h
      · refine ww_iconst C (dq dk_Policy_faultOfFound 45 rfl) ic_5 ?_
        refine ww_goto C 98 (dq dk_Policy_faultOfFound 46 rfl) (by decide) ?_
        exact ww_iret C hR (dq dk_Policy_faultOfFound 48 rfl) h
    · refine ww_iload C 3 rfl (dq dk_Policy_faultOfFound 39 rfl) ?_
      refine ww_bipush C (dq dk_Policy_faultOfFound 40 rfl) bp_28 ?_
      refine ww_icmp_ne C 97 (dq dk_Policy_faultOfFound 41 rfl) (by decide) h (fun h => ?_) (fun h => ?_)
      · refine ww_iconst C (dq dk_Policy_faultOfFound 47 rfl) ic_0 ?_
        exact ww_iret C hR (dq dk_Policy_faultOfFound 48 rfl) h
      · refine ww_iload C 4 rfl (dq dk_Policy_faultOfFound 42 rfl) ?_
        refine ww_iload_n C 1 rfl rfl (dq dk_Policy_faultOfFound 43 rfl) ?_
        refine ww_icmp_eq C 97 (dq dk_Policy_faultOfFound 44 rfl) (by decide) h (fun h => ?_) (fun h => ?_)
        · refine ww_iconst C (dq dk_Policy_faultOfFound 47 rfl) ic_0 ?_
          exact ww_iret C hR (dq dk_Policy_faultOfFound 48 rfl) h
        · refine ww_iconst C (dq dk_Policy_faultOfFound 45 rfl) ic_5 ?_
          refine ww_goto C 98 (dq dk_Policy_faultOfFound 46 rfl) (by decide) ?_
          exact ww_iret C hR (dq dk_Policy_faultOfFound 48 rfl) h
  · refine ww_iconst C (dq dk_Policy_faultOfFound 34 rfl) ic_4 ?_
    exact ww_iret C hR (dq dk_Policy_faultOfFound 35 rfl) h
set_option maxHeartbeats 4000000 in
set_option maxRecDepth 100000 in
theorem c_Policy_faultOfFound (v0 : Nat) (ho_v0 : kd v0 = 2) (v1 : Int32) (v2 : Int32) (v3 : Int32) : MI y_Policy_faultOfFound rm_Policy_faultOfFound prog_7_method_4_code 6 .int (fun a => [.ref (a v0), .int v1, .int v2, .int v3]) (Policy_faultOfFound v0 v1 v2 v3) := by
  refine mi_of (by decide) (fun _ => le_ rfl) ?_
  intro k res σ C hR hRm hnL h
  unfold Policy_faultOfFound at h
  show WW k 0 [(0, .ref (ad k v0)), (1, .int v1), (2, .int v2), (3, .int v3)] [] σ
  refine ww_aload_n C 0 rfl rfl (dq dk_Policy_faultOfFound 0 rfl) ?_
  refine ww_getr C ko_Policy 2 ho_v0 (lt_ rfl) g_1_159 rfl rfl (dq dk_Policy_faultOfFound 1 rfl) ?_
  refine ww_getr C ko_Reader 0 (kc_Policy_2 _ ho_v0) (lt_ rfl) g_1_123 rfl rfl (dq dk_Policy_faultOfFound 2 rfl) ?_
  refine ww_geti C ko_Instruction 0 (kc_Reader_0 _ (kc_Policy_2 _ ho_v0)) (lt_ rfl) g_1_71 rfl rfl (dq dk_Policy_faultOfFound 3 rfl) ?_
  refine ww_nmi h (fun x1 h => ?_)
  refine ww_istore C [(4, .int x1), (0, .ref (ad k v0)), (1, .int v1), (2, .int v2), (3, .int v3)] hnL (lt_ rfl) rfl (dq dk_Policy_faultOfFound 4 rfl) ?_
  refine ww_iload C 0 rfl (dq dk_Policy_faultOfFound 5 rfl) ?_
  refine ww_bipush C (dq dk_Policy_faultOfFound 6 rfl) bp_23 ?_
  refine ww_icmp_ne C 21 (dq dk_Policy_faultOfFound 7 rfl) (by decide) h (fun h => ?_) (fun h => ?_)
  · refine ww_iload_n C 2 rfl rfl (dq dk_Policy_faultOfFound 10 rfl) ?_
    refine ww_aload_n C 1 rfl rfl (dq dk_Policy_faultOfFound 11 rfl) ?_
    refine ww_getr C ko_Policy 2 ho_v0 (lt_ rfl) g_1_159 rfl rfl (dq dk_Policy_faultOfFound 12 rfl) ?_
    refine ww_getr C ko_Reader 0 (kc_Policy_2 _ ho_v0) (lt_ rfl) g_1_123 rfl rfl (dq dk_Policy_faultOfFound 13 rfl) ?_
    refine ww_geti C ko_Instruction 6 (kc_Reader_0 _ (kc_Policy_2 _ ho_v0)) (lt_ rfl) g_1_104 rfl rfl (dq dk_Policy_faultOfFound 14 rfl) ?_
    refine ww_iadd C (dq dk_Policy_faultOfFound 15 rfl) ?_
    refine ww_nmi h (fun x2 h => ?_)
    refine ww_istore C [(5, .int x2), (4, .int x1), (0, .ref (ad k v0)), (1, .int v1), (2, .int v2), (3, .int v3)] hnL (lt_ rfl) rfl (dq dk_Policy_faultOfFound 16 rfl) ?_
    refine ww_iload C 0 rfl (dq dk_Policy_faultOfFound 17 rfl) ?_
    refine ww_iload_n C 4 rfl rfl (dq dk_Policy_faultOfFound 18 rfl) ?_
    refine ww_icmp_le C 43 (dq dk_Policy_faultOfFound 19 rfl) (by decide) h (fun h => ?_) (fun h => ?_)
    · refine ww_iload C 1 rfl (dq dk_Policy_faultOfFound 22 rfl) ?_
      refine ww_bipush C (dq dk_Policy_faultOfFound 23 rfl) bp_27 ?_
      refine ww_icmp_eq C 57 (dq dk_Policy_faultOfFound 24 rfl) (by decide) h (fun h => ?_) (fun h => ?_)
      · exact ww_lv [2, 4, 5, 1, 0] rfl (t_Policy_faultOfFound_B57 C hR hRm hnL v0 v2 v3 x1 x2 ho_v0 σ h)
      · refine ww_iload C 1 rfl (dq dk_Policy_faultOfFound 25 rfl) ?_
        refine ww_bipush C (dq dk_Policy_faultOfFound 26 rfl) bp_28 ?_
        refine ww_icmp_ne C 73 (dq dk_Policy_faultOfFound 27 rfl) (by decide) h (fun h => ?_) (fun h => ?_)
        · refine ww_iload C 1 rfl (dq dk_Policy_faultOfFound 36 rfl) ?_
          refine ww_bipush C (dq dk_Policy_faultOfFound 37 rfl) bp_26 ?_
          refine ww_icmp_eq C 87 (dq dk_Policy_faultOfFound 38 rfl) (by decide) h (fun h => ?_) (fun h => ?_)
          · refine ww_iload C 0 rfl (dq dk_Policy_faultOfFound 42 rfl) ?_
            refine ww_iload_n C 4 rfl rfl (dq dk_Policy_faultOfFound 43 rfl) ?_
            refine ww_icmp_eq C 97 (dq dk_Policy_faultOfFound 44 rfl) (by decide) h (fun h => ?_) (fun h => ?_)
            · refine ww_iconst C (dq dk_Policy_faultOfFound 47 rfl) ic_0 ?_
              exact ww_iret C hR (dq dk_Policy_faultOfFound 48 rfl) h
            · refine ww_iconst C (dq dk_Policy_faultOfFound 45 rfl) ic_5 ?_
              refine ww_goto C 98 (dq dk_Policy_faultOfFound 46 rfl) (by decide) ?_
              exact ww_iret C hR (dq dk_Policy_faultOfFound 48 rfl) h
          · refine ww_iload C 1 rfl (dq dk_Policy_faultOfFound 39 rfl) ?_
            refine ww_bipush C (dq dk_Policy_faultOfFound 40 rfl) bp_28 ?_
            refine ww_icmp_ne C 97 (dq dk_Policy_faultOfFound 41 rfl) (by decide) h (fun h => ?_) (fun h => ?_)
            · refine ww_iconst C (dq dk_Policy_faultOfFound 47 rfl) ic_0 ?_
              exact ww_iret C hR (dq dk_Policy_faultOfFound 48 rfl) h
            · refine ww_iload C 0 rfl (dq dk_Policy_faultOfFound 42 rfl) ?_
              refine ww_iload_n C 4 rfl rfl (dq dk_Policy_faultOfFound 43 rfl) ?_
              refine ww_icmp_eq C 97 (dq dk_Policy_faultOfFound 44 rfl) (by decide) h (fun h => ?_) (fun h => ?_)
              · refine ww_iconst C (dq dk_Policy_faultOfFound 47 rfl) ic_0 ?_
                exact ww_iret C hR (dq dk_Policy_faultOfFound 48 rfl) h
              · refine ww_iconst C (dq dk_Policy_faultOfFound 45 rfl) ic_5 ?_
                refine ww_goto C 98 (dq dk_Policy_faultOfFound 46 rfl) (by decide) ?_
                exact ww_iret C hR (dq dk_Policy_faultOfFound 48 rfl) h
        · exact ww_lv [2, 4, 5, 1, 0] rfl (t_Policy_faultOfFound_B57 C hR hRm hnL v0 v2 v3 x1 x2 ho_v0 σ h)
    · refine ww_iconst C (dq dk_Policy_faultOfFound 20 rfl) ic_3 ?_
      exact ww_iret C hR (dq dk_Policy_faultOfFound 21 rfl) h
  · refine ww_iconst C (dq dk_Policy_faultOfFound 8 rfl) ic_2 ?_
    exact ww_iret C hR (dq dk_Policy_faultOfFound 9 rfl) h
abbrev y_Policy_maskedRegister : MethodName := ⟨"BundleHouse$Policy", "maskedRegister", "(I)I"⟩
def dl_Policy_maskedRegister : List (Nat × Instr × Nat) := [(0, .aload_n 0, 1), (1, .getfield 24, 3), (4, .getfield 52, 3), (7, .astore_n 2, 1), (8, .aload_n 0, 1), (9, .getfield 15, 3), (12, .iload_n 1, 1), (13, .invokevirtual 74, 3), (16, .sipush 131, 3), (19, .if_icmp .ne 32, 3), (22, .aload_n 2, 1), (23, .getfield 56, 3), (26, .iconst 4, 1), (27, .if_icmp .ne 24, 3), (30, .aload_n 2, 1), (31, .getfield 77, 3), (34, .iconst 5, 1), (35, .if_icmp .ne 16, 3), (38, .aload_n 2, 1), (39, .getfield 80, 3), (42, .bipush (-16), 2), (44, .if_icmp .ne 7, 3), (47, .iconst 1, 1), (48, .goto 4, 3), (51, .iconst 0, 1), (52, .istore_n 3, 1), (53, .iload_n 3, 1), (54, .ifCond .eq 10, 3), (57, .aload_n 2, 1), (58, .getfield 71, 3), (61, .goto 4, 3), (64, .iconst (-1), 1), (65, .ireturn, 1)]
set_option maxRecDepth 100000 in
theorem dk_Policy_maskedRegister : ∀ q ∈ dl_Policy_maskedRegister, decode prog_7_method_5_code q.1 = .ok q.2 := by decide +kernel
abbrev rm_Policy_maskedRegister : Room := { frames := 1, cells := 0, slots := 0, locals := 21 }
theorem cw_Policy_maskedRegister : CWV y_Policy_maskedRegister prog_7_method_5_code 4 (some .int) 1 := ⟨⟨g_3_62, g_1_3, by decide, by decide, by decide +kernel⟩, g_3_61, gs_1_14⟩
set_option maxHeartbeats 4000000 in
set_option maxRecDepth 100000 in
theorem c_Policy_maskedRegister (v0 : Nat) (ho_v0 : kd v0 = 2) (v1 : Int32) : MI y_Policy_maskedRegister rm_Policy_maskedRegister prog_7_method_5_code 4 .int (fun a => [.ref (a v0), .int v1]) (Policy_maskedRegister v0 v1) := by
  refine mi_of (by decide) (fun _ => le_ rfl) ?_
  intro k res σ C hR hRm hnL h
  unfold Policy_maskedRegister at h
  show WW k 0 [(0, .ref (ad k v0)), (1, .int v1)] [] σ
  refine ww_aload_n C 0 rfl rfl (dq dk_Policy_maskedRegister 0 rfl) ?_
  refine ww_getr C ko_Policy 2 ho_v0 (lt_ rfl) g_1_159 rfl rfl (dq dk_Policy_maskedRegister 1 rfl) ?_
  refine ww_getr C ko_Reader 0 (kc_Policy_2 _ ho_v0) (lt_ rfl) g_1_123 rfl rfl (dq dk_Policy_maskedRegister 2 rfl) ?_
  refine ww_astore_n C [(2, .ref (ad k (ch (ch v0 2) 0))), (0, .ref (ad k v0)), (1, .int v1)] rfl hnL (lt_ rfl) rfl (dq dk_Policy_maskedRegister 3 rfl) ?_
  refine ww_aload_n C 1 rfl rfl (dq dk_Policy_maskedRegister 4 rfl) ?_
  refine ww_getr C ko_Policy 1 ho_v0 (lt_ rfl) g_1_158 rfl rfl (dq dk_Policy_maskedRegister 5 rfl) ?_
  refine ww_iload_n C 2 rfl rfl (dq dk_Policy_maskedRegister 6 rfl) ?_
  refine ww_cVi (st := []) C (c_Strip_byteAt (ch v0 1) (kc_Policy_1 _ ho_v0) v1) cw_Strip_byteAt (kc_Policy_1 _ ho_v0) (lt_ rfl) rfl g_3_63 hRm ⟨⟨rfl, rfl⟩, le_ rfl, le_ rfl⟩ rfl rfl rfl (le_ rfl) (dq dk_Policy_maskedRegister 7 rfl) h (fun x2 σ1 h => ?_)
  refine ww_sipush C (dq dk_Policy_maskedRegister 8 rfl) sp_131 ?_
  refine ww_icmp_ne C 51 (dq dk_Policy_maskedRegister 9 rfl) (by decide) h (fun h => ?_) (fun h => ?_)
  · refine ww_iconst C (dq dk_Policy_maskedRegister 24 rfl) ic_0 ?_
    refine ww_istore_n C [(3, .int 0), (2, .ref (ad k (ch (ch v0 2) 0))), (0, .ref (ad k v0)), (1, .int v1)] rfl hnL (lt_ rfl) rfl (dq dk_Policy_maskedRegister 25 rfl) ?_
    refine ww_iload_n C 0 rfl rfl (dq dk_Policy_maskedRegister 26 rfl) ?_
    refine ww_if_eq C 64 (dq dk_Policy_maskedRegister 27 rfl) (by decide) (ift (by decide) h) (fun h => ?_) (fun h => by cases h)
    refine ww_iconst C (dq dk_Policy_maskedRegister 31 rfl) ic_m1 ?_
    exact ww_iret C hR (dq dk_Policy_maskedRegister 32 rfl) h
  · refine ww_aload_n C 0 rfl rfl (dq dk_Policy_maskedRegister 10 rfl) ?_
    refine ww_geti C ko_Instruction 0 (kc_Reader_0 _ (kc_Policy_2 _ ho_v0)) (lt_ rfl) g_1_71 rfl rfl (dq dk_Policy_maskedRegister 11 rfl) ?_
    refine ww_iconst C (dq dk_Policy_maskedRegister 12 rfl) ic_4 ?_
    refine ww_icmp_ne C 51 (dq dk_Policy_maskedRegister 13 rfl) (by decide) h (fun h => ?_) (fun h => ?_)
    · refine ww_iconst C (dq dk_Policy_maskedRegister 24 rfl) ic_0 ?_
      refine ww_istore_n C [(3, .int 0), (2, .ref (ad k (ch (ch v0 2) 0))), (0, .ref (ad k v0)), (1, .int v1)] rfl hnL (lt_ rfl) rfl (dq dk_Policy_maskedRegister 25 rfl) ?_
      refine ww_iload_n C 0 rfl rfl (dq dk_Policy_maskedRegister 26 rfl) ?_
      refine ww_if_eq C 64 (dq dk_Policy_maskedRegister 27 rfl) (by decide) (ift (by decide) h) (fun h => ?_) (fun h => by cases h)
      refine ww_iconst C (dq dk_Policy_maskedRegister 31 rfl) ic_m1 ?_
      exact ww_iret C hR (dq dk_Policy_maskedRegister 32 rfl) h
    · refine ww_aload_n C 0 rfl rfl (dq dk_Policy_maskedRegister 14 rfl) ?_
      refine ww_geti C ko_Instruction 1 (kc_Reader_0 _ (kc_Policy_2 _ ho_v0)) (lt_ rfl) g_1_79 rfl rfl (dq dk_Policy_maskedRegister 15 rfl) ?_
      refine ww_iconst C (dq dk_Policy_maskedRegister 16 rfl) ic_5 ?_
      refine ww_icmp_ne C 51 (dq dk_Policy_maskedRegister 17 rfl) (by decide) h (fun h => ?_) (fun h => ?_)
      · refine ww_iconst C (dq dk_Policy_maskedRegister 24 rfl) ic_0 ?_
        refine ww_istore_n C [(3, .int 0), (2, .ref (ad k (ch (ch v0 2) 0))), (0, .ref (ad k v0)), (1, .int v1)] rfl hnL (lt_ rfl) rfl (dq dk_Policy_maskedRegister 25 rfl) ?_
        refine ww_iload_n C 0 rfl rfl (dq dk_Policy_maskedRegister 26 rfl) ?_
        refine ww_if_eq C 64 (dq dk_Policy_maskedRegister 27 rfl) (by decide) (ift (by decide) h) (fun h => ?_) (fun h => by cases h)
        refine ww_iconst C (dq dk_Policy_maskedRegister 31 rfl) ic_m1 ?_
        exact ww_iret C hR (dq dk_Policy_maskedRegister 32 rfl) h
      · refine ww_aload_n C 0 rfl rfl (dq dk_Policy_maskedRegister 18 rfl) ?_
        refine ww_geti C ko_Instruction 5 (kc_Reader_0 _ (kc_Policy_2 _ ho_v0)) (lt_ rfl) g_1_99 rfl rfl (dq dk_Policy_maskedRegister 19 rfl) ?_
        refine ww_bipush C (dq dk_Policy_maskedRegister 20 rfl) bp_m16 ?_
        refine ww_icmp_ne C 51 (dq dk_Policy_maskedRegister 21 rfl) (by decide) h (fun h => ?_) (fun h => ?_)
        · refine ww_iconst C (dq dk_Policy_maskedRegister 24 rfl) ic_0 ?_
          refine ww_istore_n C [(3, .int 0), (2, .ref (ad k (ch (ch v0 2) 0))), (0, .ref (ad k v0)), (1, .int v1)] rfl hnL (lt_ rfl) rfl (dq dk_Policy_maskedRegister 25 rfl) ?_
          refine ww_iload_n C 0 rfl rfl (dq dk_Policy_maskedRegister 26 rfl) ?_
          refine ww_if_eq C 64 (dq dk_Policy_maskedRegister 27 rfl) (by decide) (ift (by decide) h) (fun h => ?_) (fun h => by cases h)
          refine ww_iconst C (dq dk_Policy_maskedRegister 31 rfl) ic_m1 ?_
          exact ww_iret C hR (dq dk_Policy_maskedRegister 32 rfl) h
        · refine ww_iconst C (dq dk_Policy_maskedRegister 22 rfl) ic_1 ?_
          refine ww_goto C 52 (dq dk_Policy_maskedRegister 23 rfl) (by decide) ?_
          refine ww_istore_n C [(3, .int 1), (2, .ref (ad k (ch (ch v0 2) 0))), (0, .ref (ad k v0)), (1, .int v1)] rfl hnL (lt_ rfl) rfl (dq dk_Policy_maskedRegister 25 rfl) ?_
          refine ww_iload_n C 0 rfl rfl (dq dk_Policy_maskedRegister 26 rfl) ?_
          refine ww_if_eq C 64 (dq dk_Policy_maskedRegister 27 rfl) (by decide) (ifn (by decide) h) (fun h => by cases h) (fun h => ?_)
          refine ww_aload_n C 1 rfl rfl (dq dk_Policy_maskedRegister 28 rfl) ?_
          refine ww_geti C ko_Instruction 2 (kc_Reader_0 _ (kc_Policy_2 _ ho_v0)) (lt_ rfl) g_1_84 rfl rfl (dq dk_Policy_maskedRegister 29 rfl) ?_
          refine ww_goto C 65 (dq dk_Policy_maskedRegister 30 rfl) (by decide) ?_
          exact ww_iret C hR (dq dk_Policy_maskedRegister 32 rfl) h
abbrev y_Policy_bundleFault : MethodName := ⟨"BundleHouse$Policy", "bundleFault", "(I)I"⟩
def dl_Policy_bundleFault : List (Nat × Instr × Nat) := [(0, .iload_n 1, 1), (1, .istore_n 2, 1), (2, .iconst (-1), 1), (3, .istore_n 3, 1), (4, .iconst 0, 1), (5, .istore 4, 2), (7, .iload 4, 2), (9, .bipush 16, 2), (11, .if_icmp .ge 131, 3), (14, .iload_n 2, 1), (15, .iload_n 1, 1), (16, .bipush 16, 2), (18, .iadd, 1), (19, .if_icmp .ge 123, 3), (22, .aload_n 0, 1), (23, .getfield 24, 3), (26, .iload_n 2, 1), (27, .invokevirtual 44, 3), (30, .ifCond .eq 16, 3), (33, .aload_n 0, 1), (34, .iload_n 2, 1), (35, .iload_n 1, 1), (36, .bipush 16, 2), (38, .iadd, 1), (39, .iload_n 3, 1), (40, .invokevirtual 48, 3), (43, .goto 4, 3), (46, .iconst 2, 1), (47, .istore 5, 2), (49, .iload 5, 2), (51, .ifCond .eq 11, 3), (54, .aload_n 0, 1), (55, .iload_n 2, 1), (56, .putfield 9, 3), (59, .iload 5, 2), (61, .ireturn, 1), (62, .aload_n 0, 1), (63, .getfield 24, 3), (66, .getfield 52, 3), (69, .getfield 56, 3), (72, .bipush 27, 2), (74, .if_icmp .eq 18, 3), (77, .aload_n 0, 1), (78, .getfield 24, 3), (81, .getfield 52, 3), (84, .getfield 56, 3), (87, .bipush 28, 2), (89, .if_icmp .ne 7, 3), (92, .iconst 1, 1), (93, .goto 4, 3), (96, .iconst 0, 1), (97, .istore 6, 2), (99, .aload_n 0, 1), (100, .getfield 15, 3), (103, .iload_n 2, 1), (104, .iload 6, 2), (106, .ifCond .eq 7, 3), (109, .iconst 2, 1), (110, .goto 4, 3), (113, .iconst 1, 1), (114, .invokevirtual 61, 3), (117, .aload_n 0, 1), (118, .iload_n 2, 1), (119, .invokevirtual 65, 3), (122, .istore_n 3, 1), (123, .iload_n 2, 1), (124, .aload_n 0, 1), (125, .getfield 24, 3), (128, .getfield 52, 3), (131, .getfield 68, 3), (134, .iadd, 1), (135, .istore_n 2, 1), (136, .iinc 4 1, 3), (139, .goto (-132), 3), (142, .iconst 0, 1), (143, .ireturn, 1)]
set_option maxRecDepth 100000 in
theorem dk_Policy_bundleFault : ∀ q ∈ dl_Policy_bundleFault, decode prog_7_method_3_code q.1 = .ok q.2 := by decide +kernel
abbrev rm_Policy_bundleFault : Room := { frames := 4, cells := 0, slots := 0, locals := 89 }
theorem cw_Policy_bundleFault : CWV y_Policy_bundleFault prog_7_method_3_code 7 (some .int) 1 := ⟨⟨g_2_231, g_1_3, by decide, by decide, by decide +kernel⟩, g_2_230, gs_1_0⟩
set_option maxHeartbeats 4000000 in
set_option maxRecDepth 100000 in
theorem t_Policy_bundleFault_B114 {k : Cfg} {res : Int32 × St} (C : Cx k prog_7_method_3_code "BundleHouse$Policy") (hR : RI k .int res) (hRm : k.2.2.2.1 = rm_Policy_bundleFault) (hnL : k.2.2.2.2.2.2.2.2.2.2.2.1 = 7) {K7 : Nat → Int32 → Int32 → Int32 → Int32 → St → Option (Int32 × St)} (hK7 : ∀ (v0 : Nat) (v1 : Int32) (v2 : Int32) (v3 : Int32) (v4 : Int32) (ho_v0 : kd v0 = 2) (σ : St), K7 v0 v1 v2 v3 v4 σ = some res → WW k 7 [(0, .ref (ad k v0)), (1, .int v1), (2, .int v2), (3, .int v3), (4, .int v4)] [] σ) (v0 : Nat) (v1 : Int32) (v2 : Int32) (v4 : Int32) (t0 : Nat) (t1 : Int32) (t2 : Int32) (ho_v0 : kd v0 = 2) (ho_t0 : kd t0 = 1) (σ : St) (h : Policy_bundleFault_B114 K7 v0 v1 v2 v4 t0 t1 t2 σ = some res) : WW k 114 [(0, .ref (ad k v0)), (1, .int v1), (2, .int v2), (4, .int v4)] [.int t2, .int t1, .ref (ad k t0)] σ := by
  unfold Policy_bundleFault_B114 at h
  refine ww_cVv (st := []) C (c_Strip_mark t0 ho_t0 t1 t2) cw_Strip_mark ho_t0 (lt_ rfl) rfl g_3_55 hRm ⟨⟨rfl, rfl⟩, le_ rfl, le_ rfl⟩ rfl rfl rfl (le_ rfl) (dq dk_Policy_bundleFault 60 rfl) h (fun σ1 h => ?_)
  refine ww_aload_n C 0 rfl rfl (dq dk_Policy_bundleFault 61 rfl) ?_
  refine ww_iload_n C 2 rfl rfl (dq dk_Policy_bundleFault 62 rfl) ?_
  refine ww_cVi (st := []) C (c_Policy_maskedRegister v0 ho_v0 v2) cw_Policy_maskedRegister ho_v0 (lt_ rfl) rfl g_3_59 hRm ⟨⟨rfl, rfl⟩, le_ rfl, le_ rfl⟩ rfl rfl rfl (le_ rfl) (dq dk_Policy_bundleFault 63 rfl) h (fun x3 σ2 h => ?_)
  refine ww_istore_n C [(3, .int x3), (0, .ref (ad k v0)), (1, .int v1), (2, .int v2), (4, .int v4)] rfl hnL (lt_ rfl) rfl (dq dk_Policy_bundleFault 64 rfl) ?_
  refine ww_iload_n C 3 rfl rfl (dq dk_Policy_bundleFault 65 rfl) ?_
  refine ww_aload_n C 1 rfl rfl (dq dk_Policy_bundleFault 66 rfl) ?_
  refine ww_getr C ko_Policy 2 ho_v0 (lt_ rfl) g_1_159 rfl rfl (dq dk_Policy_bundleFault 67 rfl) ?_
  refine ww_getr C ko_Reader 0 (kc_Policy_2 _ ho_v0) (lt_ rfl) g_1_123 rfl rfl (dq dk_Policy_bundleFault 68 rfl) ?_
  refine ww_geti C ko_Instruction 6 (kc_Reader_0 _ (kc_Policy_2 _ ho_v0)) (lt_ rfl) g_1_104 rfl rfl (dq dk_Policy_bundleFault 69 rfl) ?_
  refine ww_iadd C (dq dk_Policy_bundleFault 70 rfl) ?_
  refine ww_nmi h (fun x4 h => ?_)
  refine ww_istore_n C [(2, .int x4), (3, .int x3), (0, .ref (ad k v0)), (1, .int v1), (4, .int v4)] rfl hnL (lt_ rfl) rfl (dq dk_Policy_bundleFault 71 rfl) ?_
  refine ww_iinc C 4 (fun z => [(4, .int z), (2, .int x4), (3, .int x3), (0, .ref (ad k v0)), (1, .int v1)]) rfl ic_1 hnL (lt_ rfl) (fun _ => rfl) (dq dk_Policy_bundleFault 72 rfl) h (fun x5 h => ?_)
  refine ww_goto C 7 (dq dk_Policy_bundleFault 73 rfl) (by decide) ?_
  exact ww_lv [3, 4, 1, 2, 0] rfl (hK7 v0 v1 x4 x3 x5 ho_v0 σ2 h)
set_option maxHeartbeats 4000000 in
set_option maxRecDepth 100000 in
theorem t_Policy_bundleFault_B97 {k : Cfg} {res : Int32 × St} (C : Cx k prog_7_method_3_code "BundleHouse$Policy") (hR : RI k .int res) (hRm : k.2.2.2.1 = rm_Policy_bundleFault) (hnL : k.2.2.2.2.2.2.2.2.2.2.2.1 = 7) {K7 : Nat → Int32 → Int32 → Int32 → Int32 → St → Option (Int32 × St)} (hK7 : ∀ (v0 : Nat) (v1 : Int32) (v2 : Int32) (v3 : Int32) (v4 : Int32) (ho_v0 : kd v0 = 2) (σ : St), K7 v0 v1 v2 v3 v4 σ = some res → WW k 7 [(0, .ref (ad k v0)), (1, .int v1), (2, .int v2), (3, .int v3), (4, .int v4)] [] σ) (v0 : Nat) (v1 : Int32) (v2 : Int32) (v4 : Int32) (t0 : Int32) (ho_v0 : kd v0 = 2) (σ : St) (h : Policy_bundleFault_B97 K7 v0 v1 v2 v4 t0 σ = some res) : WW k 97 [(0, .ref (ad k v0)), (1, .int v1), (2, .int v2), (4, .int v4)] [.int t0] σ := by
  unfold Policy_bundleFault_B97 at h
  refine ww_istore C [(6, .int t0), (0, .ref (ad k v0)), (1, .int v1), (2, .int v2), (4, .int v4)] hnL (lt_ rfl) rfl (dq dk_Policy_bundleFault 51 rfl) ?_
  refine ww_aload_n C 1 rfl rfl (dq dk_Policy_bundleFault 52 rfl) ?_
  refine ww_getr C ko_Policy 1 ho_v0 (lt_ rfl) g_1_158 rfl rfl (dq dk_Policy_bundleFault 53 rfl) ?_
  refine ww_iload_n C 3 rfl rfl (dq dk_Policy_bundleFault 54 rfl) ?_
  refine ww_iload C 0 rfl (dq dk_Policy_bundleFault 55 rfl) ?_
  refine ww_if_eq C 113 (dq dk_Policy_bundleFault 56 rfl) (by decide) h (fun h => ?_) (fun h => ?_)
  · refine ww_iconst C (dq dk_Policy_bundleFault 59 rfl) ic_1 ?_
    exact ww_lv [1, 2, 3, 4] rfl (t_Policy_bundleFault_B114 C hR hRm hnL hK7 v0 v1 v2 v4 (ch v0 1) v2 1 ho_v0 (kc_Policy_1 _ ho_v0) σ h)
  · refine ww_iconst C (dq dk_Policy_bundleFault 57 rfl) ic_2 ?_
    refine ww_goto C 114 (dq dk_Policy_bundleFault 58 rfl) (by decide) ?_
    exact ww_lv [1, 2, 3, 4] rfl (t_Policy_bundleFault_B114 C hR hRm hnL hK7 v0 v1 v2 v4 (ch v0 1) v2 2 ho_v0 (kc_Policy_1 _ ho_v0) σ h)
set_option maxHeartbeats 4000000 in
set_option maxRecDepth 100000 in
theorem t_Policy_bundleFault_B47 {k : Cfg} {res : Int32 × St} (C : Cx k prog_7_method_3_code "BundleHouse$Policy") (hR : RI k .int res) (hRm : k.2.2.2.1 = rm_Policy_bundleFault) (hnL : k.2.2.2.2.2.2.2.2.2.2.2.1 = 7) {K7 : Nat → Int32 → Int32 → Int32 → Int32 → St → Option (Int32 × St)} (hK7 : ∀ (v0 : Nat) (v1 : Int32) (v2 : Int32) (v3 : Int32) (v4 : Int32) (ho_v0 : kd v0 = 2) (σ : St), K7 v0 v1 v2 v3 v4 σ = some res → WW k 7 [(0, .ref (ad k v0)), (1, .int v1), (2, .int v2), (3, .int v3), (4, .int v4)] [] σ) (v0 : Nat) (v1 : Int32) (v2 : Int32) (v4 : Int32) (t0 : Int32) (ho_v0 : kd v0 = 2) (σ : St) (h : Policy_bundleFault_B47 K7 v0 v1 v2 v4 t0 σ = some res) : WW k 47 [(0, .ref (ad k v0)), (1, .int v1), (2, .int v2), (4, .int v4)] [.int t0] σ := by
  unfold Policy_bundleFault_B47 at h
  refine ww_istore C [(5, .int t0), (0, .ref (ad k v0)), (1, .int v1), (2, .int v2), (4, .int v4)] hnL (lt_ rfl) rfl (dq dk_Policy_bundleFault 28 rfl) ?_
  refine ww_iload C 0 rfl (dq dk_Policy_bundleFault 29 rfl) ?_
  refine ww_if_eq C 62 (dq dk_Policy_bundleFault 30 rfl) (by decide) h (fun h => ?_) (fun h => ?_)
  · refine ww_aload_n C 1 rfl rfl (dq dk_Policy_bundleFault 36 rfl) ?_
    refine ww_getr C ko_Policy 2 ho_v0 (lt_ rfl) g_1_159 rfl rfl (dq dk_Policy_bundleFault 37 rfl) ?_
    refine ww_getr C ko_Reader 0 (kc_Policy_2 _ ho_v0) (lt_ rfl) g_1_123 rfl rfl (dq dk_Policy_bundleFault 38 rfl) ?_
    refine ww_geti C ko_Instruction 0 (kc_Reader_0 _ (kc_Policy_2 _ ho_v0)) (lt_ rfl) g_1_71 rfl rfl (dq dk_Policy_bundleFault 39 rfl) ?_
    refine ww_bipush C (dq dk_Policy_bundleFault 40 rfl) bp_27 ?_
    refine ww_icmp_eq C 92 (dq dk_Policy_bundleFault 41 rfl) (by decide) h (fun h => ?_) (fun h => ?_)
    · refine ww_iconst C (dq dk_Policy_bundleFault 48 rfl) ic_1 ?_
      refine ww_goto C 97 (dq dk_Policy_bundleFault 49 rfl) (by decide) ?_
      exact ww_lv [1, 2, 3, 4] rfl (t_Policy_bundleFault_B97 C hR hRm hnL hK7 v0 v1 v2 v4 1 ho_v0 σ h)
    · refine ww_aload_n C 1 rfl rfl (dq dk_Policy_bundleFault 42 rfl) ?_
      refine ww_getr C ko_Policy 2 ho_v0 (lt_ rfl) g_1_159 rfl rfl (dq dk_Policy_bundleFault 43 rfl) ?_
      refine ww_getr C ko_Reader 0 (kc_Policy_2 _ ho_v0) (lt_ rfl) g_1_123 rfl rfl (dq dk_Policy_bundleFault 44 rfl) ?_
      refine ww_geti C ko_Instruction 0 (kc_Reader_0 _ (kc_Policy_2 _ ho_v0)) (lt_ rfl) g_1_71 rfl rfl (dq dk_Policy_bundleFault 45 rfl) ?_
      refine ww_bipush C (dq dk_Policy_bundleFault 46 rfl) bp_28 ?_
      refine ww_icmp_ne C 96 (dq dk_Policy_bundleFault 47 rfl) (by decide) h (fun h => ?_) (fun h => ?_)
      · refine ww_iconst C (dq dk_Policy_bundleFault 50 rfl) ic_0 ?_
        exact ww_lv [1, 2, 3, 4] rfl (t_Policy_bundleFault_B97 C hR hRm hnL hK7 v0 v1 v2 v4 0 ho_v0 σ h)
      · refine ww_iconst C (dq dk_Policy_bundleFault 48 rfl) ic_1 ?_
        refine ww_goto C 97 (dq dk_Policy_bundleFault 49 rfl) (by decide) ?_
        exact ww_lv [1, 2, 3, 4] rfl (t_Policy_bundleFault_B97 C hR hRm hnL hK7 v0 v1 v2 v4 1 ho_v0 σ h)
  · refine ww_aload_n C 1 rfl rfl (dq dk_Policy_bundleFault 31 rfl) ?_
    refine ww_iload_n C 3 rfl rfl (dq dk_Policy_bundleFault 32 rfl) ?_
    refine ww_puti C ko_Policy 0 ho_v0 (lt_ rfl) g_1_156 rfl rfl rfl rfl (dq dk_Policy_bundleFault 33 rfl) h (fun σ1 h => ?_)
    refine ww_iload C 0 rfl (dq dk_Policy_bundleFault 34 rfl) ?_
    exact ww_iret C hR (dq dk_Policy_bundleFault 35 rfl) h
set_option maxHeartbeats 4000000 in
set_option maxRecDepth 100000 in
theorem t_Policy_bundleFault_B7 {k : Cfg} {res : Int32 × St} (C : Cx k prog_7_method_3_code "BundleHouse$Policy") (hR : RI k .int res) (hRm : k.2.2.2.1 = rm_Policy_bundleFault) (hnL : k.2.2.2.2.2.2.2.2.2.2.2.1 = 7) : ∀ (n : Nat) (v0 : Nat) (v1 : Int32) (v2 : Int32) (v3 : Int32) (v4 : Int32) (ho_v0 : kd v0 = 2) (σ : St), Policy_bundleFault_B7 n v0 v1 v2 v3 v4 σ = some res → WW k 7 [(0, .ref (ad k v0)), (1, .int v1), (2, .int v2), (3, .int v3), (4, .int v4)] [] σ := by
  intro n
  induction n with
  | zero =>
    intro v0 v1 v2 v3 v4 ho_v0 σ h
    have h : (none : Option (Int32 × St)) = some res := h
    cases h
  | succ n ih =>
    intro v0 v1 v2 v3 v4 ho_v0 σ h
    unfold Policy_bundleFault_B7 at h
    refine ww_iload C 4 rfl (dq dk_Policy_bundleFault 6 rfl) ?_
    refine ww_bipush C (dq dk_Policy_bundleFault 7 rfl) bp_16 ?_
    refine ww_icmp_ge C 142 (dq dk_Policy_bundleFault 8 rfl) (by decide) h (fun h => ?_) (fun h => ?_)
    · refine ww_iconst C (dq dk_Policy_bundleFault 74 rfl) ic_0 ?_
      exact ww_iret C hR (dq dk_Policy_bundleFault 75 rfl) h
    · refine ww_iload_n C 2 rfl rfl (dq dk_Policy_bundleFault 9 rfl) ?_
      refine ww_iload_n C 1 rfl rfl (dq dk_Policy_bundleFault 10 rfl) ?_
      refine ww_bipush C (dq dk_Policy_bundleFault 11 rfl) bp_16 ?_
      refine ww_iadd C (dq dk_Policy_bundleFault 12 rfl) ?_
      refine ww_icmp_ge C 142 (dq dk_Policy_bundleFault 13 rfl) (by decide) h (fun h => ?_) (fun h => ?_)
      · refine ww_iconst C (dq dk_Policy_bundleFault 74 rfl) ic_0 ?_
        exact ww_iret C hR (dq dk_Policy_bundleFault 75 rfl) h
      · refine ww_aload_n C 0 rfl rfl (dq dk_Policy_bundleFault 14 rfl) ?_
        refine ww_getr C ko_Policy 2 ho_v0 (lt_ rfl) g_1_159 rfl rfl (dq dk_Policy_bundleFault 15 rfl) ?_
        refine ww_iload_n C 2 rfl rfl (dq dk_Policy_bundleFault 16 rfl) ?_
        refine ww_cVi (st := []) C (c_Reader_read (ch v0 2) (kc_Policy_2 _ ho_v0) v2) cw_Reader_read (kc_Policy_2 _ ho_v0) (lt_ rfl) rfl g_2_232 hRm ⟨⟨rfl, rfl⟩, le_ rfl, le_ rfl⟩ rfl rfl rfl (le_ rfl) (dq dk_Policy_bundleFault 17 rfl) h (fun x2 σ1 h => ?_)
        refine ww_if_eq C 46 (dq dk_Policy_bundleFault 18 rfl) (by decide) h (fun h => ?_) (fun h => ?_)
        · refine ww_iconst C (dq dk_Policy_bundleFault 27 rfl) ic_2 ?_
          exact ww_lv [0, 1, 2, 4] rfl (t_Policy_bundleFault_B47 C hR hRm hnL ih v0 v1 v2 v4 2 ho_v0 σ1 h)
        · refine ww_aload_n C 0 rfl rfl (dq dk_Policy_bundleFault 19 rfl) ?_
          refine ww_iload_n C 2 rfl rfl (dq dk_Policy_bundleFault 20 rfl) ?_
          refine ww_iload_n C 1 rfl rfl (dq dk_Policy_bundleFault 21 rfl) ?_
          refine ww_bipush C (dq dk_Policy_bundleFault 22 rfl) bp_16 ?_
          refine ww_iadd C (dq dk_Policy_bundleFault 23 rfl) ?_
          refine ww_iload_n C 3 rfl rfl (dq dk_Policy_bundleFault 24 rfl) ?_
          refine ww_cVi (st := []) C (c_Policy_faultOfFound v0 ho_v0 v2 (v1 + 16) v3) cw_Policy_faultOfFound ho_v0 (lt_ rfl) rfl g_3_51 hRm ⟨⟨rfl, rfl⟩, le_ rfl, le_ rfl⟩ rfl rfl rfl (le_ rfl) (dq dk_Policy_bundleFault 25 rfl) h (fun x4 σ3 h => ?_)
          refine ww_goto C 47 (dq dk_Policy_bundleFault 26 rfl) (by decide) ?_
          exact ww_lv [0, 1, 2, 4] rfl (t_Policy_bundleFault_B47 C hR hRm hnL ih v0 v1 v2 v4 x4 ho_v0 σ3 h)
set_option maxHeartbeats 4000000 in
set_option maxRecDepth 100000 in
theorem c_Policy_bundleFault (v0 : Nat) (ho_v0 : kd v0 = 2) (v1 : Int32) : MI y_Policy_bundleFault rm_Policy_bundleFault prog_7_method_3_code 7 .int (fun a => [.ref (a v0), .int v1]) (Policy_bundleFault v0 v1) := by
  refine mi_of (by decide) (fun _ => le_ rfl) ?_
  intro k res σ C hR hRm hnL h
  unfold Policy_bundleFault at h
  show WW k 0 [(0, .ref (ad k v0)), (1, .int v1)] [] σ
  refine ww_iload_n C 1 rfl rfl (dq dk_Policy_bundleFault 0 rfl) ?_
  refine ww_istore_n C [(2, .int v1), (0, .ref (ad k v0)), (1, .int v1)] rfl hnL (lt_ rfl) rfl (dq dk_Policy_bundleFault 1 rfl) ?_
  refine ww_iconst C (dq dk_Policy_bundleFault 2 rfl) ic_m1 ?_
  refine ww_istore_n C [(3, .int (-1)), (2, .int v1), (0, .ref (ad k v0)), (1, .int v1)] rfl hnL (lt_ rfl) rfl (dq dk_Policy_bundleFault 3 rfl) ?_
  refine ww_iconst C (dq dk_Policy_bundleFault 4 rfl) ic_0 ?_
  refine ww_istore C [(4, .int 0), (3, .int (-1)), (2, .int v1), (0, .ref (ad k v0)), (1, .int v1)] hnL (lt_ rfl) rfl (dq dk_Policy_bundleFault 5 rfl) ?_
  exact ww_lv [3, 4, 2, 1, 0] rfl (t_Policy_bundleFault_B7 C hR hRm hnL FU v0 v1 v1 (-1) 0 ho_v0 σ h)
abbrev y_House_isService : MethodName := ⟨"BundleHouse", "isService", "(I)Z"⟩
def dl_House_isService : List (Nat × Instr × Nat) := [(0, .iload_n 0, 1), (1, .ifCond .lt 20, 3), (4, .iload_n 0, 1), (5, .bipush 48, 2), (7, .if_icmp .gt 14, 3), (10, .iload_n 0, 1), (11, .bipush 16, 2), (13, .irem, 1), (14, .ifCond .ne 7, 3), (17, .iconst 1, 1), (18, .goto 4, 3), (21, .iconst 0, 1), (22, .ireturn, 1)]
set_option maxRecDepth 100000 in
theorem dk_House_isService : ∀ q ∈ dl_House_isService, decode prog_1_method_30_code q.1 = .ok q.2 := by decide +kernel
abbrev rm_House_isService : Room := { frames := 0, cells := 0, slots := 0, locals := 0 }
theorem cw_House_isService : CWS y_House_isService prog_1_method_30_code 1 (some .boolean) 1 := ⟨⟨g_3_81, g_1_1, by decide, by decide, by decide +kernel⟩, g_3_80⟩
set_option maxHeartbeats 4000000 in
set_option maxRecDepth 100000 in
theorem c_House_isService (v0 : Int32) : MI y_House_isService rm_House_isService prog_1_method_30_code 1 .boolean (fun a => [.int v0]) (House_isService v0) := by
  refine mi_of (by decide) (fun _ => le_ rfl) ?_
  intro k res σ C hR hRm hnL h
  unfold House_isService at h
  show WW k 0 [(0, .int v0)] [] σ
  refine ww_iload_n C 0 rfl rfl (dq dk_House_isService 0 rfl) ?_
  refine ww_if_lt C 21 (dq dk_House_isService 1 rfl) (by decide) h (fun h => ?_) (fun h => ?_)
  · refine ww_iconst C (dq dk_House_isService 11 rfl) ic_0 ?_
    exact ww_zretL C hR (dq dk_House_isService 12 rfl) (Or.inl rfl) h
  · refine ww_iload_n C 0 rfl rfl (dq dk_House_isService 2 rfl) ?_
    refine ww_bipush C (dq dk_House_isService 3 rfl) bp_48 ?_
    refine ww_icmp_gt C 21 (dq dk_House_isService 4 rfl) (by decide) h (fun h => ?_) (fun h => ?_)
    · refine ww_iconst C (dq dk_House_isService 11 rfl) ic_0 ?_
      exact ww_zretL C hR (dq dk_House_isService 12 rfl) (Or.inl rfl) h
    · refine ww_iload_n C 0 rfl rfl (dq dk_House_isService 5 rfl) ?_
      refine ww_bipush C (dq dk_House_isService 6 rfl) bp_16 ?_
      refine ww_irem C (by decide) (dq dk_House_isService 7 rfl) ?_
      refine ww_if_ne C 21 (dq dk_House_isService 8 rfl) (by decide) h (fun h => ?_) (fun h => ?_)
      · refine ww_iconst C (dq dk_House_isService 11 rfl) ic_0 ?_
        exact ww_zretL C hR (dq dk_House_isService 12 rfl) (Or.inl rfl) h
      · refine ww_iconst C (dq dk_House_isService 9 rfl) ic_1 ?_
        refine ww_goto C 22 (dq dk_House_isService 10 rfl) (by decide) ?_
        exact ww_zretL C hR (dq dk_House_isService 12 rfl) (Or.inr rfl) h
abbrev y_Policy_isAstray : MethodName := ⟨"BundleHouse$Policy", "isAstray", "(I)Z"⟩
def dl_Policy_isAstray : List (Nat × Instr × Nat) := [(0, .aload_n 0, 1), (1, .getfield 24, 3), (4, .getfield 52, 3), (7, .getfield 56, 3), (10, .istore_n 2, 1), (11, .iload_n 2, 1), (12, .bipush 24, 2), (14, .if_icmp .eq 17, 3), (17, .iload_n 2, 1), (18, .bipush 25, 2), (20, .if_icmp .eq 11, 3), (23, .iload_n 2, 1), (24, .bipush 26, 2), (26, .if_icmp .eq 5, 3), (29, .iconst 0, 1), (30, .ireturn, 1), (31, .sipush 256, 3), (34, .iload_n 1, 1), (35, .iadd, 1), (36, .aload_n 0, 1), (37, .getfield 24, 3), (40, .getfield 52, 3), (43, .getfield 68, 3), (46, .iadd, 1), (47, .aload_n 0, 1), (48, .getfield 24, 3), (51, .getfield 52, 3), (54, .getfield 80, 3), (57, .iadd, 1), (58, .istore_n 3, 1), (59, .iload_n 3, 1), (60, .invokestatic 89, 3), (63, .ifCond .ne 23, 3), (66, .aload_n 0, 1), (67, .getfield 15, 3), (70, .iload_n 3, 1), (71, .sipush 256, 3), (74, .isub, 1), (75, .invokevirtual 83, 3), (78, .iconst 1, 1), (79, .if_icmp .eq 7, 3), (82, .iconst 1, 1), (83, .goto 4, 3), (86, .iconst 0, 1), (87, .ireturn, 1)]
set_option maxRecDepth 100000 in
theorem dk_Policy_isAstray : ∀ q ∈ dl_Policy_isAstray, decode prog_7_method_7_code q.1 = .ok q.2 := by decide +kernel
abbrev rm_Policy_isAstray : Room := { frames := 1, cells := 0, slots := 0, locals := 21 }
theorem cw_Policy_isAstray : CWV y_Policy_isAstray prog_7_method_7_code 4 (some .boolean) 1 := ⟨⟨g_3_78, g_1_3, by decide, by decide, by decide +kernel⟩, g_3_77, gs_2_0⟩
set_option maxHeartbeats 4000000 in
set_option maxRecDepth 100000 in
theorem t_Policy_isAstray_B31 {k : Cfg} {res : Int32 × St} (C : Cx k prog_7_method_7_code "BundleHouse$Policy") (hR : RI k .boolean res) (hRm : k.2.2.2.1 = rm_Policy_isAstray) (hnL : k.2.2.2.2.2.2.2.2.2.2.2.1 = 4) (v0 : Nat) (v1 : Int32) (ho_v0 : kd v0 = 2) (σ : St) (h : Policy_isAstray_B31 v0 v1 σ = some res) : WW k 31 [(0, .ref (ad k v0)), (1, .int v1)] [] σ := by
  unfold Policy_isAstray_B31 at h
  refine ww_sipush C (dq dk_Policy_isAstray 16 rfl) sp_256 ?_
  refine ww_iload_n C 1 rfl rfl (dq dk_Policy_isAstray 17 rfl) ?_
  refine ww_iadd C (dq dk_Policy_isAstray 18 rfl) ?_
  refine ww_aload_n C 0 rfl rfl (dq dk_Policy_isAstray 19 rfl) ?_
  refine ww_getr C ko_Policy 2 ho_v0 (lt_ rfl) g_1_159 rfl rfl (dq dk_Policy_isAstray 20 rfl) ?_
  refine ww_getr C ko_Reader 0 (kc_Policy_2 _ ho_v0) (lt_ rfl) g_1_123 rfl rfl (dq dk_Policy_isAstray 21 rfl) ?_
  refine ww_geti C ko_Instruction 6 (kc_Reader_0 _ (kc_Policy_2 _ ho_v0)) (lt_ rfl) g_1_104 rfl rfl (dq dk_Policy_isAstray 22 rfl) ?_
  refine ww_iadd C (dq dk_Policy_isAstray 23 rfl) ?_
  refine ww_aload_n C 0 rfl rfl (dq dk_Policy_isAstray 24 rfl) ?_
  refine ww_getr C ko_Policy 2 ho_v0 (lt_ rfl) g_1_159 rfl rfl (dq dk_Policy_isAstray 25 rfl) ?_
  refine ww_getr C ko_Reader 0 (kc_Policy_2 _ ho_v0) (lt_ rfl) g_1_123 rfl rfl (dq dk_Policy_isAstray 26 rfl) ?_
  refine ww_geti C ko_Instruction 5 (kc_Reader_0 _ (kc_Policy_2 _ ho_v0)) (lt_ rfl) g_1_99 rfl rfl (dq dk_Policy_isAstray 27 rfl) ?_
  refine ww_iadd C (dq dk_Policy_isAstray 28 rfl) ?_
  refine ww_nmi h (fun x1 h => ?_)
  refine ww_istore_n C [(3, .int x1), (0, .ref (ad k v0)), (1, .int v1)] rfl hnL (lt_ rfl) rfl (dq dk_Policy_isAstray 29 rfl) ?_
  refine ww_iload_n C 0 rfl rfl (dq dk_Policy_isAstray 30 rfl) ?_
  refine ww_cNi (st := []) C (c_House_isService x1) cw_House_isService nw_9 hRm ⟨⟨rfl, rfl⟩, le_ rfl, le_ rfl⟩ rfl rfl rfl (le_ rfl) (dq dk_Policy_isAstray 31 rfl) h (fun x3 σ2 h => ?_)
  refine ww_if_ne C 86 (dq dk_Policy_isAstray 32 rfl) (by decide) h (fun h => ?_) (fun h => ?_)
  · refine ww_iconst C (dq dk_Policy_isAstray 43 rfl) ic_0 ?_
    exact ww_zretL C hR (dq dk_Policy_isAstray 44 rfl) (Or.inl rfl) h
  · refine ww_aload_n C 1 rfl rfl (dq dk_Policy_isAstray 33 rfl) ?_
    refine ww_getr C ko_Policy 1 ho_v0 (lt_ rfl) g_1_158 rfl rfl (dq dk_Policy_isAstray 34 rfl) ?_
    refine ww_iload_n C 0 rfl rfl (dq dk_Policy_isAstray 35 rfl) ?_
    refine ww_sipush C (dq dk_Policy_isAstray 36 rfl) sp_256 ?_
    refine ww_isub C (dq dk_Policy_isAstray 37 rfl) ?_
    refine ww_cVi (st := []) C (c_Strip_markAt (ch v0 1) (kc_Policy_1 _ ho_v0) (x1 - 256)) cw_Strip_markAt (kc_Policy_1 _ ho_v0) (lt_ rfl) rfl g_3_71 hRm ⟨⟨rfl, rfl⟩, le_ rfl, le_ rfl⟩ rfl rfl rfl (le_ rfl) (dq dk_Policy_isAstray 38 rfl) h (fun x5 σ4 h => ?_)
    refine ww_iconst C (dq dk_Policy_isAstray 39 rfl) ic_1 ?_
    refine ww_icmp_eq C 86 (dq dk_Policy_isAstray 40 rfl) (by decide) h (fun h => ?_) (fun h => ?_)
    · refine ww_iconst C (dq dk_Policy_isAstray 43 rfl) ic_0 ?_
      exact ww_zretL C hR (dq dk_Policy_isAstray 44 rfl) (Or.inl rfl) h
    · refine ww_iconst C (dq dk_Policy_isAstray 41 rfl) ic_1 ?_
      refine ww_goto C 87 (dq dk_Policy_isAstray 42 rfl) (by decide) ?_
      exact ww_zretL C hR (dq dk_Policy_isAstray 44 rfl) (Or.inr rfl) h
set_option maxHeartbeats 4000000 in
set_option maxRecDepth 100000 in
theorem c_Policy_isAstray (v0 : Nat) (ho_v0 : kd v0 = 2) (v1 : Int32) : MI y_Policy_isAstray rm_Policy_isAstray prog_7_method_7_code 4 .boolean (fun a => [.ref (a v0), .int v1]) (Policy_isAstray v0 v1) := by
  refine mi_of (by decide) (fun _ => le_ rfl) ?_
  intro k res σ C hR hRm hnL h
  unfold Policy_isAstray at h
  show WW k 0 [(0, .ref (ad k v0)), (1, .int v1)] [] σ
  refine ww_aload_n C 0 rfl rfl (dq dk_Policy_isAstray 0 rfl) ?_
  refine ww_getr C ko_Policy 2 ho_v0 (lt_ rfl) g_1_159 rfl rfl (dq dk_Policy_isAstray 1 rfl) ?_
  refine ww_getr C ko_Reader 0 (kc_Policy_2 _ ho_v0) (lt_ rfl) g_1_123 rfl rfl (dq dk_Policy_isAstray 2 rfl) ?_
  refine ww_geti C ko_Instruction 0 (kc_Reader_0 _ (kc_Policy_2 _ ho_v0)) (lt_ rfl) g_1_71 rfl rfl (dq dk_Policy_isAstray 3 rfl) ?_
  refine ww_nmi h (fun x1 h => ?_)
  refine ww_istore_n C [(2, .int x1), (0, .ref (ad k v0)), (1, .int v1)] rfl hnL (lt_ rfl) rfl (dq dk_Policy_isAstray 4 rfl) ?_
  refine ww_iload_n C 0 rfl rfl (dq dk_Policy_isAstray 5 rfl) ?_
  refine ww_bipush C (dq dk_Policy_isAstray 6 rfl) bp_24 ?_
  refine ww_icmp_eq C 31 (dq dk_Policy_isAstray 7 rfl) (by decide) h (fun h => ?_) (fun h => ?_)
  · exact ww_lv [1, 2] rfl (t_Policy_isAstray_B31 C hR hRm hnL v0 v1 ho_v0 σ h)
  · refine ww_iload_n C 0 rfl rfl (dq dk_Policy_isAstray 8 rfl) ?_
    refine ww_bipush C (dq dk_Policy_isAstray 9 rfl) bp_25 ?_
    refine ww_icmp_eq C 31 (dq dk_Policy_isAstray 10 rfl) (by decide) h (fun h => ?_) (fun h => ?_)
    · exact ww_lv [1, 2] rfl (t_Policy_isAstray_B31 C hR hRm hnL v0 v1 ho_v0 σ h)
    · refine ww_iload_n C 0 rfl rfl (dq dk_Policy_isAstray 11 rfl) ?_
      refine ww_bipush C (dq dk_Policy_isAstray 12 rfl) bp_26 ?_
      refine ww_icmp_eq C 31 (dq dk_Policy_isAstray 13 rfl) (by decide) h (fun h => ?_) (fun h => ?_)
      · exact ww_lv [1, 2] rfl (t_Policy_isAstray_B31 C hR hRm hnL v0 v1 ho_v0 σ h)
      · refine ww_iconst C (dq dk_Policy_isAstray 14 rfl) ic_0 ?_
        exact ww_zretL C hR (dq dk_Policy_isAstray 15 rfl) (Or.inl rfl) h
abbrev y_Policy_targetFault : MethodName := ⟨"BundleHouse$Policy", "targetFault", "()I"⟩
def dl_Policy_targetFault : List (Nat × Instr × Nat) := [(0, .iconst 0, 1), (1, .istore_n 1, 1), (2, .iload_n 1, 1), (3, .aload_n 0, 1), (4, .getfield 15, 3), (7, .getfield 28, 3), (10, .if_icmp .ge 47, 3), (13, .aload_n 0, 1), (14, .getfield 15, 3), (17, .iload_n 1, 1), (18, .invokevirtual 83, 3), (21, .ifCond .eq 30, 3), (24, .aload_n 0, 1), (25, .getfield 24, 3), (28, .iload_n 1, 1), (29, .invokevirtual 44, 3), (32, .ifCond .eq 19, 3), (35, .aload_n 0, 1), (36, .iload_n 1, 1), (37, .invokevirtual 86, 3), (40, .ifCond .eq 11, 3), (43, .aload_n 0, 1), (44, .iload_n 1, 1), (45, .putfield 9, 3), (48, .bipush 6, 2), (50, .ireturn, 1), (51, .iinc 1 1, 3), (54, .goto (-52), 3), (57, .iconst 0, 1), (58, .ireturn, 1)]
set_option maxRecDepth 100000 in
theorem dk_Policy_targetFault : ∀ q ∈ dl_Policy_targetFault, decode prog_7_method_6_code q.1 = .ok q.2 := by decide +kernel
abbrev rm_Policy_targetFault : Room := { frames := 4, cells := 0, slots := 0, locals := 89 }
theorem cw_Policy_targetFault : CWV y_Policy_targetFault prog_7_method_6_code 2 (some .int) 0 := ⟨⟨g_3_70, g_1_3, by decide, by decide, by decide +kernel⟩, g_3_69, gs_1_15⟩
set_option maxHeartbeats 4000000 in
set_option maxRecDepth 100000 in
theorem t_Policy_targetFault_B2 {k : Cfg} {res : Int32 × St} (C : Cx k prog_7_method_6_code "BundleHouse$Policy") (hR : RI k .int res) (hRm : k.2.2.2.1 = rm_Policy_targetFault) (hnL : k.2.2.2.2.2.2.2.2.2.2.2.1 = 2) : ∀ (n : Nat) (v0 : Nat) (v1 : Int32) (ho_v0 : kd v0 = 2) (σ : St), Policy_targetFault_B2 n v0 v1 σ = some res → WW k 2 [(0, .ref (ad k v0)), (1, .int v1)] [] σ := by
  intro n
  induction n with
  | zero =>
    intro v0 v1 ho_v0 σ h
    have h : (none : Option (Int32 × St)) = some res := h
    cases h
  | succ n ih =>
    intro v0 v1 ho_v0 σ h
    unfold Policy_targetFault_B2 at h
    refine ww_iload_n C 1 rfl rfl (dq dk_Policy_targetFault 2 rfl) ?_
    refine ww_aload_n C 0 rfl rfl (dq dk_Policy_targetFault 3 rfl) ?_
    refine ww_getr C ko_Policy 1 ho_v0 (lt_ rfl) g_1_158 rfl rfl (dq dk_Policy_targetFault 4 rfl) ?_
    refine ww_geti C ko_Strip 2 (kc_Policy_1 _ ho_v0) (lt_ rfl) g_1_40 rfl rfl (dq dk_Policy_targetFault 5 rfl) ?_
    refine ww_icmp_ge C 57 (dq dk_Policy_targetFault 6 rfl) (by decide) h (fun h => ?_) (fun h => ?_)
    · refine ww_iconst C (dq dk_Policy_targetFault 28 rfl) ic_0 ?_
      exact ww_iret C hR (dq dk_Policy_targetFault 29 rfl) h
    · refine ww_aload_n C 0 rfl rfl (dq dk_Policy_targetFault 7 rfl) ?_
      refine ww_getr C ko_Policy 1 ho_v0 (lt_ rfl) g_1_158 rfl rfl (dq dk_Policy_targetFault 8 rfl) ?_
      refine ww_iload_n C 1 rfl rfl (dq dk_Policy_targetFault 9 rfl) ?_
      refine ww_cVi (st := []) C (c_Strip_markAt (ch v0 1) (kc_Policy_1 _ ho_v0) v1) cw_Strip_markAt (kc_Policy_1 _ ho_v0) (lt_ rfl) rfl g_3_71 hRm ⟨⟨rfl, rfl⟩, le_ rfl, le_ rfl⟩ rfl rfl rfl (le_ rfl) (dq dk_Policy_targetFault 10 rfl) h (fun x2 σ1 h => ?_)
      refine ww_if_eq C 51 (dq dk_Policy_targetFault 11 rfl) (by decide) h (fun h => ?_) (fun h => ?_)
      · refine ww_iinc C 1 (fun z => [(1, .int z), (0, .ref (ad k v0))]) rfl ic_1 hnL (lt_ rfl) (fun _ => rfl) (dq dk_Policy_targetFault 26 rfl) h (fun x3 h => ?_)
        refine ww_goto C 2 (dq dk_Policy_targetFault 27 rfl) (by decide) ?_
        exact ww_lv [1, 0] rfl (ih v0 x3 ho_v0 σ1 h)
      · refine ww_aload_n C 0 rfl rfl (dq dk_Policy_targetFault 12 rfl) ?_
        refine ww_getr C ko_Policy 2 ho_v0 (lt_ rfl) g_1_159 rfl rfl (dq dk_Policy_targetFault 13 rfl) ?_
        refine ww_iload_n C 1 rfl rfl (dq dk_Policy_targetFault 14 rfl) ?_
        refine ww_cVi (st := []) C (c_Reader_read (ch v0 2) (kc_Policy_2 _ ho_v0) v1) cw_Reader_read (kc_Policy_2 _ ho_v0) (lt_ rfl) rfl g_2_232 hRm ⟨⟨rfl, rfl⟩, le_ rfl, le_ rfl⟩ rfl rfl rfl (le_ rfl) (dq dk_Policy_targetFault 15 rfl) h (fun x5 σ4 h => ?_)
        refine ww_if_eq C 51 (dq dk_Policy_targetFault 16 rfl) (by decide) h (fun h => ?_) (fun h => ?_)
        · refine ww_iinc C 1 (fun z => [(1, .int z), (0, .ref (ad k v0))]) rfl ic_1 hnL (lt_ rfl) (fun _ => rfl) (dq dk_Policy_targetFault 26 rfl) h (fun x6 h => ?_)
          refine ww_goto C 2 (dq dk_Policy_targetFault 27 rfl) (by decide) ?_
          exact ww_lv [1, 0] rfl (ih v0 x6 ho_v0 σ4 h)
        · refine ww_aload_n C 0 rfl rfl (dq dk_Policy_targetFault 17 rfl) ?_
          refine ww_iload_n C 1 rfl rfl (dq dk_Policy_targetFault 18 rfl) ?_
          refine ww_cVi (st := []) C (c_Policy_isAstray v0 ho_v0 v1) cw_Policy_isAstray ho_v0 (lt_ rfl) rfl g_3_75 hRm ⟨⟨rfl, rfl⟩, le_ rfl, le_ rfl⟩ rfl rfl rfl (le_ rfl) (dq dk_Policy_targetFault 19 rfl) h (fun x8 σ7 h => ?_)
          refine ww_if_eq C 51 (dq dk_Policy_targetFault 20 rfl) (by decide) h (fun h => ?_) (fun h => ?_)
          · refine ww_iinc C 1 (fun z => [(1, .int z), (0, .ref (ad k v0))]) rfl ic_1 hnL (lt_ rfl) (fun _ => rfl) (dq dk_Policy_targetFault 26 rfl) h (fun x9 h => ?_)
            refine ww_goto C 2 (dq dk_Policy_targetFault 27 rfl) (by decide) ?_
            exact ww_lv [1, 0] rfl (ih v0 x9 ho_v0 σ7 h)
          · refine ww_aload_n C 0 rfl rfl (dq dk_Policy_targetFault 21 rfl) ?_
            refine ww_iload_n C 1 rfl rfl (dq dk_Policy_targetFault 22 rfl) ?_
            refine ww_puti C ko_Policy 0 ho_v0 (lt_ rfl) g_1_156 rfl rfl rfl rfl (dq dk_Policy_targetFault 23 rfl) h (fun σ10 h => ?_)
            refine ww_bipush C (dq dk_Policy_targetFault 24 rfl) bp_6 ?_
            exact ww_iret C hR (dq dk_Policy_targetFault 25 rfl) h
set_option maxHeartbeats 4000000 in
set_option maxRecDepth 100000 in
theorem c_Policy_targetFault (v0 : Nat) (ho_v0 : kd v0 = 2) : MI y_Policy_targetFault rm_Policy_targetFault prog_7_method_6_code 2 .int (fun a => [.ref (a v0)]) (Policy_targetFault v0) := by
  refine mi_of (by decide) (fun _ => le_ rfl) ?_
  intro k res σ C hR hRm hnL h
  unfold Policy_targetFault at h
  show WW k 0 [(0, .ref (ad k v0))] [] σ
  refine ww_iconst C (dq dk_Policy_targetFault 0 rfl) ic_0 ?_
  refine ww_istore_n C [(1, .int 0), (0, .ref (ad k v0))] rfl hnL (lt_ rfl) rfl (dq dk_Policy_targetFault 1 rfl) ?_
  exact ww_lv [1, 0] rfl (t_Policy_targetFault_B2 C hR hRm hnL FU v0 0 ho_v0 σ h)
abbrev y_Policy_findFault : MethodName := ⟨"BundleHouse$Policy", "findFault", "()I"⟩
def dl_Policy_findFault : List (Nat × Instr × Nat) := [(0, .aload_n 0, 1), (1, .getfield 15, 3), (4, .getfield 28, 3), (7, .istore_n 1, 1), (8, .aload_n 0, 1), (9, .iconst (-1), 1), (10, .putfield 9, 3), (13, .iload_n 1, 1), (14, .bipush 16, 2), (16, .if_icmp .lt 17, 3), (19, .iload_n 1, 1), (20, .sipush 1024, 3), (23, .if_icmp .gt 10, 3), (26, .iload_n 1, 1), (27, .bipush 16, 2), (29, .irem, 1), (30, .ifCond .eq 10, 3), (33, .aload_n 0, 1), (34, .iload_n 1, 1), (35, .putfield 9, 3), (38, .iconst 1, 1), (39, .ireturn, 1), (40, .aload_n 0, 1), (41, .getfield 15, 3), (44, .invokevirtual 33, 3), (47, .iconst 0, 1), (48, .istore_n 2, 1), (49, .iload_n 2, 1), (50, .iload_n 1, 1), (51, .if_icmp .ge 21, 3), (54, .aload_n 0, 1), (55, .iload_n 2, 1), (56, .invokevirtual 36, 3), (59, .istore_n 3, 1), (60, .iload_n 3, 1), (61, .ifCond .eq 5, 3), (64, .iload_n 3, 1), (65, .ireturn, 1), (66, .iinc 2 16, 3), (69, .goto (-20), 3), (72, .aload_n 0, 1), (73, .invokevirtual 40, 3), (76, .ireturn, 1)]
set_option maxRecDepth 100000 in
theorem dk_Policy_findFault : ∀ q ∈ dl_Policy_findFault, decode prog_7_method_2_code q.1 = .ok q.2 := by decide +kernel
abbrev rm_Policy_findFault : Room := { frames := 5, cells := 0, slots := 0, locals := 115 }
theorem cw_Policy_findFault : CWV y_Policy_findFault prog_7_method_2_code 4 (some .int) 0 := ⟨⟨g_2_223, g_1_3, by decide, by decide, by decide +kernel⟩, g_2_221, g_2_222⟩
set_option maxHeartbeats 4000000 in
set_option maxRecDepth 100000 in
theorem t_Policy_findFault_B49 {k : Cfg} {res : Int32 × St} (C : Cx k prog_7_method_2_code "BundleHouse$Policy") (hR : RI k .int res) (hRm : k.2.2.2.1 = rm_Policy_findFault) (hnL : k.2.2.2.2.2.2.2.2.2.2.2.1 = 4) : ∀ (n : Nat) (v0 : Nat) (v1 : Int32) (v2 : Int32) (ho_v0 : kd v0 = 2) (σ : St), Policy_findFault_B49 n v0 v1 v2 σ = some res → WW k 49 [(0, .ref (ad k v0)), (1, .int v1), (2, .int v2)] [] σ := by
  intro n
  induction n with
  | zero =>
    intro v0 v1 v2 ho_v0 σ h
    have h : (none : Option (Int32 × St)) = some res := h
    cases h
  | succ n ih =>
    intro v0 v1 v2 ho_v0 σ h
    unfold Policy_findFault_B49 at h
    refine ww_iload_n C 2 rfl rfl (dq dk_Policy_findFault 27 rfl) ?_
    refine ww_iload_n C 1 rfl rfl (dq dk_Policy_findFault 28 rfl) ?_
    refine ww_icmp_ge C 72 (dq dk_Policy_findFault 29 rfl) (by decide) h (fun h => ?_) (fun h => ?_)
    · refine ww_aload_n C 0 rfl rfl (dq dk_Policy_findFault 40 rfl) ?_
      refine ww_cVi (st := []) C (c_Policy_targetFault v0 ho_v0) cw_Policy_targetFault ho_v0 (lt_ rfl) rfl g_3_67 hRm ⟨⟨rfl, rfl⟩, le_ rfl, le_ rfl⟩ rfl rfl rfl (le_ rfl) (dq dk_Policy_findFault 41 rfl) h (fun x2 σ1 h => ?_)
      exact ww_iret C hR (dq dk_Policy_findFault 42 rfl) h
    · refine ww_aload_n C 0 rfl rfl (dq dk_Policy_findFault 30 rfl) ?_
      refine ww_iload_n C 2 rfl rfl (dq dk_Policy_findFault 31 rfl) ?_
      refine ww_cVi (st := []) C (c_Policy_bundleFault v0 ho_v0 v2) cw_Policy_bundleFault ho_v0 (lt_ rfl) rfl g_2_228 hRm ⟨⟨rfl, rfl⟩, le_ rfl, le_ rfl⟩ rfl rfl rfl (le_ rfl) (dq dk_Policy_findFault 32 rfl) h (fun x4 σ3 h => ?_)
      refine ww_istore_n C [(3, .int x4), (0, .ref (ad k v0)), (1, .int v1), (2, .int v2)] rfl hnL (lt_ rfl) rfl (dq dk_Policy_findFault 33 rfl) ?_
      refine ww_iload_n C 0 rfl rfl (dq dk_Policy_findFault 34 rfl) ?_
      refine ww_if_eq C 66 (dq dk_Policy_findFault 35 rfl) (by decide) h (fun h => ?_) (fun h => ?_)
      · refine ww_iinc C 3 (fun z => [(2, .int z), (3, .int x4), (0, .ref (ad k v0)), (1, .int v1)]) rfl ic_16 hnL (lt_ rfl) (fun _ => rfl) (dq dk_Policy_findFault 38 rfl) h (fun x5 h => ?_)
        refine ww_goto C 49 (dq dk_Policy_findFault 39 rfl) (by decide) ?_
        exact ww_lv [2, 3, 0] rfl (ih v0 v1 x5 ho_v0 σ3 h)
      · refine ww_iload_n C 0 rfl rfl (dq dk_Policy_findFault 36 rfl) ?_
        exact ww_iret C hR (dq dk_Policy_findFault 37 rfl) h
set_option maxHeartbeats 4000000 in
set_option maxRecDepth 100000 in
theorem c_Policy_findFault (v0 : Nat) (ho_v0 : kd v0 = 2) : MI y_Policy_findFault rm_Policy_findFault prog_7_method_2_code 4 .int (fun a => [.ref (a v0)]) (Policy_findFault v0) := by
  refine mi_of (by decide) (fun _ => le_ rfl) ?_
  intro k res σ C hR hRm hnL h
  unfold Policy_findFault at h
  show WW k 0 [(0, .ref (ad k v0))] [] σ
  refine ww_aload_n C 0 rfl rfl (dq dk_Policy_findFault 0 rfl) ?_
  refine ww_getr C ko_Policy 1 ho_v0 (lt_ rfl) g_1_158 rfl rfl (dq dk_Policy_findFault 1 rfl) ?_
  refine ww_geti C ko_Strip 2 (kc_Policy_1 _ ho_v0) (lt_ rfl) g_1_40 rfl rfl (dq dk_Policy_findFault 2 rfl) ?_
  refine ww_nmi h (fun x1 h => ?_)
  refine ww_istore_n C [(1, .int x1), (0, .ref (ad k v0))] rfl hnL (lt_ rfl) rfl (dq dk_Policy_findFault 3 rfl) ?_
  refine ww_aload_n C 1 rfl rfl (dq dk_Policy_findFault 4 rfl) ?_
  refine ww_iconst C (dq dk_Policy_findFault 5 rfl) ic_m1 ?_
  refine ww_puti C ko_Policy 0 ho_v0 (lt_ rfl) g_1_156 rfl rfl rfl rfl (dq dk_Policy_findFault 6 rfl) h (fun σ2 h => ?_)
  refine ww_iload_n C 0 rfl rfl (dq dk_Policy_findFault 7 rfl) ?_
  refine ww_bipush C (dq dk_Policy_findFault 8 rfl) bp_16 ?_
  refine ww_icmp_lt C 33 (dq dk_Policy_findFault 9 rfl) (by decide) h (fun h => ?_) (fun h => ?_)
  · refine ww_aload_n C 1 rfl rfl (dq dk_Policy_findFault 17 rfl) ?_
    refine ww_iload_n C 0 rfl rfl (dq dk_Policy_findFault 18 rfl) ?_
    refine ww_puti C ko_Policy 0 ho_v0 (lt_ rfl) g_1_156 rfl rfl rfl rfl (dq dk_Policy_findFault 19 rfl) h (fun σ3 h => ?_)
    refine ww_iconst C (dq dk_Policy_findFault 20 rfl) ic_1 ?_
    exact ww_iret C hR (dq dk_Policy_findFault 21 rfl) h
  · refine ww_iload_n C 0 rfl rfl (dq dk_Policy_findFault 10 rfl) ?_
    refine ww_sipush C (dq dk_Policy_findFault 11 rfl) sp_1024 ?_
    refine ww_icmp_gt C 33 (dq dk_Policy_findFault 12 rfl) (by decide) h (fun h => ?_) (fun h => ?_)
    · refine ww_aload_n C 1 rfl rfl (dq dk_Policy_findFault 17 rfl) ?_
      refine ww_iload_n C 0 rfl rfl (dq dk_Policy_findFault 18 rfl) ?_
      refine ww_puti C ko_Policy 0 ho_v0 (lt_ rfl) g_1_156 rfl rfl rfl rfl (dq dk_Policy_findFault 19 rfl) h (fun σ4 h => ?_)
      refine ww_iconst C (dq dk_Policy_findFault 20 rfl) ic_1 ?_
      exact ww_iret C hR (dq dk_Policy_findFault 21 rfl) h
    · refine ww_iload_n C 0 rfl rfl (dq dk_Policy_findFault 13 rfl) ?_
      refine ww_bipush C (dq dk_Policy_findFault 14 rfl) bp_16 ?_
      refine ww_irem C (by decide) (dq dk_Policy_findFault 15 rfl) ?_
      refine ww_if_eq C 40 (dq dk_Policy_findFault 16 rfl) (by decide) h (fun h => ?_) (fun h => ?_)
      · refine ww_aload_n C 1 rfl rfl (dq dk_Policy_findFault 22 rfl) ?_
        refine ww_getr C ko_Policy 1 ho_v0 (lt_ rfl) g_1_158 rfl rfl (dq dk_Policy_findFault 23 rfl) ?_
        refine ww_cVv (st := []) C (c_Strip_dropMarks (ch v0 1) (kc_Policy_1 _ ho_v0)) cw_Strip_dropMarks (kc_Policy_1 _ ho_v0) (lt_ rfl) rfl g_2_224 hRm ⟨⟨rfl, rfl⟩, le_ rfl, le_ rfl⟩ rfl rfl rfl (le_ rfl) (dq dk_Policy_findFault 24 rfl) h (fun σ5 h => ?_)
        refine ww_iconst C (dq dk_Policy_findFault 25 rfl) ic_0 ?_
        refine ww_istore_n C [(2, .int 0), (1, .int x1), (0, .ref (ad k v0))] rfl hnL (lt_ rfl) rfl (dq dk_Policy_findFault 26 rfl) ?_
        exact ww_lv [2, 1, 0] rfl (t_Policy_findFault_B49 C hR hRm hnL FU v0 x1 0 ho_v0 σ5 h)
      · refine ww_aload_n C 1 rfl rfl (dq dk_Policy_findFault 17 rfl) ?_
        refine ww_iload_n C 0 rfl rfl (dq dk_Policy_findFault 18 rfl) ?_
        refine ww_puti C ko_Policy 0 ho_v0 (lt_ rfl) g_1_156 rfl rfl rfl rfl (dq dk_Policy_findFault 19 rfl) h (fun σ6 h => ?_)
        refine ww_iconst C (dq dk_Policy_findFault 20 rfl) ic_1 ?_
        exact ww_iret C hR (dq dk_Policy_findFault 21 rfl) h
abbrev y_Program_isFull : MethodName := ⟨"BundleHouse$Program", "isFull", "()Z"⟩
def dl_Program_isFull : List (Nat × Instr × Nat) := [(0, .aload_n 0, 1), (1, .getfield 48, 3), (4, .bipush 120, 2), (6, .if_icmp .lt 7, 3), (9, .iconst 1, 1), (10, .goto 4, 3), (13, .iconst 0, 1), (14, .ireturn, 1)]
set_option maxRecDepth 100000 in
theorem dk_Program_isFull : ∀ q ∈ dl_Program_isFull, decode prog_8_method_2_code q.1 = .ok q.2 := by decide +kernel
abbrev rm_Program_isFull : Room := { frames := 0, cells := 0, slots := 0, locals := 0 }
theorem cw_Program_isFull : CWV y_Program_isFull prog_8_method_2_code 1 (some .boolean) 0 := ⟨⟨g_3_104, g_1_6, by decide, by decide, by decide +kernel⟩, g_3_102, g_3_103⟩
set_option maxHeartbeats 4000000 in
set_option maxRecDepth 100000 in
theorem c_Program_isFull (v0 : Nat) (ho_v0 : kd v0 = 5) : MI y_Program_isFull rm_Program_isFull prog_8_method_2_code 1 .boolean (fun a => [.ref (a v0)]) (Program_isFull v0) := by
  refine mi_of (by decide) (fun _ => le_ rfl) ?_
  intro k res σ C hR hRm hnL h
  unfold Program_isFull at h
  show WW k 0 [(0, .ref (ad k v0))] [] σ
  refine ww_aload_n C 0 rfl rfl (dq dk_Program_isFull 0 rfl) ?_
  refine ww_geti C ko_Program 4 ho_v0 (lt_ rfl) g_1_186 rfl rfl (dq dk_Program_isFull 1 rfl) ?_
  refine ww_bipush C (dq dk_Program_isFull 2 rfl) bp_120 ?_
  refine ww_icmp_lt C 13 (dq dk_Program_isFull 3 rfl) (by decide) h (fun h => ?_) (fun h => ?_)
  · refine ww_iconst C (dq dk_Program_isFull 6 rfl) ic_0 ?_
    exact ww_zretL C hR (dq dk_Program_isFull 7 rfl) (Or.inl rfl) h
  · refine ww_iconst C (dq dk_Program_isFull 4 rfl) ic_1 ?_
    refine ww_goto C 14 (dq dk_Program_isFull 5 rfl) (by decide) ?_
    exact ww_zretL C hR (dq dk_Program_isFull 7 rfl) (Or.inr rfl) h
abbrev y_Program_addPlain : MethodName := ⟨"BundleHouse$Program", "addPlain", "(IIIIII)V"⟩
def dl_Program_addPlain : List (Nat × Instr × Nat) := [(0, .aload_n 0, 1), (1, .invokevirtual 52, 3), (4, .ifCond .eq 4, 3), (7, .return_, 1), (8, .aload_n 0, 1), (9, .getfield 9, 3), (12, .aload_n 0, 1), (13, .getfield 48, 3), (16, .bipush 9, 2), (18, .iastore, 1), (19, .aload_n 0, 1), (20, .getfield 24, 3), (23, .aload_n 0, 1), (24, .getfield 48, 3), (27, .iload_n 1, 1), (28, .iastore, 1), (29, .aload_n 0, 1), (30, .getfield 27, 3), (33, .aload_n 0, 1), (34, .getfield 48, 3), (37, .iload_n 2, 1), (38, .iastore, 1), (39, .aload_n 0, 1), (40, .getfield 30, 3), (43, .aload_n 0, 1), (44, .getfield 48, 3), (47, .iload_n 3, 1), (48, .iastore, 1), (49, .aload_n 0, 1), (50, .getfield 33, 3), (53, .aload_n 0, 1), (54, .getfield 48, 3), (57, .iload 4, 2), (59, .iastore, 1), (60, .aload_n 0, 1), (61, .getfield 36, 3), (64, .aload_n 0, 1), (65, .getfield 48, 3), (68, .iload 5, 2), (70, .iastore, 1), (71, .aload_n 0, 1), (72, .getfield 39, 3), (75, .aload_n 0, 1), (76, .getfield 48, 3), (79, .iload 6, 2), (81, .iastore, 1), (82, .aload_n 0, 1), (83, .dup, 1), (84, .getfield 48, 3), (87, .iconst 1, 1), (88, .iadd, 1), (89, .putfield 48, 3), (92, .return_, 1)]
set_option maxRecDepth 100000 in
theorem dk_Program_addPlain : ∀ q ∈ dl_Program_addPlain, decode prog_8_method_3_code q.1 = .ok q.2 := by decide +kernel
abbrev rm_Program_addPlain : Room := { frames := 1, cells := 0, slots := 0, locals := 20 }
theorem cw_Program_addPlain : CWV y_Program_addPlain prog_8_method_3_code 7 none 6 := ⟨⟨g_3_125, g_1_6, by decide, by decide, by decide +kernel⟩, g_3_123, g_3_124⟩
set_option maxHeartbeats 4000000 in
set_option maxRecDepth 100000 in
theorem c_Program_addPlain (v0 : Nat) (ho_v0 : kd v0 = 5) (v1 : Int32) (v2 : Int32) (v3 : Int32) (v4 : Int32) (v5 : Int32) (v6 : Int32) : MV y_Program_addPlain rm_Program_addPlain prog_8_method_3_code 7 (fun a => [.ref (a v0), .int v1, .int v2, .int v3, .int v4, .int v5, .int v6]) (Program_addPlain v0 v1 v2 v3 v4 v5 v6) := by
  refine mv_of (by decide) (fun _ => le_ rfl) ?_
  intro k res σ C hR hRm hnL h
  unfold Program_addPlain at h
  show WW k 0 [(0, .ref (ad k v0)), (1, .int v1), (2, .int v2), (3, .int v3), (4, .int v4), (5, .int v5), (6, .int v6)] [] σ
  refine ww_aload_n C 0 rfl rfl (dq dk_Program_addPlain 0 rfl) ?_
  refine ww_cVi (st := []) C (c_Program_isFull v0 ho_v0) cw_Program_isFull ho_v0 (lt_ rfl) rfl g_3_126 hRm ⟨⟨rfl, rfl⟩, le_ rfl, le_ rfl⟩ rfl rfl rfl (le_ rfl) (dq dk_Program_addPlain 1 rfl) h (fun x2 σ1 h => ?_)
  refine ww_if_eq C 8 (dq dk_Program_addPlain 2 rfl) (by decide) h (fun h => ?_) (fun h => ?_)
  · refine ww_aload_n C 0 rfl rfl (dq dk_Program_addPlain 4 rfl) ?_
    refine ww_getr C ko_Program 0 ho_v0 (lt_ rfl) g_1_175 rfl rfl (dq dk_Program_addPlain 5 rfl) ?_
    refine ww_aload_n C 0 rfl rfl (dq dk_Program_addPlain 6 rfl) ?_
    refine ww_geti C ko_Program 4 ho_v0 (lt_ rfl) g_1_186 rfl rfl (dq dk_Program_addPlain 7 rfl) ?_
    refine ww_bipush C (dq dk_Program_addPlain 8 rfl) bp_9 ?_
    refine ww_iast C (kc_Program_0 _ ho_v0).1 (kc_Program_0 _ ho_v0).2 (dq dk_Program_addPlain 9 rfl) h (fun σ3 h => ?_)
    refine ww_aload_n C 0 rfl rfl (dq dk_Program_addPlain 10 rfl) ?_
    refine ww_getr C ko_Program 6 ho_v0 (lt_ rfl) g_1_191 rfl rfl (dq dk_Program_addPlain 11 rfl) ?_
    refine ww_aload_n C 0 rfl rfl (dq dk_Program_addPlain 12 rfl) ?_
    refine ww_geti C ko_Program 4 ho_v0 (lt_ rfl) g_1_186 rfl rfl (dq dk_Program_addPlain 13 rfl) ?_
    refine ww_iload_n C 1 rfl rfl (dq dk_Program_addPlain 14 rfl) ?_
    refine ww_iast C (kc_Program_6 _ ho_v0).1 (kc_Program_6 _ ho_v0).2 (dq dk_Program_addPlain 15 rfl) h (fun σ4 h => ?_)
    refine ww_aload_n C 0 rfl rfl (dq dk_Program_addPlain 16 rfl) ?_
    refine ww_getr C ko_Program 7 ho_v0 (lt_ rfl) g_1_192 rfl rfl (dq dk_Program_addPlain 17 rfl) ?_
    refine ww_aload_n C 0 rfl rfl (dq dk_Program_addPlain 18 rfl) ?_
    refine ww_geti C ko_Program 4 ho_v0 (lt_ rfl) g_1_186 rfl rfl (dq dk_Program_addPlain 19 rfl) ?_
    refine ww_iload_n C 2 rfl rfl (dq dk_Program_addPlain 20 rfl) ?_
    refine ww_iast C (kc_Program_7 _ ho_v0).1 (kc_Program_7 _ ho_v0).2 (dq dk_Program_addPlain 21 rfl) h (fun σ5 h => ?_)
    refine ww_aload_n C 0 rfl rfl (dq dk_Program_addPlain 22 rfl) ?_
    refine ww_getr C ko_Program 8 ho_v0 (lt_ rfl) g_1_193 rfl rfl (dq dk_Program_addPlain 23 rfl) ?_
    refine ww_aload_n C 0 rfl rfl (dq dk_Program_addPlain 24 rfl) ?_
    refine ww_geti C ko_Program 4 ho_v0 (lt_ rfl) g_1_186 rfl rfl (dq dk_Program_addPlain 25 rfl) ?_
    refine ww_iload_n C 3 rfl rfl (dq dk_Program_addPlain 26 rfl) ?_
    refine ww_iast C (kc_Program_8 _ ho_v0).1 (kc_Program_8 _ ho_v0).2 (dq dk_Program_addPlain 27 rfl) h (fun σ6 h => ?_)
    refine ww_aload_n C 0 rfl rfl (dq dk_Program_addPlain 28 rfl) ?_
    refine ww_getr C ko_Program 9 ho_v0 (lt_ rfl) g_1_194 rfl rfl (dq dk_Program_addPlain 29 rfl) ?_
    refine ww_aload_n C 0 rfl rfl (dq dk_Program_addPlain 30 rfl) ?_
    refine ww_geti C ko_Program 4 ho_v0 (lt_ rfl) g_1_186 rfl rfl (dq dk_Program_addPlain 31 rfl) ?_
    refine ww_iload C 4 rfl (dq dk_Program_addPlain 32 rfl) ?_
    refine ww_iast C (kc_Program_9 _ ho_v0).1 (kc_Program_9 _ ho_v0).2 (dq dk_Program_addPlain 33 rfl) h (fun σ7 h => ?_)
    refine ww_aload_n C 0 rfl rfl (dq dk_Program_addPlain 34 rfl) ?_
    refine ww_getr C ko_Program 10 ho_v0 (lt_ rfl) g_1_195 rfl rfl (dq dk_Program_addPlain 35 rfl) ?_
    refine ww_aload_n C 0 rfl rfl (dq dk_Program_addPlain 36 rfl) ?_
    refine ww_geti C ko_Program 4 ho_v0 (lt_ rfl) g_1_186 rfl rfl (dq dk_Program_addPlain 37 rfl) ?_
    refine ww_iload C 5 rfl (dq dk_Program_addPlain 38 rfl) ?_
    refine ww_iast C (kc_Program_10 _ ho_v0).1 (kc_Program_10 _ ho_v0).2 (dq dk_Program_addPlain 39 rfl) h (fun σ8 h => ?_)
    refine ww_aload_n C 0 rfl rfl (dq dk_Program_addPlain 40 rfl) ?_
    refine ww_getr C ko_Program 11 ho_v0 (lt_ rfl) g_1_196 rfl rfl (dq dk_Program_addPlain 41 rfl) ?_
    refine ww_aload_n C 0 rfl rfl (dq dk_Program_addPlain 42 rfl) ?_
    refine ww_geti C ko_Program 4 ho_v0 (lt_ rfl) g_1_186 rfl rfl (dq dk_Program_addPlain 43 rfl) ?_
    refine ww_iload C 6 rfl (dq dk_Program_addPlain 44 rfl) ?_
    refine ww_iast C (kc_Program_11 _ ho_v0).1 (kc_Program_11 _ ho_v0).2 (dq dk_Program_addPlain 45 rfl) h (fun σ9 h => ?_)
    refine ww_aload_n C 0 rfl rfl (dq dk_Program_addPlain 46 rfl) ?_
    refine ww_dup C rfl (dq dk_Program_addPlain 47 rfl) ?_
    refine ww_geti C ko_Program 4 ho_v0 (lt_ rfl) g_1_186 rfl rfl (dq dk_Program_addPlain 48 rfl) ?_
    refine ww_iconst C (dq dk_Program_addPlain 49 rfl) ic_1 ?_
    refine ww_iadd C (dq dk_Program_addPlain 50 rfl) ?_
    refine ww_puti C ko_Program 4 ho_v0 (lt_ rfl) g_1_186 rfl rfl rfl rfl (dq dk_Program_addPlain 51 rfl) h (fun σ10 h => ?_)
    exact ww_vret C hR (dq dk_Program_addPlain 52 rfl) h
  · exact ww_vret C hR (dq dk_Program_addPlain 3 rfl) h
abbrev y_Program_addFlow : MethodName := ⟨"BundleHouse$Program", "addFlow", "(III)V"⟩
def dl_Program_addFlow : List (Nat × Instr × Nat) := [(0, .aload_n 0, 1), (1, .invokevirtual 52, 3), (4, .ifCond .eq 4, 3), (7, .return_, 1), (8, .aload_n 0, 1), (9, .getfield 9, 3), (12, .aload_n 0, 1), (13, .getfield 48, 3), (16, .iload_n 1, 1), (17, .iastore, 1), (18, .aload_n 0, 1), (19, .getfield 15, 3), (22, .aload_n 0, 1), (23, .getfield 48, 3), (26, .iload_n 2, 1), (27, .iastore, 1), (28, .aload_n 0, 1), (29, .getfield 18, 3), (32, .aload_n 0, 1), (33, .getfield 48, 3), (36, .iload_n 3, 1), (37, .iastore, 1), (38, .aload_n 0, 1), (39, .dup, 1), (40, .getfield 48, 3), (43, .iconst 1, 1), (44, .iadd, 1), (45, .putfield 48, 3), (48, .return_, 1)]
set_option maxRecDepth 100000 in
theorem dk_Program_addFlow : ∀ q ∈ dl_Program_addFlow, decode prog_8_method_4_code q.1 = .ok q.2 := by decide +kernel
abbrev rm_Program_addFlow : Room := { frames := 1, cells := 0, slots := 0, locals := 20 }
theorem cw_Program_addFlow : CWV y_Program_addFlow prog_8_method_4_code 4 none 3 := ⟨⟨g_3_141, g_1_6, by decide, by decide, by decide +kernel⟩, g_3_139, g_3_140⟩
set_option maxHeartbeats 4000000 in
set_option maxRecDepth 100000 in
theorem c_Program_addFlow (v0 : Nat) (ho_v0 : kd v0 = 5) (v1 : Int32) (v2 : Int32) (v3 : Int32) : MV y_Program_addFlow rm_Program_addFlow prog_8_method_4_code 4 (fun a => [.ref (a v0), .int v1, .int v2, .int v3]) (Program_addFlow v0 v1 v2 v3) := by
  refine mv_of (by decide) (fun _ => le_ rfl) ?_
  intro k res σ C hR hRm hnL h
  unfold Program_addFlow at h
  show WW k 0 [(0, .ref (ad k v0)), (1, .int v1), (2, .int v2), (3, .int v3)] [] σ
  refine ww_aload_n C 0 rfl rfl (dq dk_Program_addFlow 0 rfl) ?_
  refine ww_cVi (st := []) C (c_Program_isFull v0 ho_v0) cw_Program_isFull ho_v0 (lt_ rfl) rfl g_3_126 hRm ⟨⟨rfl, rfl⟩, le_ rfl, le_ rfl⟩ rfl rfl rfl (le_ rfl) (dq dk_Program_addFlow 1 rfl) h (fun x2 σ1 h => ?_)
  refine ww_if_eq C 8 (dq dk_Program_addFlow 2 rfl) (by decide) h (fun h => ?_) (fun h => ?_)
  · refine ww_aload_n C 0 rfl rfl (dq dk_Program_addFlow 4 rfl) ?_
    refine ww_getr C ko_Program 0 ho_v0 (lt_ rfl) g_1_175 rfl rfl (dq dk_Program_addFlow 5 rfl) ?_
    refine ww_aload_n C 0 rfl rfl (dq dk_Program_addFlow 6 rfl) ?_
    refine ww_geti C ko_Program 4 ho_v0 (lt_ rfl) g_1_186 rfl rfl (dq dk_Program_addFlow 7 rfl) ?_
    refine ww_iload_n C 1 rfl rfl (dq dk_Program_addFlow 8 rfl) ?_
    refine ww_iast C (kc_Program_0 _ ho_v0).1 (kc_Program_0 _ ho_v0).2 (dq dk_Program_addFlow 9 rfl) h (fun σ3 h => ?_)
    refine ww_aload_n C 0 rfl rfl (dq dk_Program_addFlow 10 rfl) ?_
    refine ww_getr C ko_Program 1 ho_v0 (lt_ rfl) g_1_178 rfl rfl (dq dk_Program_addFlow 11 rfl) ?_
    refine ww_aload_n C 0 rfl rfl (dq dk_Program_addFlow 12 rfl) ?_
    refine ww_geti C ko_Program 4 ho_v0 (lt_ rfl) g_1_186 rfl rfl (dq dk_Program_addFlow 13 rfl) ?_
    refine ww_iload_n C 2 rfl rfl (dq dk_Program_addFlow 14 rfl) ?_
    refine ww_iast C (kc_Program_1 _ ho_v0).1 (kc_Program_1 _ ho_v0).2 (dq dk_Program_addFlow 15 rfl) h (fun σ4 h => ?_)
    refine ww_aload_n C 0 rfl rfl (dq dk_Program_addFlow 16 rfl) ?_
    refine ww_getr C ko_Program 2 ho_v0 (lt_ rfl) g_1_181 rfl rfl (dq dk_Program_addFlow 17 rfl) ?_
    refine ww_aload_n C 0 rfl rfl (dq dk_Program_addFlow 18 rfl) ?_
    refine ww_geti C ko_Program 4 ho_v0 (lt_ rfl) g_1_186 rfl rfl (dq dk_Program_addFlow 19 rfl) ?_
    refine ww_iload_n C 3 rfl rfl (dq dk_Program_addFlow 20 rfl) ?_
    refine ww_iast C (kc_Program_2 _ ho_v0).1 (kc_Program_2 _ ho_v0).2 (dq dk_Program_addFlow 21 rfl) h (fun σ5 h => ?_)
    refine ww_aload_n C 0 rfl rfl (dq dk_Program_addFlow 22 rfl) ?_
    refine ww_dup C rfl (dq dk_Program_addFlow 23 rfl) ?_
    refine ww_geti C ko_Program 4 ho_v0 (lt_ rfl) g_1_186 rfl rfl (dq dk_Program_addFlow 24 rfl) ?_
    refine ww_iconst C (dq dk_Program_addFlow 25 rfl) ic_1 ?_
    refine ww_iadd C (dq dk_Program_addFlow 26 rfl) ?_
    refine ww_puti C ko_Program 4 ho_v0 (lt_ rfl) g_1_186 rfl rfl rfl rfl (dq dk_Program_addFlow 27 rfl) h (fun σ6 h => ?_)
    exact ww_vret C hR (dq dk_Program_addFlow 28 rfl) h
  · exact ww_vret C hR (dq dk_Program_addFlow 3 rfl) h
abbrev y_Program_copyFrom : MethodName := ⟨"BundleHouse$Program", "copyFrom", "(LBundleHouse$Program;)V"⟩
def dl_Program_copyFrom : List (Nat × Instr × Nat) := [(0, .aload_n 1, 1), (1, .getfield 9, 3), (4, .iconst 0, 1), (5, .aload_n 0, 1), (6, .getfield 9, 3), (9, .iconst 0, 1), (10, .bipush 120, 2), (12, .invokestatic 56, 3), (15, .aload_n 1, 1), (16, .getfield 15, 3), (19, .iconst 0, 1), (20, .aload_n 0, 1), (21, .getfield 15, 3), (24, .iconst 0, 1), (25, .bipush 120, 2), (27, .invokestatic 56, 3), (30, .aload_n 1, 1), (31, .getfield 18, 3), (34, .iconst 0, 1), (35, .aload_n 0, 1), (36, .getfield 18, 3), (39, .iconst 0, 1), (40, .bipush 120, 2), (42, .invokestatic 56, 3), (45, .aload_n 1, 1), (46, .getfield 24, 3), (49, .iconst 0, 1), (50, .aload_n 0, 1), (51, .getfield 24, 3), (54, .iconst 0, 1), (55, .bipush 120, 2), (57, .invokestatic 56, 3), (60, .aload_n 1, 1), (61, .getfield 27, 3), (64, .iconst 0, 1), (65, .aload_n 0, 1), (66, .getfield 27, 3), (69, .iconst 0, 1), (70, .bipush 120, 2), (72, .invokestatic 56, 3), (75, .aload_n 1, 1), (76, .getfield 30, 3), (79, .iconst 0, 1), (80, .aload_n 0, 1), (81, .getfield 30, 3), (84, .iconst 0, 1), (85, .bipush 120, 2), (87, .invokestatic 56, 3), (90, .aload_n 1, 1), (91, .getfield 33, 3), (94, .iconst 0, 1), (95, .aload_n 0, 1), (96, .getfield 33, 3), (99, .iconst 0, 1), (100, .bipush 120, 2), (102, .invokestatic 56, 3), (105, .aload_n 1, 1), (106, .getfield 36, 3), (109, .iconst 0, 1), (110, .aload_n 0, 1), (111, .getfield 36, 3), (114, .iconst 0, 1), (115, .bipush 120, 2), (117, .invokestatic 56, 3), (120, .aload_n 1, 1), (121, .getfield 39, 3), (124, .iconst 0, 1), (125, .aload_n 0, 1), (126, .getfield 39, 3), (129, .iconst 0, 1), (130, .bipush 120, 2), (132, .invokestatic 56, 3), (135, .aload_n 1, 1), (136, .getfield 21, 3), (139, .iconst 0, 1), (140, .aload_n 0, 1), (141, .getfield 21, 3), (144, .iconst 0, 1), (145, .bipush 120, 2), (147, .invokestatic 56, 3), (150, .aload_n 1, 1), (151, .getfield 42, 3), (154, .iconst 0, 1), (155, .aload_n 0, 1), (156, .getfield 42, 3), (159, .iconst 0, 1), (160, .bipush 40, 2), (162, .invokestatic 56, 3), (165, .aload_n 1, 1), (166, .getfield 45, 3), (169, .iconst 0, 1), (170, .aload_n 0, 1), (171, .getfield 45, 3), (174, .iconst 0, 1), (175, .bipush 64, 2), (177, .invokestatic 56, 3), (180, .aload_n 0, 1), (181, .aload_n 1, 1), (182, .getfield 48, 3), (185, .putfield 48, 3), (188, .aload_n 0, 1), (189, .aload_n 1, 1), (190, .getfield 62, 3), (193, .putfield 62, 3), (196, .return_, 1)]
set_option maxRecDepth 100000 in
theorem dk_Program_copyFrom : ∀ q ∈ dl_Program_copyFrom, decode prog_8_method_5_code q.1 = .ok q.2 := by decide +kernel
abbrev rm_Program_copyFrom : Room := { frames := 1, cells := 0, slots := 0, locals := 26 }
theorem cw_Program_copyFrom : CWV y_Program_copyFrom prog_8_method_5_code 2 none 1 := ⟨⟨g_4_105, g_1_6, by decide, by decide, by decide +kernel⟩, g_4_103, g_4_104⟩
set_option maxHeartbeats 4000000 in
set_option maxRecDepth 100000 in
theorem c_Program_copyFrom (v0 : Nat) (ho_v0 : kd v0 = 5) (v1 : Nat) (ho_v1 : kd v1 = 5) : MV y_Program_copyFrom rm_Program_copyFrom prog_8_method_5_code 2 (fun a => [.ref (a v0), .ref (a v1)]) (Program_copyFrom v0 v1) := by
  refine mv_of (by decide) (fun _ => le_ rfl) ?_
  intro k res σ C hR hRm hnL h
  unfold Program_copyFrom at h
  show WW k 0 [(0, .ref (ad k v0)), (1, .ref (ad k v1))] [] σ
  refine ww_aload_n C 1 rfl rfl (dq dk_Program_copyFrom 0 rfl) ?_
  refine ww_getr C ko_Program 0 ho_v1 (lt_ rfl) g_1_175 rfl rfl (dq dk_Program_copyFrom 1 rfl) ?_
  refine ww_iconst C (dq dk_Program_copyFrom 2 rfl) ic_0 ?_
  refine ww_aload_n C 0 rfl rfl (dq dk_Program_copyFrom 3 rfl) ?_
  refine ww_getr C ko_Program 0 ho_v0 (lt_ rfl) g_1_175 rfl rfl (dq dk_Program_copyFrom 4 rfl) ?_
  refine ww_iconst C (dq dk_Program_copyFrom 5 rfl) ic_0 ?_
  refine ww_bipush C (dq dk_Program_copyFrom 6 rfl) bp_120 ?_
  refine ww_copy C (kc_Program_0 _ ho_v1).1 (kc_Program_0 _ ho_v1).2 (kc_Program_0 _ ho_v0).1 (kc_Program_0 _ ho_v0).2 g_4_106 g_3_88 g_3_87 g_1_14 (by rw [hRm]; exact ⟨le_ rfl, le_ rfl⟩) (dq dk_Program_copyFrom 7 rfl) h (fun σ1 h => ?_)
  refine ww_aload_n C 1 rfl rfl (dq dk_Program_copyFrom 8 rfl) ?_
  refine ww_getr C ko_Program 1 ho_v1 (lt_ rfl) g_1_178 rfl rfl (dq dk_Program_copyFrom 9 rfl) ?_
  refine ww_iconst C (dq dk_Program_copyFrom 10 rfl) ic_0 ?_
  refine ww_aload_n C 0 rfl rfl (dq dk_Program_copyFrom 11 rfl) ?_
  refine ww_getr C ko_Program 1 ho_v0 (lt_ rfl) g_1_178 rfl rfl (dq dk_Program_copyFrom 12 rfl) ?_
  refine ww_iconst C (dq dk_Program_copyFrom 13 rfl) ic_0 ?_
  refine ww_bipush C (dq dk_Program_copyFrom 14 rfl) bp_120 ?_
  refine ww_copy C (kc_Program_1 _ ho_v1).1 (kc_Program_1 _ ho_v1).2 (kc_Program_1 _ ho_v0).1 (kc_Program_1 _ ho_v0).2 g_4_106 g_3_88 g_3_87 g_1_14 (by rw [hRm]; exact ⟨le_ rfl, le_ rfl⟩) (dq dk_Program_copyFrom 15 rfl) h (fun σ2 h => ?_)
  refine ww_aload_n C 1 rfl rfl (dq dk_Program_copyFrom 16 rfl) ?_
  refine ww_getr C ko_Program 2 ho_v1 (lt_ rfl) g_1_181 rfl rfl (dq dk_Program_copyFrom 17 rfl) ?_
  refine ww_iconst C (dq dk_Program_copyFrom 18 rfl) ic_0 ?_
  refine ww_aload_n C 0 rfl rfl (dq dk_Program_copyFrom 19 rfl) ?_
  refine ww_getr C ko_Program 2 ho_v0 (lt_ rfl) g_1_181 rfl rfl (dq dk_Program_copyFrom 20 rfl) ?_
  refine ww_iconst C (dq dk_Program_copyFrom 21 rfl) ic_0 ?_
  refine ww_bipush C (dq dk_Program_copyFrom 22 rfl) bp_120 ?_
  refine ww_copy C (kc_Program_2 _ ho_v1).1 (kc_Program_2 _ ho_v1).2 (kc_Program_2 _ ho_v0).1 (kc_Program_2 _ ho_v0).2 g_4_106 g_3_88 g_3_87 g_1_14 (by rw [hRm]; exact ⟨le_ rfl, le_ rfl⟩) (dq dk_Program_copyFrom 23 rfl) h (fun σ3 h => ?_)
  refine ww_aload_n C 1 rfl rfl (dq dk_Program_copyFrom 24 rfl) ?_
  refine ww_getr C ko_Program 6 ho_v1 (lt_ rfl) g_1_191 rfl rfl (dq dk_Program_copyFrom 25 rfl) ?_
  refine ww_iconst C (dq dk_Program_copyFrom 26 rfl) ic_0 ?_
  refine ww_aload_n C 0 rfl rfl (dq dk_Program_copyFrom 27 rfl) ?_
  refine ww_getr C ko_Program 6 ho_v0 (lt_ rfl) g_1_191 rfl rfl (dq dk_Program_copyFrom 28 rfl) ?_
  refine ww_iconst C (dq dk_Program_copyFrom 29 rfl) ic_0 ?_
  refine ww_bipush C (dq dk_Program_copyFrom 30 rfl) bp_120 ?_
  refine ww_copy C (kc_Program_6 _ ho_v1).1 (kc_Program_6 _ ho_v1).2 (kc_Program_6 _ ho_v0).1 (kc_Program_6 _ ho_v0).2 g_4_106 g_3_88 g_3_87 g_1_14 (by rw [hRm]; exact ⟨le_ rfl, le_ rfl⟩) (dq dk_Program_copyFrom 31 rfl) h (fun σ4 h => ?_)
  refine ww_aload_n C 1 rfl rfl (dq dk_Program_copyFrom 32 rfl) ?_
  refine ww_getr C ko_Program 7 ho_v1 (lt_ rfl) g_1_192 rfl rfl (dq dk_Program_copyFrom 33 rfl) ?_
  refine ww_iconst C (dq dk_Program_copyFrom 34 rfl) ic_0 ?_
  refine ww_aload_n C 0 rfl rfl (dq dk_Program_copyFrom 35 rfl) ?_
  refine ww_getr C ko_Program 7 ho_v0 (lt_ rfl) g_1_192 rfl rfl (dq dk_Program_copyFrom 36 rfl) ?_
  refine ww_iconst C (dq dk_Program_copyFrom 37 rfl) ic_0 ?_
  refine ww_bipush C (dq dk_Program_copyFrom 38 rfl) bp_120 ?_
  refine ww_copy C (kc_Program_7 _ ho_v1).1 (kc_Program_7 _ ho_v1).2 (kc_Program_7 _ ho_v0).1 (kc_Program_7 _ ho_v0).2 g_4_106 g_3_88 g_3_87 g_1_14 (by rw [hRm]; exact ⟨le_ rfl, le_ rfl⟩) (dq dk_Program_copyFrom 39 rfl) h (fun σ5 h => ?_)
  refine ww_aload_n C 1 rfl rfl (dq dk_Program_copyFrom 40 rfl) ?_
  refine ww_getr C ko_Program 8 ho_v1 (lt_ rfl) g_1_193 rfl rfl (dq dk_Program_copyFrom 41 rfl) ?_
  refine ww_iconst C (dq dk_Program_copyFrom 42 rfl) ic_0 ?_
  refine ww_aload_n C 0 rfl rfl (dq dk_Program_copyFrom 43 rfl) ?_
  refine ww_getr C ko_Program 8 ho_v0 (lt_ rfl) g_1_193 rfl rfl (dq dk_Program_copyFrom 44 rfl) ?_
  refine ww_iconst C (dq dk_Program_copyFrom 45 rfl) ic_0 ?_
  refine ww_bipush C (dq dk_Program_copyFrom 46 rfl) bp_120 ?_
  refine ww_copy C (kc_Program_8 _ ho_v1).1 (kc_Program_8 _ ho_v1).2 (kc_Program_8 _ ho_v0).1 (kc_Program_8 _ ho_v0).2 g_4_106 g_3_88 g_3_87 g_1_14 (by rw [hRm]; exact ⟨le_ rfl, le_ rfl⟩) (dq dk_Program_copyFrom 47 rfl) h (fun σ6 h => ?_)
  refine ww_aload_n C 1 rfl rfl (dq dk_Program_copyFrom 48 rfl) ?_
  refine ww_getr C ko_Program 9 ho_v1 (lt_ rfl) g_1_194 rfl rfl (dq dk_Program_copyFrom 49 rfl) ?_
  refine ww_iconst C (dq dk_Program_copyFrom 50 rfl) ic_0 ?_
  refine ww_aload_n C 0 rfl rfl (dq dk_Program_copyFrom 51 rfl) ?_
  refine ww_getr C ko_Program 9 ho_v0 (lt_ rfl) g_1_194 rfl rfl (dq dk_Program_copyFrom 52 rfl) ?_
  refine ww_iconst C (dq dk_Program_copyFrom 53 rfl) ic_0 ?_
  refine ww_bipush C (dq dk_Program_copyFrom 54 rfl) bp_120 ?_
  refine ww_copy C (kc_Program_9 _ ho_v1).1 (kc_Program_9 _ ho_v1).2 (kc_Program_9 _ ho_v0).1 (kc_Program_9 _ ho_v0).2 g_4_106 g_3_88 g_3_87 g_1_14 (by rw [hRm]; exact ⟨le_ rfl, le_ rfl⟩) (dq dk_Program_copyFrom 55 rfl) h (fun σ7 h => ?_)
  refine ww_aload_n C 1 rfl rfl (dq dk_Program_copyFrom 56 rfl) ?_
  refine ww_getr C ko_Program 10 ho_v1 (lt_ rfl) g_1_195 rfl rfl (dq dk_Program_copyFrom 57 rfl) ?_
  refine ww_iconst C (dq dk_Program_copyFrom 58 rfl) ic_0 ?_
  refine ww_aload_n C 0 rfl rfl (dq dk_Program_copyFrom 59 rfl) ?_
  refine ww_getr C ko_Program 10 ho_v0 (lt_ rfl) g_1_195 rfl rfl (dq dk_Program_copyFrom 60 rfl) ?_
  refine ww_iconst C (dq dk_Program_copyFrom 61 rfl) ic_0 ?_
  refine ww_bipush C (dq dk_Program_copyFrom 62 rfl) bp_120 ?_
  refine ww_copy C (kc_Program_10 _ ho_v1).1 (kc_Program_10 _ ho_v1).2 (kc_Program_10 _ ho_v0).1 (kc_Program_10 _ ho_v0).2 g_4_106 g_3_88 g_3_87 g_1_14 (by rw [hRm]; exact ⟨le_ rfl, le_ rfl⟩) (dq dk_Program_copyFrom 63 rfl) h (fun σ8 h => ?_)
  refine ww_aload_n C 1 rfl rfl (dq dk_Program_copyFrom 64 rfl) ?_
  refine ww_getr C ko_Program 11 ho_v1 (lt_ rfl) g_1_196 rfl rfl (dq dk_Program_copyFrom 65 rfl) ?_
  refine ww_iconst C (dq dk_Program_copyFrom 66 rfl) ic_0 ?_
  refine ww_aload_n C 0 rfl rfl (dq dk_Program_copyFrom 67 rfl) ?_
  refine ww_getr C ko_Program 11 ho_v0 (lt_ rfl) g_1_196 rfl rfl (dq dk_Program_copyFrom 68 rfl) ?_
  refine ww_iconst C (dq dk_Program_copyFrom 69 rfl) ic_0 ?_
  refine ww_bipush C (dq dk_Program_copyFrom 70 rfl) bp_120 ?_
  refine ww_copy C (kc_Program_11 _ ho_v1).1 (kc_Program_11 _ ho_v1).2 (kc_Program_11 _ ho_v0).1 (kc_Program_11 _ ho_v0).2 g_4_106 g_3_88 g_3_87 g_1_14 (by rw [hRm]; exact ⟨le_ rfl, le_ rfl⟩) (dq dk_Program_copyFrom 71 rfl) h (fun σ9 h => ?_)
  refine ww_aload_n C 1 rfl rfl (dq dk_Program_copyFrom 72 rfl) ?_
  refine ww_getr C ko_Program 3 ho_v1 (lt_ rfl) g_1_184 rfl rfl (dq dk_Program_copyFrom 73 rfl) ?_
  refine ww_iconst C (dq dk_Program_copyFrom 74 rfl) ic_0 ?_
  refine ww_aload_n C 0 rfl rfl (dq dk_Program_copyFrom 75 rfl) ?_
  refine ww_getr C ko_Program 3 ho_v0 (lt_ rfl) g_1_184 rfl rfl (dq dk_Program_copyFrom 76 rfl) ?_
  refine ww_iconst C (dq dk_Program_copyFrom 77 rfl) ic_0 ?_
  refine ww_bipush C (dq dk_Program_copyFrom 78 rfl) bp_120 ?_
  refine ww_copy C (kc_Program_3 _ ho_v1).1 (kc_Program_3 _ ho_v1).2 (kc_Program_3 _ ho_v0).1 (kc_Program_3 _ ho_v0).2 g_4_106 g_3_88 g_3_87 g_1_14 (by rw [hRm]; exact ⟨le_ rfl, le_ rfl⟩) (dq dk_Program_copyFrom 79 rfl) h (fun σ10 h => ?_)
  refine ww_aload_n C 1 rfl rfl (dq dk_Program_copyFrom 80 rfl) ?_
  refine ww_getr C ko_Program 12 ho_v1 (lt_ rfl) g_1_197 rfl rfl (dq dk_Program_copyFrom 81 rfl) ?_
  refine ww_iconst C (dq dk_Program_copyFrom 82 rfl) ic_0 ?_
  refine ww_aload_n C 0 rfl rfl (dq dk_Program_copyFrom 83 rfl) ?_
  refine ww_getr C ko_Program 12 ho_v0 (lt_ rfl) g_1_197 rfl rfl (dq dk_Program_copyFrom 84 rfl) ?_
  refine ww_iconst C (dq dk_Program_copyFrom 85 rfl) ic_0 ?_
  refine ww_bipush C (dq dk_Program_copyFrom 86 rfl) bp_40 ?_
  refine ww_copy C (kc_Program_12 _ ho_v1).1 (kc_Program_12 _ ho_v1).2 (kc_Program_12 _ ho_v0).1 (kc_Program_12 _ ho_v0).2 g_4_106 g_3_88 g_3_87 g_1_14 (by rw [hRm]; exact ⟨le_ rfl, le_ rfl⟩) (dq dk_Program_copyFrom 87 rfl) h (fun σ11 h => ?_)
  refine ww_aload_n C 1 rfl rfl (dq dk_Program_copyFrom 88 rfl) ?_
  refine ww_getr C ko_Program 13 ho_v1 (lt_ rfl) g_1_198 rfl rfl (dq dk_Program_copyFrom 89 rfl) ?_
  refine ww_iconst C (dq dk_Program_copyFrom 90 rfl) ic_0 ?_
  refine ww_aload_n C 0 rfl rfl (dq dk_Program_copyFrom 91 rfl) ?_
  refine ww_getr C ko_Program 13 ho_v0 (lt_ rfl) g_1_198 rfl rfl (dq dk_Program_copyFrom 92 rfl) ?_
  refine ww_iconst C (dq dk_Program_copyFrom 93 rfl) ic_0 ?_
  refine ww_bipush C (dq dk_Program_copyFrom 94 rfl) bp_64 ?_
  refine ww_copy C (kc_Program_13 _ ho_v1).1 (kc_Program_13 _ ho_v1).2 (kc_Program_13 _ ho_v0).1 (kc_Program_13 _ ho_v0).2 g_4_106 g_3_88 g_3_87 g_1_14 (by rw [hRm]; exact ⟨le_ rfl, le_ rfl⟩) (dq dk_Program_copyFrom 95 rfl) h (fun σ12 h => ?_)
  refine ww_aload_n C 0 rfl rfl (dq dk_Program_copyFrom 96 rfl) ?_
  refine ww_aload_n C 1 rfl rfl (dq dk_Program_copyFrom 97 rfl) ?_
  refine ww_geti C ko_Program 4 ho_v1 (lt_ rfl) g_1_186 rfl rfl (dq dk_Program_copyFrom 98 rfl) ?_
  refine ww_puti C ko_Program 4 ho_v0 (lt_ rfl) g_1_186 rfl rfl rfl rfl (dq dk_Program_copyFrom 99 rfl) h (fun σ13 h => ?_)
  refine ww_aload_n C 0 rfl rfl (dq dk_Program_copyFrom 100 rfl) ?_
  refine ww_aload_n C 1 rfl rfl (dq dk_Program_copyFrom 101 rfl) ?_
  refine ww_geti C ko_Program 5 ho_v1 (lt_ rfl) g_1_190 rfl rfl (dq dk_Program_copyFrom 102 rfl) ?_
  refine ww_puti C ko_Program 5 ho_v0 (lt_ rfl) g_1_190 rfl rfl rfl rfl (dq dk_Program_copyFrom 103 rfl) h (fun σ14 h => ?_)
  exact ww_vret C hR (dq dk_Program_copyFrom 104 rfl) h
abbrev y_Program_hasItem : MethodName := ⟨"BundleHouse$Program", "hasItem", "(I)Z"⟩
def dl_Program_hasItem : List (Nat × Instr × Nat) := [(0, .iload_n 1, 1), (1, .ifCond .lt 21, 3), (4, .iload_n 1, 1), (5, .aload_n 0, 1), (6, .getfield 48, 3), (9, .if_icmp .ge 13, 3), (12, .iload_n 1, 1), (13, .bipush 120, 2), (15, .if_icmp .ge 7, 3), (18, .iconst 1, 1), (19, .goto 4, 3), (22, .iconst 0, 1), (23, .ireturn, 1)]
set_option maxRecDepth 100000 in
theorem dk_Program_hasItem : ∀ q ∈ dl_Program_hasItem, decode prog_8_method_6_code q.1 = .ok q.2 := by decide +kernel
abbrev rm_Program_hasItem : Room := { frames := 0, cells := 0, slots := 0, locals := 0 }
theorem cw_Program_hasItem : CWV y_Program_hasItem prog_8_method_6_code 2 (some .boolean) 1 := ⟨⟨g_3_161, g_1_6, by decide, by decide, by decide +kernel⟩, g_3_159, g_3_160⟩
set_option maxHeartbeats 4000000 in
set_option maxRecDepth 100000 in
theorem c_Program_hasItem (v0 : Nat) (ho_v0 : kd v0 = 5) (v1 : Int32) : MI y_Program_hasItem rm_Program_hasItem prog_8_method_6_code 2 .boolean (fun a => [.ref (a v0), .int v1]) (Program_hasItem v0 v1) := by
  refine mi_of (by decide) (fun _ => le_ rfl) ?_
  intro k res σ C hR hRm hnL h
  unfold Program_hasItem at h
  show WW k 0 [(0, .ref (ad k v0)), (1, .int v1)] [] σ
  refine ww_iload_n C 1 rfl rfl (dq dk_Program_hasItem 0 rfl) ?_
  refine ww_if_lt C 22 (dq dk_Program_hasItem 1 rfl) (by decide) h (fun h => ?_) (fun h => ?_)
  · refine ww_iconst C (dq dk_Program_hasItem 11 rfl) ic_0 ?_
    exact ww_zretL C hR (dq dk_Program_hasItem 12 rfl) (Or.inl rfl) h
  · refine ww_iload_n C 1 rfl rfl (dq dk_Program_hasItem 2 rfl) ?_
    refine ww_aload_n C 0 rfl rfl (dq dk_Program_hasItem 3 rfl) ?_
    refine ww_geti C ko_Program 4 ho_v0 (lt_ rfl) g_1_186 rfl rfl (dq dk_Program_hasItem 4 rfl) ?_
    refine ww_icmp_ge C 22 (dq dk_Program_hasItem 5 rfl) (by decide) h (fun h => ?_) (fun h => ?_)
    · refine ww_iconst C (dq dk_Program_hasItem 11 rfl) ic_0 ?_
      exact ww_zretL C hR (dq dk_Program_hasItem 12 rfl) (Or.inl rfl) h
    · refine ww_iload_n C 1 rfl rfl (dq dk_Program_hasItem 6 rfl) ?_
      refine ww_bipush C (dq dk_Program_hasItem 7 rfl) bp_120 ?_
      refine ww_icmp_ge C 22 (dq dk_Program_hasItem 8 rfl) (by decide) h (fun h => ?_) (fun h => ?_)
      · refine ww_iconst C (dq dk_Program_hasItem 11 rfl) ic_0 ?_
        exact ww_zretL C hR (dq dk_Program_hasItem 12 rfl) (Or.inl rfl) h
      · refine ww_iconst C (dq dk_Program_hasItem 9 rfl) ic_1 ?_
        refine ww_goto C 23 (dq dk_Program_hasItem 10 rfl) (by decide) ?_
        exact ww_zretL C hR (dq dk_Program_hasItem 12 rfl) (Or.inr rfl) h
abbrev y_Program_loadItem : MethodName := ⟨"BundleHouse$Program", "loadItem", "(ILBundleHouse$Instruction;)V"⟩
def dl_Program_loadItem : List (Nat × Instr × Nat) := [(0, .aload_n 0, 1), (1, .iload_n 1, 1), (2, .invokevirtual 65, 3), (5, .ifCond .eq 43, 3), (8, .aload_n 2, 1), (9, .aload_n 0, 1), (10, .getfield 24, 3), (13, .iload_n 1, 1), (14, .iaload, 1), (15, .aload_n 0, 1), (16, .getfield 27, 3), (19, .iload_n 1, 1), (20, .iaload, 1), (21, .aload_n 0, 1), (22, .getfield 30, 3), (25, .iload_n 1, 1), (26, .iaload, 1), (27, .aload_n 0, 1), (28, .getfield 33, 3), (31, .iload_n 1, 1), (32, .iaload, 1), (33, .aload_n 0, 1), (34, .getfield 36, 3), (37, .iload_n 1, 1), (38, .iaload, 1), (39, .aload_n 0, 1), (40, .getfield 39, 3), (43, .iload_n 1, 1), (44, .iaload, 1), (45, .invokevirtual 69, 3), (48, .return_, 1)]
set_option maxRecDepth 100000 in
theorem dk_Program_loadItem : ∀ q ∈ dl_Program_loadItem, decode prog_8_method_7_code q.1 = .ok q.2 := by decide +kernel
abbrev rm_Program_loadItem : Room := { frames := 1, cells := 0, slots := 0, locals := 26 }
theorem cw_Program_loadItem : CWV y_Program_loadItem prog_8_method_7_code 3 none 2 := ⟨⟨g_3_183, g_1_6, by decide, by decide, by decide +kernel⟩, g_3_181, g_3_182⟩
set_option maxHeartbeats 4000000 in
set_option maxRecDepth 100000 in
theorem c_Program_loadItem (v0 : Nat) (ho_v0 : kd v0 = 5) (v1 : Int32) (v2 : Nat) (ho_v2 : kd v2 = 4) : MV y_Program_loadItem rm_Program_loadItem prog_8_method_7_code 3 (fun a => [.ref (a v0), .int v1, .ref (a v2)]) (Program_loadItem v0 v1 v2) := by
  refine mv_of (by decide) (fun _ => le_ rfl) ?_
  intro k res σ C hR hRm hnL h
  unfold Program_loadItem at h
  show WW k 0 [(0, .ref (ad k v0)), (1, .int v1), (2, .ref (ad k v2))] [] σ
  refine ww_aload_n C 0 rfl rfl (dq dk_Program_loadItem 0 rfl) ?_
  refine ww_iload_n C 1 rfl rfl (dq dk_Program_loadItem 1 rfl) ?_
  refine ww_cVi (st := []) C (c_Program_hasItem v0 ho_v0 v1) cw_Program_hasItem ho_v0 (lt_ rfl) rfl g_3_158 hRm ⟨⟨rfl, rfl⟩, le_ rfl, le_ rfl⟩ rfl rfl rfl (le_ rfl) (dq dk_Program_loadItem 2 rfl) h (fun x2 σ1 h => ?_)
  refine ww_if_eq C 48 (dq dk_Program_loadItem 3 rfl) (by decide) h (fun h => ?_) (fun h => ?_)
  · exact ww_vret C hR (dq dk_Program_loadItem 30 rfl) h
  · refine ww_aload_n C 2 rfl rfl (dq dk_Program_loadItem 4 rfl) ?_
    refine ww_aload_n C 0 rfl rfl (dq dk_Program_loadItem 5 rfl) ?_
    refine ww_getr C ko_Program 6 ho_v0 (lt_ rfl) g_1_191 rfl rfl (dq dk_Program_loadItem 6 rfl) ?_
    refine ww_iload_n C 1 rfl rfl (dq dk_Program_loadItem 7 rfl) ?_
    refine ww_iald C (kc_Program_6 _ ho_v0).1 (kc_Program_6 _ ho_v0).2 (dq dk_Program_loadItem 8 rfl) h (fun x3 h => ?_)
    refine ww_aload_n C 0 rfl rfl (dq dk_Program_loadItem 9 rfl) ?_
    refine ww_getr C ko_Program 7 ho_v0 (lt_ rfl) g_1_192 rfl rfl (dq dk_Program_loadItem 10 rfl) ?_
    refine ww_iload_n C 1 rfl rfl (dq dk_Program_loadItem 11 rfl) ?_
    refine ww_iald C (kc_Program_7 _ ho_v0).1 (kc_Program_7 _ ho_v0).2 (dq dk_Program_loadItem 12 rfl) h (fun x4 h => ?_)
    refine ww_aload_n C 0 rfl rfl (dq dk_Program_loadItem 13 rfl) ?_
    refine ww_getr C ko_Program 8 ho_v0 (lt_ rfl) g_1_193 rfl rfl (dq dk_Program_loadItem 14 rfl) ?_
    refine ww_iload_n C 1 rfl rfl (dq dk_Program_loadItem 15 rfl) ?_
    refine ww_iald C (kc_Program_8 _ ho_v0).1 (kc_Program_8 _ ho_v0).2 (dq dk_Program_loadItem 16 rfl) h (fun x5 h => ?_)
    refine ww_aload_n C 0 rfl rfl (dq dk_Program_loadItem 17 rfl) ?_
    refine ww_getr C ko_Program 9 ho_v0 (lt_ rfl) g_1_194 rfl rfl (dq dk_Program_loadItem 18 rfl) ?_
    refine ww_iload_n C 1 rfl rfl (dq dk_Program_loadItem 19 rfl) ?_
    refine ww_iald C (kc_Program_9 _ ho_v0).1 (kc_Program_9 _ ho_v0).2 (dq dk_Program_loadItem 20 rfl) h (fun x6 h => ?_)
    refine ww_aload_n C 0 rfl rfl (dq dk_Program_loadItem 21 rfl) ?_
    refine ww_getr C ko_Program 10 ho_v0 (lt_ rfl) g_1_195 rfl rfl (dq dk_Program_loadItem 22 rfl) ?_
    refine ww_iload_n C 1 rfl rfl (dq dk_Program_loadItem 23 rfl) ?_
    refine ww_iald C (kc_Program_10 _ ho_v0).1 (kc_Program_10 _ ho_v0).2 (dq dk_Program_loadItem 24 rfl) h (fun x7 h => ?_)
    refine ww_aload_n C 0 rfl rfl (dq dk_Program_loadItem 25 rfl) ?_
    refine ww_getr C ko_Program 11 ho_v0 (lt_ rfl) g_1_196 rfl rfl (dq dk_Program_loadItem 26 rfl) ?_
    refine ww_iload_n C 1 rfl rfl (dq dk_Program_loadItem 27 rfl) ?_
    refine ww_iald C (kc_Program_11 _ ho_v0).1 (kc_Program_11 _ ho_v0).2 (dq dk_Program_loadItem 28 rfl) h (fun x8 h => ?_)
    refine ww_cVv (st := []) C (c_Instruction_fill v2 ho_v2 x3 x4 x5 x6 x7 x8) cw_Instruction_fill ho_v2 (lt_ rfl) rfl g_3_184 hRm ⟨⟨rfl, rfl⟩, le_ rfl, le_ rfl⟩ rfl rfl rfl (le_ rfl) (dq dk_Program_loadItem 29 rfl) h (fun σ9 h => ?_)
    exact ww_vret C hR (dq dk_Program_loadItem 30 rfl) h
abbrev y_Program_itemPlace : MethodName := ⟨"BundleHouse$Program", "itemPlace", "(I)I"⟩
def dl_Program_itemPlace : List (Nat × Instr × Nat) := [(0, .aload_n 0, 1), (1, .iload_n 1, 1), (2, .invokevirtual 65, 3), (5, .ifCond .eq 12, 3), (8, .aload_n 0, 1), (9, .getfield 21, 3), (12, .iload_n 1, 1), (13, .iaload, 1), (14, .goto 4, 3), (17, .iconst (-1), 1), (18, .ireturn, 1)]
set_option maxRecDepth 100000 in
theorem dk_Program_itemPlace : ∀ q ∈ dl_Program_itemPlace, decode prog_8_method_8_code q.1 = .ok q.2 := by decide +kernel
abbrev rm_Program_itemPlace : Room := { frames := 1, cells := 0, slots := 0, locals := 21 }
theorem cw_Program_itemPlace : CWV y_Program_itemPlace prog_8_method_8_code 2 (some .int) 1 := ⟨⟨g_4_39, g_1_6, by decide, by decide, by decide +kernel⟩, g_4_37, g_4_38⟩
set_option maxHeartbeats 4000000 in
set_option maxRecDepth 100000 in
theorem c_Program_itemPlace (v0 : Nat) (ho_v0 : kd v0 = 5) (v1 : Int32) : MI y_Program_itemPlace rm_Program_itemPlace prog_8_method_8_code 2 .int (fun a => [.ref (a v0), .int v1]) (Program_itemPlace v0 v1) := by
  refine mi_of (by decide) (fun _ => le_ rfl) ?_
  intro k res σ C hR hRm hnL h
  unfold Program_itemPlace at h
  show WW k 0 [(0, .ref (ad k v0)), (1, .int v1)] [] σ
  refine ww_aload_n C 0 rfl rfl (dq dk_Program_itemPlace 0 rfl) ?_
  refine ww_iload_n C 1 rfl rfl (dq dk_Program_itemPlace 1 rfl) ?_
  refine ww_cVi (st := []) C (c_Program_hasItem v0 ho_v0 v1) cw_Program_hasItem ho_v0 (lt_ rfl) rfl g_3_158 hRm ⟨⟨rfl, rfl⟩, le_ rfl, le_ rfl⟩ rfl rfl rfl (le_ rfl) (dq dk_Program_itemPlace 2 rfl) h (fun x2 σ1 h => ?_)
  refine ww_if_eq C 17 (dq dk_Program_itemPlace 3 rfl) (by decide) h (fun h => ?_) (fun h => ?_)
  · refine ww_iconst C (dq dk_Program_itemPlace 9 rfl) ic_m1 ?_
    exact ww_iret C hR (dq dk_Program_itemPlace 10 rfl) h
  · refine ww_aload_n C 0 rfl rfl (dq dk_Program_itemPlace 4 rfl) ?_
    refine ww_getr C ko_Program 3 ho_v0 (lt_ rfl) g_1_184 rfl rfl (dq dk_Program_itemPlace 5 rfl) ?_
    refine ww_iload_n C 1 rfl rfl (dq dk_Program_itemPlace 6 rfl) ?_
    refine ww_iald C (kc_Program_3 _ ho_v0).1 (kc_Program_3 _ ho_v0).2 (dq dk_Program_itemPlace 7 rfl) h (fun x3 h => ?_)
    refine ww_goto C 18 (dq dk_Program_itemPlace 8 rfl) (by decide) ?_
    exact ww_iret C hR (dq dk_Program_itemPlace 10 rfl) h
abbrev y_House_isLabel : MethodName := ⟨"BundleHouse", "isLabel", "(I)Z"⟩
def dl_House_isLabel : List (Nat × Instr × Nat) := [(0, .iload_n 0, 1), (1, .ifCond .lt 13, 3), (4, .iload_n 0, 1), (5, .bipush 40, 2), (7, .if_icmp .ge 7, 3), (10, .iconst 1, 1), (11, .goto 4, 3), (14, .iconst 0, 1), (15, .ireturn, 1)]
set_option maxRecDepth 100000 in
theorem dk_House_isLabel : ∀ q ∈ dl_House_isLabel, decode prog_1_method_24_code q.1 = .ok q.2 := by decide +kernel
abbrev rm_House_isLabel : Room := { frames := 0, cells := 0, slots := 0, locals := 0 }
theorem cw_House_isLabel : CWS y_House_isLabel prog_1_method_24_code 1 (some .boolean) 1 := ⟨⟨g_3_136, g_1_1, by decide, by decide, by decide +kernel⟩, g_3_135⟩
set_option maxHeartbeats 4000000 in
set_option maxRecDepth 100000 in
theorem c_House_isLabel (v0 : Int32) : MI y_House_isLabel rm_House_isLabel prog_1_method_24_code 1 .boolean (fun a => [.int v0]) (House_isLabel v0) := by
  refine mi_of (by decide) (fun _ => le_ rfl) ?_
  intro k res σ C hR hRm hnL h
  unfold House_isLabel at h
  show WW k 0 [(0, .int v0)] [] σ
  refine ww_iload_n C 0 rfl rfl (dq dk_House_isLabel 0 rfl) ?_
  refine ww_if_lt C 14 (dq dk_House_isLabel 1 rfl) (by decide) h (fun h => ?_) (fun h => ?_)
  · refine ww_iconst C (dq dk_House_isLabel 7 rfl) ic_0 ?_
    exact ww_zretL C hR (dq dk_House_isLabel 8 rfl) (Or.inl rfl) h
  · refine ww_iload_n C 0 rfl rfl (dq dk_House_isLabel 2 rfl) ?_
    refine ww_bipush C (dq dk_House_isLabel 3 rfl) bp_40 ?_
    refine ww_icmp_ge C 14 (dq dk_House_isLabel 4 rfl) (by decide) h (fun h => ?_) (fun h => ?_)
    · refine ww_iconst C (dq dk_House_isLabel 7 rfl) ic_0 ?_
      exact ww_zretL C hR (dq dk_House_isLabel 8 rfl) (Or.inl rfl) h
    · refine ww_iconst C (dq dk_House_isLabel 5 rfl) ic_1 ?_
      refine ww_goto C 15 (dq dk_House_isLabel 6 rfl) (by decide) ?_
      exact ww_zretL C hR (dq dk_House_isLabel 8 rfl) (Or.inr rfl) h
abbrev y_Program_labelItem : MethodName := ⟨"BundleHouse$Program", "labelItem", "(I)I"⟩
def dl_Program_labelItem : List (Nat × Instr × Nat) := [(0, .iload_n 1, 1), (1, .invokestatic 75, 3), (4, .ifCond .eq 12, 3), (7, .aload_n 0, 1), (8, .getfield 42, 3), (11, .iload_n 1, 1), (12, .iaload, 1), (13, .goto 4, 3), (16, .iconst (-1), 1), (17, .ireturn, 1)]
set_option maxRecDepth 100000 in
theorem dk_Program_labelItem : ∀ q ∈ dl_Program_labelItem, decode prog_8_method_9_code q.1 = .ok q.2 := by decide +kernel
abbrev rm_Program_labelItem : Room := { frames := 1, cells := 0, slots := 0, locals := 20 }
theorem cw_Program_labelItem : CWV y_Program_labelItem prog_8_method_9_code 2 (some .int) 1 := ⟨⟨g_3_171, g_1_6, by decide, by decide, by decide +kernel⟩, g_3_169, g_3_170⟩
set_option maxHeartbeats 4000000 in
set_option maxRecDepth 100000 in
theorem c_Program_labelItem (v0 : Nat) (ho_v0 : kd v0 = 5) (v1 : Int32) : MI y_Program_labelItem rm_Program_labelItem prog_8_method_9_code 2 .int (fun a => [.ref (a v0), .int v1]) (Program_labelItem v0 v1) := by
  refine mi_of (by decide) (fun _ => le_ rfl) ?_
  intro k res σ C hR hRm hnL h
  unfold Program_labelItem at h
  show WW k 0 [(0, .ref (ad k v0)), (1, .int v1)] [] σ
  refine ww_iload_n C 1 rfl rfl (dq dk_Program_labelItem 0 rfl) ?_
  refine ww_cNi (st := []) C (c_House_isLabel v1) cw_House_isLabel nw_10 hRm ⟨⟨rfl, rfl⟩, le_ rfl, le_ rfl⟩ rfl rfl rfl (le_ rfl) (dq dk_Program_labelItem 1 rfl) h (fun x2 σ1 h => ?_)
  refine ww_if_eq C 16 (dq dk_Program_labelItem 2 rfl) (by decide) h (fun h => ?_) (fun h => ?_)
  · refine ww_iconst C (dq dk_Program_labelItem 8 rfl) ic_m1 ?_
    exact ww_iret C hR (dq dk_Program_labelItem 9 rfl) h
  · refine ww_aload_n C 0 rfl rfl (dq dk_Program_labelItem 3 rfl) ?_
    refine ww_getr C ko_Program 12 ho_v0 (lt_ rfl) g_1_197 rfl rfl (dq dk_Program_labelItem 4 rfl) ?_
    refine ww_iload_n C 1 rfl rfl (dq dk_Program_labelItem 5 rfl) ?_
    refine ww_iald C (kc_Program_12 _ ho_v0).1 (kc_Program_12 _ ho_v0).2 (dq dk_Program_labelItem 6 rfl) h (fun x3 h => ?_)
    refine ww_goto C 17 (dq dk_Program_labelItem 7 rfl) (by decide) ?_
    exact ww_iret C hR (dq dk_Program_labelItem 9 rfl) h
abbrev y_Program_isMarked : MethodName := ⟨"BundleHouse$Program", "isMarked", "(I)Z"⟩
def dl_Program_isMarked : List (Nat × Instr × Nat) := [(0, .aload_n 0, 1), (1, .iload_n 1, 1), (2, .invokevirtual 65, 3), (5, .ifCond .eq 26, 3), (8, .aload_n 0, 1), (9, .getfield 9, 3), (12, .iload_n 1, 1), (13, .iaload, 1), (14, .ifCond .ne 17, 3), (17, .aload_n 0, 1), (18, .getfield 18, 3), (21, .iload_n 1, 1), (22, .iaload, 1), (23, .iconst 1, 1), (24, .if_icmp .ne 7, 3), (27, .iconst 1, 1), (28, .goto 4, 3), (31, .iconst 0, 1), (32, .ireturn, 1)]
set_option maxRecDepth 100000 in
theorem dk_Program_isMarked : ∀ q ∈ dl_Program_isMarked, decode prog_8_method_10_code q.1 = .ok q.2 := by decide +kernel
abbrev rm_Program_isMarked : Room := { frames := 1, cells := 0, slots := 0, locals := 21 }
theorem cw_Program_isMarked : CWV y_Program_isMarked prog_8_method_10_code 2 (some .boolean) 1 := ⟨⟨g_3_175, g_1_6, by decide, by decide, by decide +kernel⟩, g_3_173, g_3_174⟩
set_option maxHeartbeats 4000000 in
set_option maxRecDepth 100000 in
theorem c_Program_isMarked (v0 : Nat) (ho_v0 : kd v0 = 5) (v1 : Int32) : MI y_Program_isMarked rm_Program_isMarked prog_8_method_10_code 2 .boolean (fun a => [.ref (a v0), .int v1]) (Program_isMarked v0 v1) := by
  refine mi_of (by decide) (fun _ => le_ rfl) ?_
  intro k res σ C hR hRm hnL h
  unfold Program_isMarked at h
  show WW k 0 [(0, .ref (ad k v0)), (1, .int v1)] [] σ
  refine ww_aload_n C 0 rfl rfl (dq dk_Program_isMarked 0 rfl) ?_
  refine ww_iload_n C 1 rfl rfl (dq dk_Program_isMarked 1 rfl) ?_
  refine ww_cVi (st := []) C (c_Program_hasItem v0 ho_v0 v1) cw_Program_hasItem ho_v0 (lt_ rfl) rfl g_3_158 hRm ⟨⟨rfl, rfl⟩, le_ rfl, le_ rfl⟩ rfl rfl rfl (le_ rfl) (dq dk_Program_isMarked 2 rfl) h (fun x2 σ1 h => ?_)
  refine ww_if_eq C 31 (dq dk_Program_isMarked 3 rfl) (by decide) h (fun h => ?_) (fun h => ?_)
  · refine ww_iconst C (dq dk_Program_isMarked 17 rfl) ic_0 ?_
    exact ww_zretL C hR (dq dk_Program_isMarked 18 rfl) (Or.inl rfl) h
  · refine ww_aload_n C 0 rfl rfl (dq dk_Program_isMarked 4 rfl) ?_
    refine ww_getr C ko_Program 0 ho_v0 (lt_ rfl) g_1_175 rfl rfl (dq dk_Program_isMarked 5 rfl) ?_
    refine ww_iload_n C 1 rfl rfl (dq dk_Program_isMarked 6 rfl) ?_
    refine ww_iald C (kc_Program_0 _ ho_v0).1 (kc_Program_0 _ ho_v0).2 (dq dk_Program_isMarked 7 rfl) h (fun x3 h => ?_)
    refine ww_if_ne C 31 (dq dk_Program_isMarked 8 rfl) (by decide) h (fun h => ?_) (fun h => ?_)
    · refine ww_iconst C (dq dk_Program_isMarked 17 rfl) ic_0 ?_
      exact ww_zretL C hR (dq dk_Program_isMarked 18 rfl) (Or.inl rfl) h
    · refine ww_aload_n C 0 rfl rfl (dq dk_Program_isMarked 9 rfl) ?_
      refine ww_getr C ko_Program 2 ho_v0 (lt_ rfl) g_1_181 rfl rfl (dq dk_Program_isMarked 10 rfl) ?_
      refine ww_iload_n C 1 rfl rfl (dq dk_Program_isMarked 11 rfl) ?_
      refine ww_iald C (kc_Program_2 _ ho_v0).1 (kc_Program_2 _ ho_v0).2 (dq dk_Program_isMarked 12 rfl) h (fun x4 h => ?_)
      refine ww_iconst C (dq dk_Program_isMarked 13 rfl) ic_1 ?_
      refine ww_icmp_ne C 31 (dq dk_Program_isMarked 14 rfl) (by decide) h (fun h => ?_) (fun h => ?_)
      · refine ww_iconst C (dq dk_Program_isMarked 17 rfl) ic_0 ?_
        exact ww_zretL C hR (dq dk_Program_isMarked 18 rfl) (Or.inl rfl) h
      · refine ww_iconst C (dq dk_Program_isMarked 15 rfl) ic_1 ?_
        refine ww_goto C 32 (dq dk_Program_isMarked 16 rfl) (by decide) ?_
        exact ww_zretL C hR (dq dk_Program_isMarked 18 rfl) (Or.inr rfl) h
abbrev y_Program_pushes : MethodName := ⟨"BundleHouse$Program", "pushes", "(I)Z"⟩
def dl_Program_pushes : List (Nat × Instr × Nat) := [(0, .aload_n 0, 1), (1, .iload_n 1, 1), (2, .invokevirtual 65, 3), (5, .ifCond .eq 38, 3), (8, .aload_n 0, 1), (9, .getfield 9, 3), (12, .iload_n 1, 1), (13, .iaload, 1), (14, .iconst 3, 1), (15, .if_icmp .eq 24, 3), (18, .aload_n 0, 1), (19, .getfield 9, 3), (22, .iload_n 1, 1), (23, .iaload, 1), (24, .iconst 4, 1), (25, .if_icmp .eq 14, 3), (28, .aload_n 0, 1), (29, .getfield 9, 3), (32, .iload_n 1, 1), (33, .iaload, 1), (34, .bipush 6, 2), (36, .if_icmp .ne 7, 3), (39, .iconst 1, 1), (40, .goto 4, 3), (43, .iconst 0, 1), (44, .ireturn, 1)]
set_option maxRecDepth 100000 in
theorem dk_Program_pushes : ∀ q ∈ dl_Program_pushes, decode prog_8_method_11_code q.1 = .ok q.2 := by decide +kernel
abbrev rm_Program_pushes : Room := { frames := 1, cells := 0, slots := 0, locals := 21 }
theorem cw_Program_pushes : CWV y_Program_pushes prog_8_method_11_code 2 (some .boolean) 1 := ⟨⟨g_4_11, g_1_6, by decide, by decide, by decide +kernel⟩, g_4_9, g_4_10⟩
set_option maxHeartbeats 4000000 in
set_option maxRecDepth 100000 in
theorem c_Program_pushes (v0 : Nat) (ho_v0 : kd v0 = 5) (v1 : Int32) : MI y_Program_pushes rm_Program_pushes prog_8_method_11_code 2 .boolean (fun a => [.ref (a v0), .int v1]) (Program_pushes v0 v1) := by
  refine mi_of (by decide) (fun _ => le_ rfl) ?_
  intro k res σ C hR hRm hnL h
  unfold Program_pushes at h
  show WW k 0 [(0, .ref (ad k v0)), (1, .int v1)] [] σ
  refine ww_aload_n C 0 rfl rfl (dq dk_Program_pushes 0 rfl) ?_
  refine ww_iload_n C 1 rfl rfl (dq dk_Program_pushes 1 rfl) ?_
  refine ww_cVi (st := []) C (c_Program_hasItem v0 ho_v0 v1) cw_Program_hasItem ho_v0 (lt_ rfl) rfl g_3_158 hRm ⟨⟨rfl, rfl⟩, le_ rfl, le_ rfl⟩ rfl rfl rfl (le_ rfl) (dq dk_Program_pushes 2 rfl) h (fun x2 σ1 h => ?_)
  refine ww_if_eq C 43 (dq dk_Program_pushes 3 rfl) (by decide) h (fun h => ?_) (fun h => ?_)
  · refine ww_iconst C (dq dk_Program_pushes 24 rfl) ic_0 ?_
    exact ww_zretL C hR (dq dk_Program_pushes 25 rfl) (Or.inl rfl) h
  · refine ww_aload_n C 0 rfl rfl (dq dk_Program_pushes 4 rfl) ?_
    refine ww_getr C ko_Program 0 ho_v0 (lt_ rfl) g_1_175 rfl rfl (dq dk_Program_pushes 5 rfl) ?_
    refine ww_iload_n C 1 rfl rfl (dq dk_Program_pushes 6 rfl) ?_
    refine ww_iald C (kc_Program_0 _ ho_v0).1 (kc_Program_0 _ ho_v0).2 (dq dk_Program_pushes 7 rfl) h (fun x3 h => ?_)
    refine ww_iconst C (dq dk_Program_pushes 8 rfl) ic_3 ?_
    refine ww_icmp_eq C 39 (dq dk_Program_pushes 9 rfl) (by decide) h (fun h => ?_) (fun h => ?_)
    · refine ww_iconst C (dq dk_Program_pushes 22 rfl) ic_1 ?_
      refine ww_goto C 44 (dq dk_Program_pushes 23 rfl) (by decide) ?_
      exact ww_zretL C hR (dq dk_Program_pushes 25 rfl) (Or.inr rfl) h
    · refine ww_aload_n C 0 rfl rfl (dq dk_Program_pushes 10 rfl) ?_
      refine ww_getr C ko_Program 0 ho_v0 (lt_ rfl) g_1_175 rfl rfl (dq dk_Program_pushes 11 rfl) ?_
      refine ww_iload_n C 1 rfl rfl (dq dk_Program_pushes 12 rfl) ?_
      refine ww_iald C (kc_Program_0 _ ho_v0).1 (kc_Program_0 _ ho_v0).2 (dq dk_Program_pushes 13 rfl) h (fun x4 h => ?_)
      refine ww_iconst C (dq dk_Program_pushes 14 rfl) ic_4 ?_
      refine ww_icmp_eq C 39 (dq dk_Program_pushes 15 rfl) (by decide) h (fun h => ?_) (fun h => ?_)
      · refine ww_iconst C (dq dk_Program_pushes 22 rfl) ic_1 ?_
        refine ww_goto C 44 (dq dk_Program_pushes 23 rfl) (by decide) ?_
        exact ww_zretL C hR (dq dk_Program_pushes 25 rfl) (Or.inr rfl) h
      · refine ww_aload_n C 0 rfl rfl (dq dk_Program_pushes 16 rfl) ?_
        refine ww_getr C ko_Program 0 ho_v0 (lt_ rfl) g_1_175 rfl rfl (dq dk_Program_pushes 17 rfl) ?_
        refine ww_iload_n C 1 rfl rfl (dq dk_Program_pushes 18 rfl) ?_
        refine ww_iald C (kc_Program_0 _ ho_v0).1 (kc_Program_0 _ ho_v0).2 (dq dk_Program_pushes 19 rfl) h (fun x5 h => ?_)
        refine ww_bipush C (dq dk_Program_pushes 20 rfl) bp_6 ?_
        refine ww_icmp_ne C 43 (dq dk_Program_pushes 21 rfl) (by decide) h (fun h => ?_) (fun h => ?_)
        · refine ww_iconst C (dq dk_Program_pushes 24 rfl) ic_0 ?_
          exact ww_zretL C hR (dq dk_Program_pushes 25 rfl) (Or.inl rfl) h
        · refine ww_iconst C (dq dk_Program_pushes 22 rfl) ic_1 ?_
          refine ww_goto C 44 (dq dk_Program_pushes 23 rfl) (by decide) ?_
          exact ww_zretL C hR (dq dk_Program_pushes 25 rfl) (Or.inr rfl) h
abbrev y_Program_findLabels : MethodName := ⟨"BundleHouse$Program", "findLabels", "()V"⟩
def dl_Program_findLabels : List (Nat × Instr × Nat) := [(0, .iconst 0, 1), (1, .istore_n 1, 1), (2, .iload_n 1, 1), (3, .bipush 40, 2), (5, .if_icmp .ge 16, 3), (8, .aload_n 0, 1), (9, .getfield 42, 3), (12, .iload_n 1, 1), (13, .iconst (-1), 1), (14, .iastore, 1), (15, .iinc 1 1, 3), (18, .goto (-16), 3), (21, .iconst 0, 1), (22, .istore_n 1, 1), (23, .iload_n 1, 1), (24, .aload_n 0, 1), (25, .getfield 48, 3), (28, .if_icmp .ge 65, 3), (31, .aload_n 0, 1), (32, .iload_n 1, 1), (33, .invokevirtual 65, 3), (36, .ifCond .eq 51, 3), (39, .aload_n 0, 1), (40, .getfield 9, 3), (43, .iload_n 1, 1), (44, .iaload, 1), (45, .ifCond .ne 42, 3), (48, .aload_n 0, 1), (49, .getfield 15, 3), (52, .iload_n 1, 1), (53, .iaload, 1), (54, .invokestatic 75, 3), (57, .ifCond .eq 30, 3), (60, .aload_n 0, 1), (61, .getfield 42, 3), (64, .aload_n 0, 1), (65, .getfield 15, 3), (68, .iload_n 1, 1), (69, .iaload, 1), (70, .iaload, 1), (71, .iconst (-1), 1), (72, .if_icmp .ne 15, 3), (75, .aload_n 0, 1), (76, .getfield 42, 3), (79, .aload_n 0, 1), (80, .getfield 15, 3), (83, .iload_n 1, 1), (84, .iaload, 1), (85, .iload_n 1, 1), (86, .iastore, 1), (87, .iinc 1 1, 3), (90, .goto (-67), 3), (93, .return_, 1)]
set_option maxRecDepth 100000 in
theorem dk_Program_findLabels : ∀ q ∈ dl_Program_findLabels, decode prog_8_method_12_code q.1 = .ok q.2 := by decide +kernel
abbrev rm_Program_findLabels : Room := { frames := 1, cells := 0, slots := 0, locals := 21 }
theorem cw_Program_findLabels : CWV y_Program_findLabels prog_8_method_12_code 2 none 0 := ⟨⟨g_3_157, g_1_6, by decide, by decide, by decide +kernel⟩, g_3_155, g_3_156⟩
set_option maxHeartbeats 4000000 in
set_option maxRecDepth 100000 in
theorem t_Program_findLabels_B23 {k : Cfg} {res : St} (C : Cx k prog_8_method_12_code "BundleHouse$Program") (hR : RV k res) (hRm : k.2.2.2.1 = rm_Program_findLabels) (hnL : k.2.2.2.2.2.2.2.2.2.2.2.1 = 2) : ∀ (n : Nat) (v0 : Nat) (v1 : Int32) (ho_v0 : kd v0 = 5) (σ : St), Program_findLabels_B23 n v0 v1 σ = some res → WW k 23 [(0, .ref (ad k v0)), (1, .int v1)] [] σ := by
  intro n
  induction n with
  | zero =>
    intro v0 v1 ho_v0 σ h
    have h : (none : Option (St)) = some res := h
    cases h
  | succ n ih =>
    intro v0 v1 ho_v0 σ h
    unfold Program_findLabels_B23 at h
    refine ww_iload_n C 1 rfl rfl (dq dk_Program_findLabels 14 rfl) ?_
    refine ww_aload_n C 0 rfl rfl (dq dk_Program_findLabels 15 rfl) ?_
    refine ww_geti C ko_Program 4 ho_v0 (lt_ rfl) g_1_186 rfl rfl (dq dk_Program_findLabels 16 rfl) ?_
    refine ww_icmp_ge C 93 (dq dk_Program_findLabels 17 rfl) (by decide) h (fun h => ?_) (fun h => ?_)
    · exact ww_vret C hR (dq dk_Program_findLabels 52 rfl) h
    · refine ww_aload_n C 0 rfl rfl (dq dk_Program_findLabels 18 rfl) ?_
      refine ww_iload_n C 1 rfl rfl (dq dk_Program_findLabels 19 rfl) ?_
      refine ww_cVi (st := []) C (c_Program_hasItem v0 ho_v0 v1) cw_Program_hasItem ho_v0 (lt_ rfl) rfl g_3_158 hRm ⟨⟨rfl, rfl⟩, le_ rfl, le_ rfl⟩ rfl rfl rfl (le_ rfl) (dq dk_Program_findLabels 20 rfl) h (fun x2 σ1 h => ?_)
      refine ww_if_eq C 87 (dq dk_Program_findLabels 21 rfl) (by decide) h (fun h => ?_) (fun h => ?_)
      · refine ww_iinc C 1 (fun z => [(1, .int z), (0, .ref (ad k v0))]) rfl ic_1 hnL (lt_ rfl) (fun _ => rfl) (dq dk_Program_findLabels 50 rfl) h (fun x3 h => ?_)
        refine ww_goto C 23 (dq dk_Program_findLabels 51 rfl) (by decide) ?_
        exact ww_lv [1, 0] rfl (ih v0 x3 ho_v0 σ1 h)
      · refine ww_aload_n C 0 rfl rfl (dq dk_Program_findLabels 22 rfl) ?_
        refine ww_getr C ko_Program 0 ho_v0 (lt_ rfl) g_1_175 rfl rfl (dq dk_Program_findLabels 23 rfl) ?_
        refine ww_iload_n C 1 rfl rfl (dq dk_Program_findLabels 24 rfl) ?_
        refine ww_iald C (kc_Program_0 _ ho_v0).1 (kc_Program_0 _ ho_v0).2 (dq dk_Program_findLabels 25 rfl) h (fun x4 h => ?_)
        refine ww_if_ne C 87 (dq dk_Program_findLabels 26 rfl) (by decide) h (fun h => ?_) (fun h => ?_)
        · refine ww_iinc C 1 (fun z => [(1, .int z), (0, .ref (ad k v0))]) rfl ic_1 hnL (lt_ rfl) (fun _ => rfl) (dq dk_Program_findLabels 50 rfl) h (fun x5 h => ?_)
          refine ww_goto C 23 (dq dk_Program_findLabels 51 rfl) (by decide) ?_
          exact ww_lv [1, 0] rfl (ih v0 x5 ho_v0 σ1 h)
        · refine ww_aload_n C 0 rfl rfl (dq dk_Program_findLabels 27 rfl) ?_
          refine ww_getr C ko_Program 1 ho_v0 (lt_ rfl) g_1_178 rfl rfl (dq dk_Program_findLabels 28 rfl) ?_
          refine ww_iload_n C 1 rfl rfl (dq dk_Program_findLabels 29 rfl) ?_
          refine ww_iald C (kc_Program_1 _ ho_v0).1 (kc_Program_1 _ ho_v0).2 (dq dk_Program_findLabels 30 rfl) h (fun x6 h => ?_)
          refine ww_cNi (st := []) C (c_House_isLabel x6) cw_House_isLabel nw_10 hRm ⟨⟨rfl, rfl⟩, le_ rfl, le_ rfl⟩ rfl rfl rfl (le_ rfl) (dq dk_Program_findLabels 31 rfl) h (fun x8 σ7 h => ?_)
          refine ww_if_eq C 87 (dq dk_Program_findLabels 32 rfl) (by decide) h (fun h => ?_) (fun h => ?_)
          · refine ww_iinc C 1 (fun z => [(1, .int z), (0, .ref (ad k v0))]) rfl ic_1 hnL (lt_ rfl) (fun _ => rfl) (dq dk_Program_findLabels 50 rfl) h (fun x9 h => ?_)
            refine ww_goto C 23 (dq dk_Program_findLabels 51 rfl) (by decide) ?_
            exact ww_lv [1, 0] rfl (ih v0 x9 ho_v0 σ7 h)
          · refine ww_aload_n C 0 rfl rfl (dq dk_Program_findLabels 33 rfl) ?_
            refine ww_getr C ko_Program 12 ho_v0 (lt_ rfl) g_1_197 rfl rfl (dq dk_Program_findLabels 34 rfl) ?_
            refine ww_aload_n C 0 rfl rfl (dq dk_Program_findLabels 35 rfl) ?_
            refine ww_getr C ko_Program 1 ho_v0 (lt_ rfl) g_1_178 rfl rfl (dq dk_Program_findLabels 36 rfl) ?_
            refine ww_iload_n C 1 rfl rfl (dq dk_Program_findLabels 37 rfl) ?_
            refine ww_iald C (kc_Program_1 _ ho_v0).1 (kc_Program_1 _ ho_v0).2 (dq dk_Program_findLabels 38 rfl) h (fun x10 h => ?_)
            refine ww_iald C (kc_Program_12 _ ho_v0).1 (kc_Program_12 _ ho_v0).2 (dq dk_Program_findLabels 39 rfl) h (fun x11 h => ?_)
            refine ww_iconst C (dq dk_Program_findLabels 40 rfl) ic_m1 ?_
            refine ww_icmp_ne C 87 (dq dk_Program_findLabels 41 rfl) (by decide) h (fun h => ?_) (fun h => ?_)
            · refine ww_iinc C 1 (fun z => [(1, .int z), (0, .ref (ad k v0))]) rfl ic_1 hnL (lt_ rfl) (fun _ => rfl) (dq dk_Program_findLabels 50 rfl) h (fun x12 h => ?_)
              refine ww_goto C 23 (dq dk_Program_findLabels 51 rfl) (by decide) ?_
              exact ww_lv [1, 0] rfl (ih v0 x12 ho_v0 σ7 h)
            · refine ww_aload_n C 0 rfl rfl (dq dk_Program_findLabels 42 rfl) ?_
              refine ww_getr C ko_Program 12 ho_v0 (lt_ rfl) g_1_197 rfl rfl (dq dk_Program_findLabels 43 rfl) ?_
              refine ww_aload_n C 0 rfl rfl (dq dk_Program_findLabels 44 rfl) ?_
              refine ww_getr C ko_Program 1 ho_v0 (lt_ rfl) g_1_178 rfl rfl (dq dk_Program_findLabels 45 rfl) ?_
              refine ww_iload_n C 1 rfl rfl (dq dk_Program_findLabels 46 rfl) ?_
              refine ww_iald C (kc_Program_1 _ ho_v0).1 (kc_Program_1 _ ho_v0).2 (dq dk_Program_findLabels 47 rfl) h (fun x13 h => ?_)
              refine ww_iload_n C 1 rfl rfl (dq dk_Program_findLabels 48 rfl) ?_
              refine ww_iast C (kc_Program_12 _ ho_v0).1 (kc_Program_12 _ ho_v0).2 (dq dk_Program_findLabels 49 rfl) h (fun σ14 h => ?_)
              refine ww_iinc C 1 (fun z => [(1, .int z), (0, .ref (ad k v0))]) rfl ic_1 hnL (lt_ rfl) (fun _ => rfl) (dq dk_Program_findLabels 50 rfl) h (fun x15 h => ?_)
              refine ww_goto C 23 (dq dk_Program_findLabels 51 rfl) (by decide) ?_
              exact ww_lv [1, 0] rfl (ih v0 x15 ho_v0 σ14 h)
set_option maxHeartbeats 4000000 in
set_option maxRecDepth 100000 in
theorem t_Program_findLabels_B2 {k : Cfg} {res : St} (C : Cx k prog_8_method_12_code "BundleHouse$Program") (hR : RV k res) (hRm : k.2.2.2.1 = rm_Program_findLabels) (hnL : k.2.2.2.2.2.2.2.2.2.2.2.1 = 2) : ∀ (n : Nat) (v0 : Nat) (v1 : Int32) (ho_v0 : kd v0 = 5) (σ : St), Program_findLabels_B2 n v0 v1 σ = some res → WW k 2 [(0, .ref (ad k v0)), (1, .int v1)] [] σ := by
  intro n
  induction n with
  | zero =>
    intro v0 v1 ho_v0 σ h
    have h : (none : Option (St)) = some res := h
    cases h
  | succ n ih =>
    intro v0 v1 ho_v0 σ h
    unfold Program_findLabels_B2 at h
    refine ww_iload_n C 1 rfl rfl (dq dk_Program_findLabels 2 rfl) ?_
    refine ww_bipush C (dq dk_Program_findLabels 3 rfl) bp_40 ?_
    refine ww_icmp_ge C 21 (dq dk_Program_findLabels 4 rfl) (by decide) h (fun h => ?_) (fun h => ?_)
    · refine ww_iconst C (dq dk_Program_findLabels 12 rfl) ic_0 ?_
      refine ww_istore_n C [(1, .int 0), (0, .ref (ad k v0))] rfl hnL (lt_ rfl) rfl (dq dk_Program_findLabels 13 rfl) ?_
      exact ww_lv [1, 0] rfl (t_Program_findLabels_B23 C hR hRm hnL FU v0 0 ho_v0 σ h)
    · refine ww_aload_n C 0 rfl rfl (dq dk_Program_findLabels 5 rfl) ?_
      refine ww_getr C ko_Program 12 ho_v0 (lt_ rfl) g_1_197 rfl rfl (dq dk_Program_findLabels 6 rfl) ?_
      refine ww_iload_n C 1 rfl rfl (dq dk_Program_findLabels 7 rfl) ?_
      refine ww_iconst C (dq dk_Program_findLabels 8 rfl) ic_m1 ?_
      refine ww_iast C (kc_Program_12 _ ho_v0).1 (kc_Program_12 _ ho_v0).2 (dq dk_Program_findLabels 9 rfl) h (fun σ1 h => ?_)
      refine ww_iinc C 1 (fun z => [(1, .int z), (0, .ref (ad k v0))]) rfl ic_1 hnL (lt_ rfl) (fun _ => rfl) (dq dk_Program_findLabels 10 rfl) h (fun x2 h => ?_)
      refine ww_goto C 2 (dq dk_Program_findLabels 11 rfl) (by decide) ?_
      exact ww_lv [1, 0] rfl (ih v0 x2 ho_v0 σ1 h)
set_option maxHeartbeats 4000000 in
set_option maxRecDepth 100000 in
theorem c_Program_findLabels (v0 : Nat) (ho_v0 : kd v0 = 5) : MV y_Program_findLabels rm_Program_findLabels prog_8_method_12_code 2 (fun a => [.ref (a v0)]) (Program_findLabels v0) := by
  refine mv_of (by decide) (fun _ => le_ rfl) ?_
  intro k res σ C hR hRm hnL h
  unfold Program_findLabels at h
  show WW k 0 [(0, .ref (ad k v0))] [] σ
  refine ww_iconst C (dq dk_Program_findLabels 0 rfl) ic_0 ?_
  refine ww_istore_n C [(1, .int 0), (0, .ref (ad k v0))] rfl hnL (lt_ rfl) rfl (dq dk_Program_findLabels 1 rfl) ?_
  exact ww_lv [1, 0] rfl (t_Program_findLabels_B2 C hR hRm hnL FU v0 0 ho_v0 σ h)
abbrev y_Program_giveLanding : MethodName := ⟨"BundleHouse$Program", "giveLanding", "(II)V"⟩
def dl_Program_giveLanding : List (Nat × Instr × Nat) := [(0, .iload_n 1, 1), (1, .bipush 16, 2), (3, .idiv, 1), (4, .istore_n 3, 1), (5, .iload_n 3, 1), (6, .ifCond .lt 16, 3), (9, .iload_n 3, 1), (10, .bipush 64, 2), (12, .if_icmp .ge 10, 3), (15, .aload_n 0, 1), (16, .getfield 45, 3), (19, .iload_n 3, 1), (20, .iload_n 2, 1), (21, .iastore, 1), (22, .return_, 1)]
set_option maxRecDepth 100000 in
theorem dk_Program_giveLanding : ∀ q ∈ dl_Program_giveLanding, decode prog_8_method_14_code q.1 = .ok q.2 := by decide +kernel
abbrev rm_Program_giveLanding : Room := { frames := 0, cells := 0, slots := 0, locals := 0 }
theorem cw_Program_giveLanding : CWV y_Program_giveLanding prog_8_method_14_code 4 none 2 := ⟨⟨g_4_58, g_1_6, by decide, by decide, by decide +kernel⟩, g_4_57, gs_3_2⟩
set_option maxHeartbeats 4000000 in
set_option maxRecDepth 100000 in
theorem c_Program_giveLanding (v0 : Nat) (ho_v0 : kd v0 = 5) (v1 : Int32) (v2 : Int32) : MV y_Program_giveLanding rm_Program_giveLanding prog_8_method_14_code 4 (fun a => [.ref (a v0), .int v1, .int v2]) (Program_giveLanding v0 v1 v2) := by
  refine mv_of (by decide) (fun _ => le_ rfl) ?_
  intro k res σ C hR hRm hnL h
  unfold Program_giveLanding at h
  show WW k 0 [(0, .ref (ad k v0)), (1, .int v1), (2, .int v2)] [] σ
  refine ww_iload_n C 1 rfl rfl (dq dk_Program_giveLanding 0 rfl) ?_
  refine ww_bipush C (dq dk_Program_giveLanding 1 rfl) bp_16 ?_
  refine ww_idiv C (by decide) (dq dk_Program_giveLanding 2 rfl) ?_
  refine ww_nmi h (fun x1 h => ?_)
  refine ww_istore_n C [(3, .int x1), (0, .ref (ad k v0)), (1, .int v1), (2, .int v2)] rfl hnL (lt_ rfl) rfl (dq dk_Program_giveLanding 3 rfl) ?_
  refine ww_iload_n C 0 rfl rfl (dq dk_Program_giveLanding 4 rfl) ?_
  refine ww_if_lt C 22 (dq dk_Program_giveLanding 5 rfl) (by decide) h (fun h => ?_) (fun h => ?_)
  · exact ww_vret C hR (dq dk_Program_giveLanding 14 rfl) h
  · refine ww_iload_n C 0 rfl rfl (dq dk_Program_giveLanding 6 rfl) ?_
    refine ww_bipush C (dq dk_Program_giveLanding 7 rfl) bp_64 ?_
    refine ww_icmp_ge C 22 (dq dk_Program_giveLanding 8 rfl) (by decide) h (fun h => ?_) (fun h => ?_)
    · exact ww_vret C hR (dq dk_Program_giveLanding 14 rfl) h
    · refine ww_aload_n C 1 rfl rfl (dq dk_Program_giveLanding 9 rfl) ?_
      refine ww_getr C ko_Program 13 ho_v0 (lt_ rfl) g_1_198 rfl rfl (dq dk_Program_giveLanding 10 rfl) ?_
      refine ww_iload_n C 0 rfl rfl (dq dk_Program_giveLanding 11 rfl) ?_
      refine ww_iload_n C 3 rfl rfl (dq dk_Program_giveLanding 12 rfl) ?_
      refine ww_iast C (kc_Program_13 _ ho_v0).1 (kc_Program_13 _ ho_v0).2 (dq dk_Program_giveLanding 13 rfl) h (fun σ2 h => ?_)
      exact ww_vret C hR (dq dk_Program_giveLanding 14 rfl) h
abbrev y_Program_findLandings : MethodName := ⟨"BundleHouse$Program", "findLandings", "()V"⟩
def dl_Program_findLandings : List (Nat × Instr × Nat) := [(0, .iconst 0, 1), (1, .istore_n 1, 1), (2, .iload_n 1, 1), (3, .bipush 64, 2), (5, .if_icmp .ge 17, 3), (8, .aload_n 0, 1), (9, .getfield 45, 3), (12, .iload_n 1, 1), (13, .bipush (-100), 2), (15, .iastore, 1), (16, .iinc 1 1, 3), (19, .goto (-17), 3), (22, .iconst 0, 1), (23, .istore_n 1, 1), (24, .iload_n 1, 1), (25, .aload_n 0, 1), (26, .getfield 48, 3), (29, .if_icmp .ge 52, 3), (32, .aload_n 0, 1), (33, .iload_n 1, 1), (34, .invokevirtual 78, 3), (37, .ifCond .eq 16, 3), (40, .aload_n 0, 1), (41, .aload_n 0, 1), (42, .iload_n 1, 1), (43, .invokevirtual 81, 3), (46, .iload_n 1, 1), (47, .invokevirtual 85, 3), (50, .goto 25, 3), (53, .aload_n 0, 1), (54, .iload_n 1, 1), (55, .invokevirtual 89, 3), (58, .ifCond .eq 17, 3), (61, .aload_n 0, 1), (62, .aload_n 0, 1), (63, .iload_n 1, 1), (64, .invokevirtual 81, 3), (67, .iconst 5, 1), (68, .iadd, 1), (69, .iload_n 1, 1), (70, .iconst 1, 1), (71, .iadd, 1), (72, .invokevirtual 85, 3), (75, .iinc 1 1, 3), (78, .goto (-54), 3), (81, .return_, 1)]
set_option maxRecDepth 100000 in
theorem dk_Program_findLandings : ∀ q ∈ dl_Program_findLandings, decode prog_8_method_13_code q.1 = .ok q.2 := by decide +kernel
abbrev rm_Program_findLandings : Room := { frames := 2, cells := 0, slots := 0, locals := 42 }
theorem cw_Program_findLandings : CWV y_Program_findLandings prog_8_method_13_code 2 none 0 := ⟨⟨g_4_52, g_1_6, by decide, by decide, by decide +kernel⟩, g_4_50, g_4_51⟩
set_option maxHeartbeats 4000000 in
set_option maxRecDepth 100000 in
theorem t_Program_findLandings_B24 {k : Cfg} {res : St} (C : Cx k prog_8_method_13_code "BundleHouse$Program") (hR : RV k res) (hRm : k.2.2.2.1 = rm_Program_findLandings) (hnL : k.2.2.2.2.2.2.2.2.2.2.2.1 = 2) : ∀ (n : Nat) (v0 : Nat) (v1 : Int32) (ho_v0 : kd v0 = 5) (σ : St), Program_findLandings_B24 n v0 v1 σ = some res → WW k 24 [(0, .ref (ad k v0)), (1, .int v1)] [] σ := by
  intro n
  induction n with
  | zero =>
    intro v0 v1 ho_v0 σ h
    have h : (none : Option (St)) = some res := h
    cases h
  | succ n ih =>
    intro v0 v1 ho_v0 σ h
    unfold Program_findLandings_B24 at h
    refine ww_iload_n C 1 rfl rfl (dq dk_Program_findLandings 14 rfl) ?_
    refine ww_aload_n C 0 rfl rfl (dq dk_Program_findLandings 15 rfl) ?_
    refine ww_geti C ko_Program 4 ho_v0 (lt_ rfl) g_1_186 rfl rfl (dq dk_Program_findLandings 16 rfl) ?_
    refine ww_icmp_ge C 81 (dq dk_Program_findLandings 17 rfl) (by decide) h (fun h => ?_) (fun h => ?_)
    · exact ww_vret C hR (dq dk_Program_findLandings 45 rfl) h
    · refine ww_aload_n C 0 rfl rfl (dq dk_Program_findLandings 18 rfl) ?_
      refine ww_iload_n C 1 rfl rfl (dq dk_Program_findLandings 19 rfl) ?_
      refine ww_cVi (st := []) C (c_Program_isMarked v0 ho_v0 v1) cw_Program_isMarked ho_v0 (lt_ rfl) rfl g_4_53 hRm ⟨⟨rfl, rfl⟩, le_ rfl, le_ rfl⟩ rfl rfl rfl (le_ rfl) (dq dk_Program_findLandings 20 rfl) h (fun x2 σ1 h => ?_)
      refine ww_if_eq C 53 (dq dk_Program_findLandings 21 rfl) (by decide) h (fun h => ?_) (fun h => ?_)
      · refine ww_aload_n C 0 rfl rfl (dq dk_Program_findLandings 29 rfl) ?_
        refine ww_iload_n C 1 rfl rfl (dq dk_Program_findLandings 30 rfl) ?_
        refine ww_cVi (st := []) C (c_Program_pushes v0 ho_v0 v1) cw_Program_pushes ho_v0 (lt_ rfl) rfl g_4_59 hRm ⟨⟨rfl, rfl⟩, le_ rfl, le_ rfl⟩ rfl rfl rfl (le_ rfl) (dq dk_Program_findLandings 31 rfl) h (fun x4 σ3 h => ?_)
        refine ww_if_eq C 75 (dq dk_Program_findLandings 32 rfl) (by decide) h (fun h => ?_) (fun h => ?_)
        · refine ww_iinc C 1 (fun z => [(1, .int z), (0, .ref (ad k v0))]) rfl ic_1 hnL (lt_ rfl) (fun _ => rfl) (dq dk_Program_findLandings 43 rfl) h (fun x5 h => ?_)
          refine ww_goto C 24 (dq dk_Program_findLandings 44 rfl) (by decide) ?_
          exact ww_lv [1, 0] rfl (ih v0 x5 ho_v0 σ3 h)
        · refine ww_aload_n C 0 rfl rfl (dq dk_Program_findLandings 33 rfl) ?_
          refine ww_aload_n C 0 rfl rfl (dq dk_Program_findLandings 34 rfl) ?_
          refine ww_iload_n C 1 rfl rfl (dq dk_Program_findLandings 35 rfl) ?_
          refine ww_cVi (st := [.ref (ad k v0)]) C (c_Program_itemPlace v0 ho_v0 v1) cw_Program_itemPlace ho_v0 (lt_ rfl) rfl g_4_54 hRm ⟨⟨rfl, rfl⟩, le_ rfl, le_ rfl⟩ rfl rfl rfl (le_ rfl) (dq dk_Program_findLandings 36 rfl) h (fun x7 σ6 h => ?_)
          refine ww_iconst C (dq dk_Program_findLandings 37 rfl) ic_5 ?_
          refine ww_iadd C (dq dk_Program_findLandings 38 rfl) ?_
          refine ww_iload_n C 1 rfl rfl (dq dk_Program_findLandings 39 rfl) ?_
          refine ww_iconst C (dq dk_Program_findLandings 40 rfl) ic_1 ?_
          refine ww_iadd C (dq dk_Program_findLandings 41 rfl) ?_
          refine ww_cVv (st := []) C (c_Program_giveLanding v0 ho_v0 (x7 + 5) (v1 + 1)) cw_Program_giveLanding ho_v0 (lt_ rfl) rfl g_4_55 hRm ⟨⟨rfl, rfl⟩, le_ rfl, le_ rfl⟩ rfl rfl rfl (le_ rfl) (dq dk_Program_findLandings 42 rfl) h (fun σ8 h => ?_)
          refine ww_iinc C 1 (fun z => [(1, .int z), (0, .ref (ad k v0))]) rfl ic_1 hnL (lt_ rfl) (fun _ => rfl) (dq dk_Program_findLandings 43 rfl) h (fun x9 h => ?_)
          refine ww_goto C 24 (dq dk_Program_findLandings 44 rfl) (by decide) ?_
          exact ww_lv [1, 0] rfl (ih v0 x9 ho_v0 σ8 h)
      · refine ww_aload_n C 0 rfl rfl (dq dk_Program_findLandings 22 rfl) ?_
        refine ww_aload_n C 0 rfl rfl (dq dk_Program_findLandings 23 rfl) ?_
        refine ww_iload_n C 1 rfl rfl (dq dk_Program_findLandings 24 rfl) ?_
        refine ww_cVi (st := [.ref (ad k v0)]) C (c_Program_itemPlace v0 ho_v0 v1) cw_Program_itemPlace ho_v0 (lt_ rfl) rfl g_4_54 hRm ⟨⟨rfl, rfl⟩, le_ rfl, le_ rfl⟩ rfl rfl rfl (le_ rfl) (dq dk_Program_findLandings 25 rfl) h (fun x11 σ10 h => ?_)
        refine ww_iload_n C 1 rfl rfl (dq dk_Program_findLandings 26 rfl) ?_
        refine ww_cVv (st := []) C (c_Program_giveLanding v0 ho_v0 x11 v1) cw_Program_giveLanding ho_v0 (lt_ rfl) rfl g_4_55 hRm ⟨⟨rfl, rfl⟩, le_ rfl, le_ rfl⟩ rfl rfl rfl (le_ rfl) (dq dk_Program_findLandings 27 rfl) h (fun σ12 h => ?_)
        refine ww_goto C 75 (dq dk_Program_findLandings 28 rfl) (by decide) ?_
        refine ww_iinc C 1 (fun z => [(1, .int z), (0, .ref (ad k v0))]) rfl ic_1 hnL (lt_ rfl) (fun _ => rfl) (dq dk_Program_findLandings 43 rfl) h (fun x13 h => ?_)
        refine ww_goto C 24 (dq dk_Program_findLandings 44 rfl) (by decide) ?_
        exact ww_lv [1, 0] rfl (ih v0 x13 ho_v0 σ12 h)
set_option maxHeartbeats 4000000 in
set_option maxRecDepth 100000 in
theorem t_Program_findLandings_B2 {k : Cfg} {res : St} (C : Cx k prog_8_method_13_code "BundleHouse$Program") (hR : RV k res) (hRm : k.2.2.2.1 = rm_Program_findLandings) (hnL : k.2.2.2.2.2.2.2.2.2.2.2.1 = 2) : ∀ (n : Nat) (v0 : Nat) (v1 : Int32) (ho_v0 : kd v0 = 5) (σ : St), Program_findLandings_B2 n v0 v1 σ = some res → WW k 2 [(0, .ref (ad k v0)), (1, .int v1)] [] σ := by
  intro n
  induction n with
  | zero =>
    intro v0 v1 ho_v0 σ h
    have h : (none : Option (St)) = some res := h
    cases h
  | succ n ih =>
    intro v0 v1 ho_v0 σ h
    unfold Program_findLandings_B2 at h
    refine ww_iload_n C 1 rfl rfl (dq dk_Program_findLandings 2 rfl) ?_
    refine ww_bipush C (dq dk_Program_findLandings 3 rfl) bp_64 ?_
    refine ww_icmp_ge C 22 (dq dk_Program_findLandings 4 rfl) (by decide) h (fun h => ?_) (fun h => ?_)
    · refine ww_iconst C (dq dk_Program_findLandings 12 rfl) ic_0 ?_
      refine ww_istore_n C [(1, .int 0), (0, .ref (ad k v0))] rfl hnL (lt_ rfl) rfl (dq dk_Program_findLandings 13 rfl) ?_
      exact ww_lv [1, 0] rfl (t_Program_findLandings_B24 C hR hRm hnL FU v0 0 ho_v0 σ h)
    · refine ww_aload_n C 0 rfl rfl (dq dk_Program_findLandings 5 rfl) ?_
      refine ww_getr C ko_Program 13 ho_v0 (lt_ rfl) g_1_198 rfl rfl (dq dk_Program_findLandings 6 rfl) ?_
      refine ww_iload_n C 1 rfl rfl (dq dk_Program_findLandings 7 rfl) ?_
      refine ww_bipush C (dq dk_Program_findLandings 8 rfl) bp_m100 ?_
      refine ww_iast C (kc_Program_13 _ ho_v0).1 (kc_Program_13 _ ho_v0).2 (dq dk_Program_findLandings 9 rfl) h (fun σ1 h => ?_)
      refine ww_iinc C 1 (fun z => [(1, .int z), (0, .ref (ad k v0))]) rfl ic_1 hnL (lt_ rfl) (fun _ => rfl) (dq dk_Program_findLandings 10 rfl) h (fun x2 h => ?_)
      refine ww_goto C 2 (dq dk_Program_findLandings 11 rfl) (by decide) ?_
      exact ww_lv [1, 0] rfl (ih v0 x2 ho_v0 σ1 h)
set_option maxHeartbeats 4000000 in
set_option maxRecDepth 100000 in
theorem c_Program_findLandings (v0 : Nat) (ho_v0 : kd v0 = 5) : MV y_Program_findLandings rm_Program_findLandings prog_8_method_13_code 2 (fun a => [.ref (a v0)]) (Program_findLandings v0) := by
  refine mv_of (by decide) (fun _ => le_ rfl) ?_
  intro k res σ C hR hRm hnL h
  unfold Program_findLandings at h
  show WW k 0 [(0, .ref (ad k v0))] [] σ
  refine ww_iconst C (dq dk_Program_findLandings 0 rfl) ic_0 ?_
  refine ww_istore_n C [(1, .int 0), (0, .ref (ad k v0))] rfl hnL (lt_ rfl) rfl (dq dk_Program_findLandings 1 rfl) ?_
  exact ww_lv [1, 0] rfl (t_Program_findLandings_B2 C hR hRm hnL FU v0 0 ho_v0 σ h)
abbrev y_Program_landingAt : MethodName := ⟨"BundleHouse$Program", "landingAt", "(I)I"⟩
def dl_Program_landingAt : List (Nat × Instr × Nat) := [(0, .iload_n 1, 1), (1, .invokestatic 92, 3), (4, .ifCond .eq 10, 3), (7, .iconst (-1), 1), (8, .iload_n 1, 1), (9, .bipush 16, 2), (11, .idiv, 1), (12, .isub, 1), (13, .ireturn, 1), (14, .iload_n 1, 1), (15, .sipush 256, 3), (18, .isub, 1), (19, .bipush 16, 2), (21, .idiv, 1), (22, .istore_n 2, 1), (23, .iload_n 1, 1), (24, .sipush 256, 3), (27, .if_icmp .lt 20, 3), (30, .iload_n 1, 1), (31, .bipush 16, 2), (33, .irem, 1), (34, .ifCond .ne 13, 3), (37, .iload_n 2, 1), (38, .ifCond .lt 9, 3), (41, .iload_n 2, 1), (42, .bipush 64, 2), (44, .if_icmp .lt 6, 3), (47, .bipush (-100), 2), (49, .ireturn, 1), (50, .aload_n 0, 1), (51, .getfield 45, 3), (54, .iload_n 2, 1), (55, .iaload, 1), (56, .ireturn, 1)]
set_option maxRecDepth 100000 in
theorem dk_Program_landingAt : ∀ q ∈ dl_Program_landingAt, decode prog_8_method_15_code q.1 = .ok q.2 := by decide +kernel
abbrev rm_Program_landingAt : Room := { frames := 1, cells := 0, slots := 0, locals := 20 }
theorem cw_Program_landingAt : CWV y_Program_landingAt prog_8_method_15_code 3 (some .int) 1 := ⟨⟨g_5_205, g_1_6, by decide, by decide, by decide +kernel⟩, g_5_203, g_5_204⟩
set_option maxHeartbeats 4000000 in
set_option maxRecDepth 100000 in
theorem c_Program_landingAt (v0 : Nat) (ho_v0 : kd v0 = 5) (v1 : Int32) : MI y_Program_landingAt rm_Program_landingAt prog_8_method_15_code 3 .int (fun a => [.ref (a v0), .int v1]) (Program_landingAt v0 v1) := by
  refine mi_of (by decide) (fun _ => le_ rfl) ?_
  intro k res σ C hR hRm hnL h
  unfold Program_landingAt at h
  show WW k 0 [(0, .ref (ad k v0)), (1, .int v1)] [] σ
  refine ww_iload_n C 1 rfl rfl (dq dk_Program_landingAt 0 rfl) ?_
  refine ww_cNi (st := []) C (c_House_isService v1) cw_House_isService nw_19 hRm ⟨⟨rfl, rfl⟩, le_ rfl, le_ rfl⟩ rfl rfl rfl (le_ rfl) (dq dk_Program_landingAt 1 rfl) h (fun x2 σ1 h => ?_)
  refine ww_if_eq C 14 (dq dk_Program_landingAt 2 rfl) (by decide) h (fun h => ?_) (fun h => ?_)
  · refine ww_iload_n C 1 rfl rfl (dq dk_Program_landingAt 9 rfl) ?_
    refine ww_sipush C (dq dk_Program_landingAt 10 rfl) sp_256 ?_
    refine ww_isub C (dq dk_Program_landingAt 11 rfl) ?_
    refine ww_bipush C (dq dk_Program_landingAt 12 rfl) bp_16 ?_
    refine ww_idiv C (by decide) (dq dk_Program_landingAt 13 rfl) ?_
    refine ww_nmi h (fun x3 h => ?_)
    refine ww_istore_n C [(2, .int x3), (0, .ref (ad k v0)), (1, .int v1)] rfl hnL (lt_ rfl) rfl (dq dk_Program_landingAt 14 rfl) ?_
    refine ww_iload_n C 2 rfl rfl (dq dk_Program_landingAt 15 rfl) ?_
    refine ww_sipush C (dq dk_Program_landingAt 16 rfl) sp_256 ?_
    refine ww_icmp_lt C 47 (dq dk_Program_landingAt 17 rfl) (by decide) h (fun h => ?_) (fun h => ?_)
    · refine ww_bipush C (dq dk_Program_landingAt 27 rfl) bp_m100 ?_
      exact ww_iret C hR (dq dk_Program_landingAt 28 rfl) h
    · refine ww_iload_n C 2 rfl rfl (dq dk_Program_landingAt 18 rfl) ?_
      refine ww_bipush C (dq dk_Program_landingAt 19 rfl) bp_16 ?_
      refine ww_irem C (by decide) (dq dk_Program_landingAt 20 rfl) ?_
      refine ww_if_ne C 47 (dq dk_Program_landingAt 21 rfl) (by decide) h (fun h => ?_) (fun h => ?_)
      · refine ww_bipush C (dq dk_Program_landingAt 27 rfl) bp_m100 ?_
        exact ww_iret C hR (dq dk_Program_landingAt 28 rfl) h
      · refine ww_iload_n C 0 rfl rfl (dq dk_Program_landingAt 22 rfl) ?_
        refine ww_if_lt C 47 (dq dk_Program_landingAt 23 rfl) (by decide) h (fun h => ?_) (fun h => ?_)
        · refine ww_bipush C (dq dk_Program_landingAt 27 rfl) bp_m100 ?_
          exact ww_iret C hR (dq dk_Program_landingAt 28 rfl) h
        · refine ww_iload_n C 0 rfl rfl (dq dk_Program_landingAt 24 rfl) ?_
          refine ww_bipush C (dq dk_Program_landingAt 25 rfl) bp_64 ?_
          refine ww_icmp_lt C 50 (dq dk_Program_landingAt 26 rfl) (by decide) h (fun h => ?_) (fun h => ?_)
          · refine ww_aload_n C 1 rfl rfl (dq dk_Program_landingAt 29 rfl) ?_
            refine ww_getr C ko_Program 13 ho_v0 (lt_ rfl) g_1_198 rfl rfl (dq dk_Program_landingAt 30 rfl) ?_
            refine ww_iload_n C 0 rfl rfl (dq dk_Program_landingAt 31 rfl) ?_
            refine ww_iald C (kc_Program_13 _ ho_v0).1 (kc_Program_13 _ ho_v0).2 (dq dk_Program_landingAt 32 rfl) h (fun x4 h => ?_)
            exact ww_iret C hR (dq dk_Program_landingAt 33 rfl) h
          · refine ww_bipush C (dq dk_Program_landingAt 27 rfl) bp_m100 ?_
            exact ww_iret C hR (dq dk_Program_landingAt 28 rfl) h
  · refine ww_iconst C (dq dk_Program_landingAt 3 rfl) ic_m1 ?_
    refine ww_iload_n C 1 rfl rfl (dq dk_Program_landingAt 4 rfl) ?_
    refine ww_bipush C (dq dk_Program_landingAt 5 rfl) bp_16 ?_
    refine ww_idiv C (by decide) (dq dk_Program_landingAt 6 rfl) ?_
    refine ww_isub C (dq dk_Program_landingAt 7 rfl) ?_
    exact ww_iret C hR (dq dk_Program_landingAt 8 rfl) h
abbrev y_Program_pastLabels : MethodName := ⟨"BundleHouse$Program", "pastLabels", "(I)I"⟩
def dl_Program_pastLabels : List (Nat × Instr × Nat) := [(0, .iload_n 1, 1), (1, .iconst 0, 1), (2, .invokestatic 95, 3), (5, .istore_n 2, 1), (6, .iload_n 2, 1), (7, .aload_n 0, 1), (8, .getfield 48, 3), (11, .if_icmp .ge 24, 3), (14, .iload_n 2, 1), (15, .bipush 120, 2), (17, .if_icmp .ge 18, 3), (20, .aload_n 0, 1), (21, .getfield 9, 3), (24, .iload_n 2, 1), (25, .iaload, 1), (26, .ifCond .ne 9, 3), (29, .iinc 2 1, 3), (32, .goto (-26), 3), (35, .iload_n 2, 1), (36, .ireturn, 1)]
set_option maxRecDepth 100000 in
theorem dk_Program_pastLabels : ∀ q ∈ dl_Program_pastLabels, decode prog_8_method_16_code q.1 = .ok q.2 := by decide +kernel
abbrev rm_Program_pastLabels : Room := { frames := 1, cells := 0, slots := 0, locals := 21 }
theorem cw_Program_pastLabels : CWV y_Program_pastLabels prog_8_method_16_code 3 (some .int) 1 := ⟨⟨g_5_189, g_1_6, by decide, by decide, by decide +kernel⟩, g_5_187, g_5_188⟩
set_option maxHeartbeats 4000000 in
set_option maxRecDepth 100000 in
theorem t_Program_pastLabels_B6 {k : Cfg} {res : Int32 × St} (C : Cx k prog_8_method_16_code "BundleHouse$Program") (hR : RI k .int res) (hRm : k.2.2.2.1 = rm_Program_pastLabels) (hnL : k.2.2.2.2.2.2.2.2.2.2.2.1 = 3) : ∀ (n : Nat) (v0 : Nat) (v2 : Int32) (ho_v0 : kd v0 = 5) (σ : St), Program_pastLabels_B6 n v0 v2 σ = some res → WW k 6 [(0, .ref (ad k v0)), (2, .int v2)] [] σ := by
  intro n
  induction n with
  | zero =>
    intro v0 v2 ho_v0 σ h
    have h : (none : Option (Int32 × St)) = some res := h
    cases h
  | succ n ih =>
    intro v0 v2 ho_v0 σ h
    unfold Program_pastLabels_B6 at h
    refine ww_iload_n C 1 rfl rfl (dq dk_Program_pastLabels 4 rfl) ?_
    refine ww_aload_n C 0 rfl rfl (dq dk_Program_pastLabels 5 rfl) ?_
    refine ww_geti C ko_Program 4 ho_v0 (lt_ rfl) g_1_186 rfl rfl (dq dk_Program_pastLabels 6 rfl) ?_
    refine ww_icmp_ge C 35 (dq dk_Program_pastLabels 7 rfl) (by decide) h (fun h => ?_) (fun h => ?_)
    · refine ww_iload_n C 1 rfl rfl (dq dk_Program_pastLabels 18 rfl) ?_
      exact ww_iret C hR (dq dk_Program_pastLabels 19 rfl) h
    · refine ww_iload_n C 1 rfl rfl (dq dk_Program_pastLabels 8 rfl) ?_
      refine ww_bipush C (dq dk_Program_pastLabels 9 rfl) bp_120 ?_
      refine ww_icmp_ge C 35 (dq dk_Program_pastLabels 10 rfl) (by decide) h (fun h => ?_) (fun h => ?_)
      · refine ww_iload_n C 1 rfl rfl (dq dk_Program_pastLabels 18 rfl) ?_
        exact ww_iret C hR (dq dk_Program_pastLabels 19 rfl) h
      · refine ww_aload_n C 0 rfl rfl (dq dk_Program_pastLabels 11 rfl) ?_
        refine ww_getr C ko_Program 0 ho_v0 (lt_ rfl) g_1_175 rfl rfl (dq dk_Program_pastLabels 12 rfl) ?_
        refine ww_iload_n C 1 rfl rfl (dq dk_Program_pastLabels 13 rfl) ?_
        refine ww_iald C (kc_Program_0 _ ho_v0).1 (kc_Program_0 _ ho_v0).2 (dq dk_Program_pastLabels 14 rfl) h (fun x1 h => ?_)
        refine ww_if_ne C 35 (dq dk_Program_pastLabels 15 rfl) (by decide) h (fun h => ?_) (fun h => ?_)
        · refine ww_iload_n C 1 rfl rfl (dq dk_Program_pastLabels 18 rfl) ?_
          exact ww_iret C hR (dq dk_Program_pastLabels 19 rfl) h
        · refine ww_iinc C 1 (fun z => [(2, .int z), (0, .ref (ad k v0))]) rfl ic_1 hnL (lt_ rfl) (fun _ => rfl) (dq dk_Program_pastLabels 16 rfl) h (fun x2 h => ?_)
          refine ww_goto C 6 (dq dk_Program_pastLabels 17 rfl) (by decide) ?_
          exact ww_lv [1, 0] rfl (ih v0 x2 ho_v0 σ h)
set_option maxHeartbeats 4000000 in
set_option maxRecDepth 100000 in
theorem c_Program_pastLabels (v0 : Nat) (ho_v0 : kd v0 = 5) (v1 : Int32) : MI y_Program_pastLabels rm_Program_pastLabels prog_8_method_16_code 3 .int (fun a => [.ref (a v0), .int v1]) (Program_pastLabels v0 v1) := by
  refine mi_of (by decide) (fun _ => le_ rfl) ?_
  intro k res σ C hR hRm hnL h
  unfold Program_pastLabels at h
  show WW k 0 [(0, .ref (ad k v0)), (1, .int v1)] [] σ
  refine ww_iload_n C 1 rfl rfl (dq dk_Program_pastLabels 0 rfl) ?_
  refine ww_iconst C (dq dk_Program_pastLabels 1 rfl) ic_0 ?_
  refine ww_mmax C g_5_190 g_4_68 g_1_15 g_4_69 (by rw [hRm]; exact ⟨le_ rfl, le_ rfl⟩) (dq dk_Program_pastLabels 2 rfl) ?_
  refine ww_nmi h (fun x1 h => ?_)
  refine ww_istore_n C [(2, .int x1), (0, .ref (ad k v0)), (1, .int v1)] rfl hnL (lt_ rfl) rfl (dq dk_Program_pastLabels 3 rfl) ?_
  exact ww_lv [1, 0] rfl (t_Program_pastLabels_B6 C hR hRm hnL FU v0 x1 ho_v0 σ h)
abbrev y_Program_addressOf : MethodName := ⟨"BundleHouse$Program", "addressOf", "(I)I"⟩
def dl_Program_addressOf : List (Nat × Instr × Nat) := [(0, .iload_n 1, 1), (1, .ifCond .ge 10, 3), (4, .iconst (-1), 1), (5, .iload_n 1, 1), (6, .isub, 1), (7, .bipush 16, 2), (9, .imul, 1), (10, .ireturn, 1), (11, .sipush 256, 3), (14, .aload_n 0, 1), (15, .iload_n 1, 1), (16, .invokevirtual 65, 3), (19, .ifCond .eq 12, 3), (22, .aload_n 0, 1), (23, .getfield 21, 3), (26, .iload_n 1, 1), (27, .iaload, 1), (28, .goto 7, 3), (31, .aload_n 0, 1), (32, .getfield 62, 3), (35, .iadd, 1), (36, .ireturn, 1)]
set_option maxRecDepth 100000 in
theorem dk_Program_addressOf : ∀ q ∈ dl_Program_addressOf, decode prog_8_method_17_code q.1 = .ok q.2 := by decide +kernel
abbrev rm_Program_addressOf : Room := { frames := 1, cells := 0, slots := 0, locals := 21 }
theorem cw_Program_addressOf : CWV y_Program_addressOf prog_8_method_17_code 2 (some .int) 1 := ⟨⟨g_6_3, g_1_6, by decide, by decide, by decide +kernel⟩, g_6_1, g_6_2⟩
set_option maxHeartbeats 4000000 in
set_option maxRecDepth 100000 in
theorem c_Program_addressOf (v0 : Nat) (ho_v0 : kd v0 = 5) (v1 : Int32) : MI y_Program_addressOf rm_Program_addressOf prog_8_method_17_code 2 .int (fun a => [.ref (a v0), .int v1]) (Program_addressOf v0 v1) := by
  refine mi_of (by decide) (fun _ => le_ rfl) ?_
  intro k res σ C hR hRm hnL h
  unfold Program_addressOf at h
  show WW k 0 [(0, .ref (ad k v0)), (1, .int v1)] [] σ
  refine ww_iload_n C 1 rfl rfl (dq dk_Program_addressOf 0 rfl) ?_
  refine ww_if_ge C 11 (dq dk_Program_addressOf 1 rfl) (by decide) h (fun h => ?_) (fun h => ?_)
  · refine ww_sipush C (dq dk_Program_addressOf 8 rfl) sp_256 ?_
    refine ww_aload_n C 0 rfl rfl (dq dk_Program_addressOf 9 rfl) ?_
    refine ww_iload_n C 1 rfl rfl (dq dk_Program_addressOf 10 rfl) ?_
    refine ww_cVi (st := [.int 256]) C (c_Program_hasItem v0 ho_v0 v1) cw_Program_hasItem ho_v0 (lt_ rfl) rfl g_3_158 hRm ⟨⟨rfl, rfl⟩, le_ rfl, le_ rfl⟩ rfl rfl rfl (le_ rfl) (dq dk_Program_addressOf 11 rfl) h (fun x2 σ1 h => ?_)
    refine ww_if_eq C 31 (dq dk_Program_addressOf 12 rfl) (by decide) h (fun h => ?_) (fun h => ?_)
    · refine ww_aload_n C 0 rfl rfl (dq dk_Program_addressOf 18 rfl) ?_
      refine ww_geti C ko_Program 5 ho_v0 (lt_ rfl) g_1_190 rfl rfl (dq dk_Program_addressOf 19 rfl) ?_
      refine ww_iadd C (dq dk_Program_addressOf 20 rfl) ?_
      exact ww_iret C hR (dq dk_Program_addressOf 21 rfl) h
    · refine ww_aload_n C 0 rfl rfl (dq dk_Program_addressOf 13 rfl) ?_
      refine ww_getr C ko_Program 3 ho_v0 (lt_ rfl) g_1_184 rfl rfl (dq dk_Program_addressOf 14 rfl) ?_
      refine ww_iload_n C 1 rfl rfl (dq dk_Program_addressOf 15 rfl) ?_
      refine ww_iald C (kc_Program_3 _ ho_v0).1 (kc_Program_3 _ ho_v0).2 (dq dk_Program_addressOf 16 rfl) h (fun x3 h => ?_)
      refine ww_goto C 35 (dq dk_Program_addressOf 17 rfl) (by decide) ?_
      refine ww_iadd C (dq dk_Program_addressOf 20 rfl) ?_
      exact ww_iret C hR (dq dk_Program_addressOf 21 rfl) h
  · refine ww_iconst C (dq dk_Program_addressOf 2 rfl) ic_m1 ?_
    refine ww_iload_n C 1 rfl rfl (dq dk_Program_addressOf 3 rfl) ?_
    refine ww_isub C (dq dk_Program_addressOf 4 rfl) ?_
    refine ww_bipush C (dq dk_Program_addressOf 5 rfl) bp_16 ?_
    refine ww_imul C (dq dk_Program_addressOf 6 rfl) ?_
    exact ww_iret C hR (dq dk_Program_addressOf 7 rfl) h
abbrev y_Piece_put : MethodName := ⟨"BundleHouse$Piece", "put", "(I)V"⟩
def dl_Piece_put : List (Nat × Instr × Nat) := [(0, .aload_n 0, 1), (1, .getfield 15, 3), (4, .bipush 16, 2), (6, .if_icmp .ge 27, 3), (9, .aload_n 0, 1), (10, .getfield 11, 3), (13, .aload_n 0, 1), (14, .getfield 15, 3), (17, .iload_n 1, 1), (18, .sipush 255, 3), (21, .iand, 1), (22, .iastore, 1), (23, .aload_n 0, 1), (24, .dup, 1), (25, .getfield 15, 3), (28, .iconst 1, 1), (29, .iadd, 1), (30, .putfield 15, 3), (33, .return_, 1)]
set_option maxRecDepth 100000 in
theorem dk_Piece_put : ∀ q ∈ dl_Piece_put, decode prog_6_method_2_code q.1 = .ok q.2 := by decide +kernel
abbrev rm_Piece_put : Room := { frames := 0, cells := 0, slots := 0, locals := 0 }
theorem cw_Piece_put : CWV y_Piece_put prog_6_method_2_code 2 none 1 := ⟨⟨g_3_200, g_1_8, by decide, by decide, by decide +kernel⟩, g_3_198, g_3_199⟩
set_option maxHeartbeats 4000000 in
set_option maxRecDepth 100000 in
theorem c_Piece_put (v0 : Nat) (ho_v0 : kd v0 = 7) (v1 : Int32) : MV y_Piece_put rm_Piece_put prog_6_method_2_code 2 (fun a => [.ref (a v0), .int v1]) (Piece_put v0 v1) := by
  refine mv_of (by decide) (fun _ => le_ rfl) ?_
  intro k res σ C hR hRm hnL h
  unfold Piece_put at h
  show WW k 0 [(0, .ref (ad k v0)), (1, .int v1)] [] σ
  refine ww_aload_n C 0 rfl rfl (dq dk_Piece_put 0 rfl) ?_
  refine ww_geti C ko_Piece 1 ho_v0 (lt_ rfl) g_2_2 rfl rfl (dq dk_Piece_put 1 rfl) ?_
  refine ww_bipush C (dq dk_Piece_put 2 rfl) bp_16 ?_
  refine ww_icmp_ge C 33 (dq dk_Piece_put 3 rfl) (by decide) h (fun h => ?_) (fun h => ?_)
  · exact ww_vret C hR (dq dk_Piece_put 18 rfl) h
  · refine ww_aload_n C 0 rfl rfl (dq dk_Piece_put 4 rfl) ?_
    refine ww_getr C ko_Piece 0 ho_v0 (lt_ rfl) g_2_0 rfl rfl (dq dk_Piece_put 5 rfl) ?_
    refine ww_aload_n C 0 rfl rfl (dq dk_Piece_put 6 rfl) ?_
    refine ww_geti C ko_Piece 1 ho_v0 (lt_ rfl) g_2_2 rfl rfl (dq dk_Piece_put 7 rfl) ?_
    refine ww_iload_n C 1 rfl rfl (dq dk_Piece_put 8 rfl) ?_
    refine ww_sipush C (dq dk_Piece_put 9 rfl) sp_255 ?_
    refine ww_iand C (dq dk_Piece_put 10 rfl) ?_
    refine ww_iast C (kc_Piece_0 _ ho_v0).1 (kc_Piece_0 _ ho_v0).2 (dq dk_Piece_put 11 rfl) h (fun σ1 h => ?_)
    refine ww_aload_n C 0 rfl rfl (dq dk_Piece_put 12 rfl) ?_
    refine ww_dup C rfl (dq dk_Piece_put 13 rfl) ?_
    refine ww_geti C ko_Piece 1 ho_v0 (lt_ rfl) g_2_2 rfl rfl (dq dk_Piece_put 14 rfl) ?_
    refine ww_iconst C (dq dk_Piece_put 15 rfl) ic_1 ?_
    refine ww_iadd C (dq dk_Piece_put 16 rfl) ?_
    refine ww_puti C ko_Piece 1 ho_v0 (lt_ rfl) g_2_2 rfl rfl rfl rfl (dq dk_Piece_put 17 rfl) h (fun σ2 h => ?_)
    exact ww_vret C hR (dq dk_Piece_put 18 rfl) h
abbrev y_Piece_putFour : MethodName := ⟨"BundleHouse$Piece", "putFour", "(I)V"⟩
def dl_Piece_putFour : List (Nat × Instr × Nat) := [(0, .aload_n 0, 1), (1, .iload_n 1, 1), (2, .invokevirtual 19, 3), (5, .aload_n 0, 1), (6, .iload_n 1, 1), (7, .bipush 8, 2), (9, .ishr, 1), (10, .invokevirtual 19, 3), (13, .aload_n 0, 1), (14, .iload_n 1, 1), (15, .bipush 16, 2), (17, .ishr, 1), (18, .invokevirtual 19, 3), (21, .aload_n 0, 1), (22, .iload_n 1, 1), (23, .bipush 24, 2), (25, .ishr, 1), (26, .invokevirtual 19, 3), (29, .return_, 1)]
set_option maxRecDepth 100000 in
theorem dk_Piece_putFour : ∀ q ∈ dl_Piece_putFour, decode prog_6_method_3_code q.1 = .ok q.2 := by decide +kernel
abbrev rm_Piece_putFour : Room := { frames := 1, cells := 0, slots := 0, locals := 21 }
theorem cw_Piece_putFour : CWV y_Piece_putFour prog_6_method_3_code 2 none 1 := ⟨⟨g_3_234, g_1_8, by decide, by decide, by decide +kernel⟩, g_3_232, g_3_233⟩
set_option maxHeartbeats 4000000 in
set_option maxRecDepth 100000 in
theorem c_Piece_putFour (v0 : Nat) (ho_v0 : kd v0 = 7) (v1 : Int32) : MV y_Piece_putFour rm_Piece_putFour prog_6_method_3_code 2 (fun a => [.ref (a v0), .int v1]) (Piece_putFour v0 v1) := by
  refine mv_of (by decide) (fun _ => le_ rfl) ?_
  intro k res σ C hR hRm hnL h
  unfold Piece_putFour at h
  show WW k 0 [(0, .ref (ad k v0)), (1, .int v1)] [] σ
  refine ww_aload_n C 0 rfl rfl (dq dk_Piece_putFour 0 rfl) ?_
  refine ww_iload_n C 1 rfl rfl (dq dk_Piece_putFour 1 rfl) ?_
  refine ww_cVv (st := []) C (c_Piece_put v0 ho_v0 v1) cw_Piece_put ho_v0 (lt_ rfl) rfl g_3_197 hRm ⟨⟨rfl, rfl⟩, le_ rfl, le_ rfl⟩ rfl rfl rfl (le_ rfl) (dq dk_Piece_putFour 2 rfl) h (fun σ1 h => ?_)
  refine ww_aload_n C 0 rfl rfl (dq dk_Piece_putFour 3 rfl) ?_
  refine ww_iload_n C 1 rfl rfl (dq dk_Piece_putFour 4 rfl) ?_
  refine ww_bipush C (dq dk_Piece_putFour 5 rfl) bp_8 ?_
  refine ww_ishr C (dq dk_Piece_putFour 6 rfl) ?_
  refine ww_cVv (st := []) C (c_Piece_put v0 ho_v0 (shr v1 8)) cw_Piece_put ho_v0 (lt_ rfl) rfl g_3_197 hRm ⟨⟨rfl, rfl⟩, le_ rfl, le_ rfl⟩ rfl rfl rfl (le_ rfl) (dq dk_Piece_putFour 7 rfl) h (fun σ2 h => ?_)
  refine ww_aload_n C 0 rfl rfl (dq dk_Piece_putFour 8 rfl) ?_
  refine ww_iload_n C 1 rfl rfl (dq dk_Piece_putFour 9 rfl) ?_
  refine ww_bipush C (dq dk_Piece_putFour 10 rfl) bp_16 ?_
  refine ww_ishr C (dq dk_Piece_putFour 11 rfl) ?_
  refine ww_cVv (st := []) C (c_Piece_put v0 ho_v0 (shr v1 16)) cw_Piece_put ho_v0 (lt_ rfl) rfl g_3_197 hRm ⟨⟨rfl, rfl⟩, le_ rfl, le_ rfl⟩ rfl rfl rfl (le_ rfl) (dq dk_Piece_putFour 12 rfl) h (fun σ3 h => ?_)
  refine ww_aload_n C 0 rfl rfl (dq dk_Piece_putFour 13 rfl) ?_
  refine ww_iload_n C 1 rfl rfl (dq dk_Piece_putFour 14 rfl) ?_
  refine ww_bipush C (dq dk_Piece_putFour 15 rfl) bp_24 ?_
  refine ww_ishr C (dq dk_Piece_putFour 16 rfl) ?_
  refine ww_cVv (st := []) C (c_Piece_put v0 ho_v0 (shr v1 24)) cw_Piece_put ho_v0 (lt_ rfl) rfl g_3_197 hRm ⟨⟨rfl, rfl⟩, le_ rfl, le_ rfl⟩ rfl rfl rfl (le_ rfl) (dq dk_Piece_putFour 17 rfl) h (fun σ4 h => ?_)
  exact ww_vret C hR (dq dk_Piece_putFour 18 rfl) h
