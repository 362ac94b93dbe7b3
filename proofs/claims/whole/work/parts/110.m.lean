abbrev y_Mo_begin : MethodName := ⟨"BundleHouseModel", "begin", "(I)V"⟩
def dl_Mo_begin : List (Nat × Instr × Nat) := [(0, .aload_n 0, 1), (1, .iload_n 1, 1), (2, .putfield 313, 3), (5, .aload_n 0, 1), (6, .getfield 72, 3), (9, .iload_n 1, 1), (10, .iconst 1, 1), (11, .bastore, 1), (12, .iconst 0, 1), (13, .istore_n 2, 1), (14, .iload_n 2, 1), (15, .bipush 8, 2), (17, .if_icmp .ge 26, 3), (20, .aload_n 0, 1), (21, .getfield 75, 3), (24, .bipush 8, 2), (26, .iload_n 1, 1), (27, .imul, 1), (28, .iload_n 2, 1), (29, .iadd, 1), (30, .aload_n 0, 1), (31, .getfield 63, 3), (34, .iload_n 2, 1), (35, .iaload, 1), (36, .iastore, 1), (37, .iinc 2 1, 3), (40, .goto (-26), 3), (43, .iconst 0, 1), (44, .istore_n 2, 1), (45, .iload_n 2, 1), (46, .sipush 1024, 3), (49, .if_icmp .ge 27, 3), (52, .aload_n 0, 1), (53, .getfield 81, 3), (56, .sipush 1024, 3), (59, .iload_n 1, 1), (60, .imul, 1), (61, .iload_n 2, 1), (62, .iadd, 1), (63, .aload_n 0, 1), (64, .getfield 66, 3), (67, .iload_n 2, 1), (68, .iaload, 1), (69, .iastore, 1), (70, .iinc 2 1, 3), (73, .goto (-28), 3), (76, .iconst 0, 1), (77, .istore_n 2, 1), (78, .iload_n 2, 1), (79, .iconst 4, 1), (80, .if_icmp .ge 20, 3), (83, .aload_n 0, 1), (84, .getfield 78, 3), (87, .iconst 4, 1), (88, .iload_n 1, 1), (89, .imul, 1), (90, .iload_n 2, 1), (91, .iadd, 1), (92, .iconst 0, 1), (93, .iastore, 1), (94, .iinc 2 1, 3), (97, .goto (-19), 3), (100, .aload_n 0, 1), (101, .getfield 87, 3), (104, .iload_n 1, 1), (105, .iconst 0, 1), (106, .iastore, 1), (107, .aload_n 0, 1), (108, .getfield 93, 3), (111, .iload_n 1, 1), (112, .iconst 0, 1), (113, .iastore, 1), (114, .aload_n 0, 1), (115, .getfield 96, 3), (118, .iload_n 1, 1), (119, .iconst 0, 1), (120, .iastore, 1), (121, .aload_n 0, 1), (122, .iconst 0, 1), (123, .putfield 322, 3), (126, .iload_n 1, 1), (127, .iconst 1, 1), (128, .if_icmp .ne 11, 3), (131, .aload_n 0, 1), (132, .iconst 0, 1), (133, .putfield 316, 3), (136, .goto 8, 3), (139, .aload_n 0, 1), (140, .iconst 0, 1), (141, .putfield 325, 3), (144, .return_, 1)]
set_option maxRecDepth 100000 in
theorem dk_Mo_begin : ∀ q ∈ dl_Mo_begin, decode prog_14_method_65_code q.1 = .ok q.2 := by decide +kernel
abbrev rm_Mo_begin : Room := { frames := 0, cells := 0, slots := 0, locals := 0 }
theorem cw_Mo_begin : CWV y_Mo_begin prog_14_method_65_code 3 none 1 := ⟨⟨g_7_227, g_1_13, by decide, by decide, by decide +kernel⟩, g_7_226, gs_7_0⟩
set_option maxHeartbeats 4000000 in
set_option maxRecDepth 100000 in
theorem t_Mo_begin_B78 {k : Cfg} {res : St} (C : Cx k prog_14_method_65_code "BundleHouseModel") (hR : RV k res) (hRm : k.2.2.2.1 = rm_Mo_begin) (hnL : k.2.2.2.2.2.2.2.2.2.2.2.1 = 3) : ∀ (n : Nat) (v0 : Nat) (v1 : Int32) (v2 : Int32) (ho_v0 : kd v0 = 12) (σ : St), Mo_begin_B78 n v0 v1 v2 σ = some res → WW k 78 [(0, .ref (ad k v0)), (1, .int v1), (2, .int v2)] [] σ := by
  intro n
  induction n with
  | zero =>
    intro v0 v1 v2 ho_v0 σ h
    have h : (none : Option (St)) = some res := h
    cases h
  | succ n ih =>
    intro v0 v1 v2 ho_v0 σ h
    unfold Mo_begin_B78 at h
    refine ww_iload_n C 2 rfl rfl (dq dk_Mo_begin 48 rfl) ?_
    refine ww_iconst C (dq dk_Mo_begin 49 rfl) ic_4 ?_
    refine ww_icmp_ge C 100 (dq dk_Mo_begin 50 rfl) (by decide) h (fun h => ?_) (fun h => ?_)
    · refine ww_aload_n C 0 rfl rfl (dq dk_Mo_begin 62 rfl) ?_
      refine ww_getr C ko_Mo 35 ho_v0 (lt_ rfl) g_6_85 rfl rfl (dq dk_Mo_begin 63 rfl) ?_
      refine ww_iload_n C 1 rfl rfl (dq dk_Mo_begin 64 rfl) ?_
      refine ww_iconst C (dq dk_Mo_begin 65 rfl) ic_0 ?_
      refine ww_iast C (kc_Mo_35 _ ho_v0).1 (kc_Mo_35 _ ho_v0).2 (dq dk_Mo_begin 66 rfl) h (fun σ1 h => ?_)
      refine ww_aload_n C 0 rfl rfl (dq dk_Mo_begin 67 rfl) ?_
      refine ww_getr C ko_Mo 37 ho_v0 (lt_ rfl) g_6_87 rfl rfl (dq dk_Mo_begin 68 rfl) ?_
      refine ww_iload_n C 1 rfl rfl (dq dk_Mo_begin 69 rfl) ?_
      refine ww_iconst C (dq dk_Mo_begin 70 rfl) ic_0 ?_
      refine ww_iast C (kc_Mo_37 _ ho_v0).1 (kc_Mo_37 _ ho_v0).2 (dq dk_Mo_begin 71 rfl) h (fun σ2 h => ?_)
      refine ww_aload_n C 0 rfl rfl (dq dk_Mo_begin 72 rfl) ?_
      refine ww_getr C ko_Mo 38 ho_v0 (lt_ rfl) g_6_88 rfl rfl (dq dk_Mo_begin 73 rfl) ?_
      refine ww_iload_n C 1 rfl rfl (dq dk_Mo_begin 74 rfl) ?_
      refine ww_iconst C (dq dk_Mo_begin 75 rfl) ic_0 ?_
      refine ww_iast C (kc_Mo_38 _ ho_v0).1 (kc_Mo_38 _ ho_v0).2 (dq dk_Mo_begin 76 rfl) h (fun σ3 h => ?_)
      refine ww_aload_n C 0 rfl rfl (dq dk_Mo_begin 77 rfl) ?_
      refine ww_iconst C (dq dk_Mo_begin 78 rfl) ic_0 ?_
      refine ww_puti C ko_Mo 41 ho_v0 (lt_ rfl) g_6_91 rfl rfl rfl rfl (dq dk_Mo_begin 79 rfl) h (fun σ4 h => ?_)
      refine ww_iload_n C 1 rfl rfl (dq dk_Mo_begin 80 rfl) ?_
      refine ww_iconst C (dq dk_Mo_begin 81 rfl) ic_1 ?_
      refine ww_icmp_ne C 139 (dq dk_Mo_begin 82 rfl) (by decide) h (fun h => ?_) (fun h => ?_)
      · refine ww_aload_n C 0 rfl rfl (dq dk_Mo_begin 87 rfl) ?_
        refine ww_iconst C (dq dk_Mo_begin 88 rfl) ic_0 ?_
        refine ww_puti C ko_Mo 39 ho_v0 (lt_ rfl) g_6_89 rfl rfl rfl rfl (dq dk_Mo_begin 89 rfl) h (fun σ5 h => ?_)
        exact ww_vret C hR (dq dk_Mo_begin 90 rfl) h
      · refine ww_aload_n C 0 rfl rfl (dq dk_Mo_begin 83 rfl) ?_
        refine ww_iconst C (dq dk_Mo_begin 84 rfl) ic_0 ?_
        refine ww_putZ C ko_Mo 40 ho_v0 (lt_ rfl) g_6_90 rfl rfl rfl rfl (Or.inl rfl) (dq dk_Mo_begin 85 rfl) h (fun σ6 h => ?_)
        refine ww_goto C 144 (dq dk_Mo_begin 86 rfl) (by decide) ?_
        exact ww_vret C hR (dq dk_Mo_begin 90 rfl) h
    · refine ww_aload_n C 0 rfl rfl (dq dk_Mo_begin 51 rfl) ?_
      refine ww_getr C ko_Mo 32 ho_v0 (lt_ rfl) g_6_82 rfl rfl (dq dk_Mo_begin 52 rfl) ?_
      refine ww_iconst C (dq dk_Mo_begin 53 rfl) ic_4 ?_
      refine ww_iload_n C 1 rfl rfl (dq dk_Mo_begin 54 rfl) ?_
      refine ww_imul C (dq dk_Mo_begin 55 rfl) ?_
      refine ww_iload_n C 2 rfl rfl (dq dk_Mo_begin 56 rfl) ?_
      refine ww_iadd C (dq dk_Mo_begin 57 rfl) ?_
      refine ww_iconst C (dq dk_Mo_begin 58 rfl) ic_0 ?_
      refine ww_iast C (kc_Mo_32 _ ho_v0).1 (kc_Mo_32 _ ho_v0).2 (dq dk_Mo_begin 59 rfl) h (fun σ7 h => ?_)
      refine ww_iinc C 2 (fun z => [(2, .int z), (0, .ref (ad k v0)), (1, .int v1)]) rfl ic_1 hnL (lt_ rfl) (fun _ => rfl) (dq dk_Mo_begin 60 rfl) h (fun x8 h => ?_)
      refine ww_goto C 78 (dq dk_Mo_begin 61 rfl) (by decide) ?_
      exact ww_lv [1, 2, 0] rfl (ih v0 v1 x8 ho_v0 σ7 h)
set_option maxHeartbeats 4000000 in
set_option maxRecDepth 100000 in
theorem t_Mo_begin_B45 {k : Cfg} {res : St} (C : Cx k prog_14_method_65_code "BundleHouseModel") (hR : RV k res) (hRm : k.2.2.2.1 = rm_Mo_begin) (hnL : k.2.2.2.2.2.2.2.2.2.2.2.1 = 3) : ∀ (n : Nat) (v0 : Nat) (v1 : Int32) (v2 : Int32) (ho_v0 : kd v0 = 12) (σ : St), Mo_begin_B45 n v0 v1 v2 σ = some res → WW k 45 [(0, .ref (ad k v0)), (1, .int v1), (2, .int v2)] [] σ := by
  intro n
  induction n with
  | zero =>
    intro v0 v1 v2 ho_v0 σ h
    have h : (none : Option (St)) = some res := h
    cases h
  | succ n ih =>
    intro v0 v1 v2 ho_v0 σ h
    unfold Mo_begin_B45 at h
    refine ww_iload_n C 2 rfl rfl (dq dk_Mo_begin 29 rfl) ?_
    refine ww_sipush C (dq dk_Mo_begin 30 rfl) sp_1024 ?_
    refine ww_icmp_ge C 76 (dq dk_Mo_begin 31 rfl) (by decide) h (fun h => ?_) (fun h => ?_)
    · refine ww_iconst C (dq dk_Mo_begin 46 rfl) ic_0 ?_
      refine ww_istore_n C [(2, .int 0), (0, .ref (ad k v0)), (1, .int v1)] rfl hnL (lt_ rfl) rfl (dq dk_Mo_begin 47 rfl) ?_
      exact ww_lv [1, 2, 0] rfl (t_Mo_begin_B78 C hR hRm hnL FU v0 v1 0 ho_v0 σ h)
    · refine ww_aload_n C 0 rfl rfl (dq dk_Mo_begin 32 rfl) ?_
      refine ww_getr C ko_Mo 33 ho_v0 (lt_ rfl) g_6_83 rfl rfl (dq dk_Mo_begin 33 rfl) ?_
      refine ww_sipush C (dq dk_Mo_begin 34 rfl) sp_1024 ?_
      refine ww_iload_n C 1 rfl rfl (dq dk_Mo_begin 35 rfl) ?_
      refine ww_imul C (dq dk_Mo_begin 36 rfl) ?_
      refine ww_iload_n C 2 rfl rfl (dq dk_Mo_begin 37 rfl) ?_
      refine ww_iadd C (dq dk_Mo_begin 38 rfl) ?_
      refine ww_aload_n C 0 rfl rfl (dq dk_Mo_begin 39 rfl) ?_
      refine ww_getr C ko_Mo 27 ho_v0 (lt_ rfl) g_6_77 rfl rfl (dq dk_Mo_begin 40 rfl) ?_
      refine ww_iload_n C 2 rfl rfl (dq dk_Mo_begin 41 rfl) ?_
      refine ww_iald C (kc_Mo_27 _ ho_v0).1 (kc_Mo_27 _ ho_v0).2 (dq dk_Mo_begin 42 rfl) h (fun x1 h => ?_)
      refine ww_iast C (kc_Mo_33 _ ho_v0).1 (kc_Mo_33 _ ho_v0).2 (dq dk_Mo_begin 43 rfl) h (fun σ2 h => ?_)
      refine ww_iinc C 2 (fun z => [(2, .int z), (0, .ref (ad k v0)), (1, .int v1)]) rfl ic_1 hnL (lt_ rfl) (fun _ => rfl) (dq dk_Mo_begin 44 rfl) h (fun x3 h => ?_)
      refine ww_goto C 45 (dq dk_Mo_begin 45 rfl) (by decide) ?_
      exact ww_lv [1, 2, 0] rfl (ih v0 v1 x3 ho_v0 σ2 h)
set_option maxHeartbeats 4000000 in
set_option maxRecDepth 100000 in
theorem t_Mo_begin_B14 {k : Cfg} {res : St} (C : Cx k prog_14_method_65_code "BundleHouseModel") (hR : RV k res) (hRm : k.2.2.2.1 = rm_Mo_begin) (hnL : k.2.2.2.2.2.2.2.2.2.2.2.1 = 3) : ∀ (n : Nat) (v0 : Nat) (v1 : Int32) (v2 : Int32) (ho_v0 : kd v0 = 12) (σ : St), Mo_begin_B14 n v0 v1 v2 σ = some res → WW k 14 [(0, .ref (ad k v0)), (1, .int v1), (2, .int v2)] [] σ := by
  intro n
  induction n with
  | zero =>
    intro v0 v1 v2 ho_v0 σ h
    have h : (none : Option (St)) = some res := h
    cases h
  | succ n ih =>
    intro v0 v1 v2 ho_v0 σ h
    unfold Mo_begin_B14 at h
    refine ww_iload_n C 2 rfl rfl (dq dk_Mo_begin 10 rfl) ?_
    refine ww_bipush C (dq dk_Mo_begin 11 rfl) bp_8 ?_
    refine ww_icmp_ge C 43 (dq dk_Mo_begin 12 rfl) (by decide) h (fun h => ?_) (fun h => ?_)
    · refine ww_iconst C (dq dk_Mo_begin 27 rfl) ic_0 ?_
      refine ww_istore_n C [(2, .int 0), (0, .ref (ad k v0)), (1, .int v1)] rfl hnL (lt_ rfl) rfl (dq dk_Mo_begin 28 rfl) ?_
      exact ww_lv [1, 2, 0] rfl (t_Mo_begin_B45 C hR hRm hnL FU v0 v1 0 ho_v0 σ h)
    · refine ww_aload_n C 0 rfl rfl (dq dk_Mo_begin 13 rfl) ?_
      refine ww_getr C ko_Mo 31 ho_v0 (lt_ rfl) g_6_81 rfl rfl (dq dk_Mo_begin 14 rfl) ?_
      refine ww_bipush C (dq dk_Mo_begin 15 rfl) bp_8 ?_
      refine ww_iload_n C 1 rfl rfl (dq dk_Mo_begin 16 rfl) ?_
      refine ww_imul C (dq dk_Mo_begin 17 rfl) ?_
      refine ww_iload_n C 2 rfl rfl (dq dk_Mo_begin 18 rfl) ?_
      refine ww_iadd C (dq dk_Mo_begin 19 rfl) ?_
      refine ww_aload_n C 0 rfl rfl (dq dk_Mo_begin 20 rfl) ?_
      refine ww_getr C ko_Mo 26 ho_v0 (lt_ rfl) g_6_76 rfl rfl (dq dk_Mo_begin 21 rfl) ?_
      refine ww_iload_n C 2 rfl rfl (dq dk_Mo_begin 22 rfl) ?_
      refine ww_iald C (kc_Mo_26 _ ho_v0).1 (kc_Mo_26 _ ho_v0).2 (dq dk_Mo_begin 23 rfl) h (fun x1 h => ?_)
      refine ww_iast C (kc_Mo_31 _ ho_v0).1 (kc_Mo_31 _ ho_v0).2 (dq dk_Mo_begin 24 rfl) h (fun σ2 h => ?_)
      refine ww_iinc C 2 (fun z => [(2, .int z), (0, .ref (ad k v0)), (1, .int v1)]) rfl ic_1 hnL (lt_ rfl) (fun _ => rfl) (dq dk_Mo_begin 25 rfl) h (fun x3 h => ?_)
      refine ww_goto C 14 (dq dk_Mo_begin 26 rfl) (by decide) ?_
      exact ww_lv [1, 2, 0] rfl (ih v0 v1 x3 ho_v0 σ2 h)
set_option maxHeartbeats 4000000 in
set_option maxRecDepth 100000 in
theorem c_Mo_begin (v0 : Nat) (ho_v0 : kd v0 = 12) (v1 : Int32) : MV y_Mo_begin rm_Mo_begin prog_14_method_65_code 3 (fun a => [.ref (a v0), .int v1]) (Mo_begin v0 v1) := by
  refine mv_of (by decide) (fun _ => le_ rfl) ?_
  intro k res σ C hR hRm hnL h
  unfold Mo_begin at h
  show WW k 0 [(0, .ref (ad k v0)), (1, .int v1)] [] σ
  refine ww_aload_n C 0 rfl rfl (dq dk_Mo_begin 0 rfl) ?_
  refine ww_iload_n C 1 rfl rfl (dq dk_Mo_begin 1 rfl) ?_
  refine ww_puti C ko_Mo 42 ho_v0 (lt_ rfl) g_6_92 rfl rfl rfl rfl (dq dk_Mo_begin 2 rfl) h (fun σ1 h => ?_)
  refine ww_aload_n C 0 rfl rfl (dq dk_Mo_begin 3 rfl) ?_
  refine ww_getr C ko_Mo 30 ho_v0 (lt_ rfl) g_6_80 rfl rfl (dq dk_Mo_begin 4 rfl) ?_
  refine ww_iload_n C 1 rfl rfl (dq dk_Mo_begin 5 rfl) ?_
  refine ww_iconst C (dq dk_Mo_begin 6 rfl) ic_1 ?_
  refine ww_zastL C (kc_Mo_30 _ ho_v0).1 (kc_Mo_30 _ ho_v0).2 (Or.inr rfl) (dq dk_Mo_begin 7 rfl) h (fun σ2 h => ?_)
  refine ww_iconst C (dq dk_Mo_begin 8 rfl) ic_0 ?_
  refine ww_istore_n C [(2, .int 0), (0, .ref (ad k v0)), (1, .int v1)] rfl hnL (lt_ rfl) rfl (dq dk_Mo_begin 9 rfl) ?_
  exact ww_lv [1, 2, 0] rfl (t_Mo_begin_B14 C hR hRm hnL FU v0 v1 0 ho_v0 σ2 h)
abbrev y_Mo_result : MethodName := ⟨"BundleHouseModel", "result", "(I)V"⟩
def dl_Mo_result : List (Nat × Instr × Nat) := [(0, .aload_n 0, 1), (1, .getfield 78, 3), (4, .iconst 4, 1), (5, .aload_n 0, 1), (6, .getfield 313, 3), (9, .imul, 1), (10, .iconst 1, 1), (11, .iadd, 1), (12, .iload_n 1, 1), (13, .ifCond .ne 7, 3), (16, .iconst 1, 1), (17, .goto 4, 3), (20, .iconst 0, 1), (21, .iastore, 1), (22, .aload_n 0, 1), (23, .getfield 78, 3), (26, .iconst 4, 1), (27, .aload_n 0, 1), (28, .getfield 313, 3), (31, .imul, 1), (32, .iconst 2, 1), (33, .iadd, 1), (34, .iload_n 1, 1), (35, .ifCond .ge 7, 3), (38, .iconst 1, 1), (39, .goto 4, 3), (42, .iconst 0, 1), (43, .iastore, 1), (44, .return_, 1)]
set_option maxRecDepth 100000 in
theorem dk_Mo_result : ∀ q ∈ dl_Mo_result, decode prog_14_method_66_code q.1 = .ok q.2 := by decide +kernel
abbrev rm_Mo_result : Room := { frames := 0, cells := 0, slots := 0, locals := 0 }
theorem cw_Mo_result : CWV y_Mo_result prog_14_method_66_code 2 none 1 := ⟨⟨g_8_63, g_1_13, by decide, by decide, by decide +kernel⟩, g_8_62, gs_8_2⟩
set_option maxHeartbeats 4000000 in
set_option maxRecDepth 100000 in
theorem t_Mo_result_B21 {k : Cfg} {res : St} (C : Cx k prog_14_method_66_code "BundleHouseModel") (hR : RV k res) (hRm : k.2.2.2.1 = rm_Mo_result) (hnL : k.2.2.2.2.2.2.2.2.2.2.2.1 = 2) (v0 : Nat) (v1 : Int32) (t0 : Nat) (t1 : Int32) (t2 : Int32) (ho_v0 : kd v0 = 12) (σ : St) (h : Mo_result_B21 v0 v1 t0 t1 t2 σ = some res) : WW k 21 [(0, .ref (ad k v0)), (1, .int v1)] [.int t2, .int t1, .ref (ad k t0)] σ := by
  unfold Mo_result_B21 at h
  refine ww_srst C (dq dk_Mo_result 13 rfl) h (fun σ1 h => ?_)
  refine ww_aload_n C 0 rfl rfl (dq dk_Mo_result 14 rfl) ?_
  refine ww_getr C ko_Mo 32 ho_v0 (lt_ rfl) g_6_82 rfl rfl (dq dk_Mo_result 15 rfl) ?_
  refine ww_iconst C (dq dk_Mo_result 16 rfl) ic_4 ?_
  refine ww_aload_n C 0 rfl rfl (dq dk_Mo_result 17 rfl) ?_
  refine ww_geti C ko_Mo 42 ho_v0 (lt_ rfl) g_6_92 rfl rfl (dq dk_Mo_result 18 rfl) ?_
  refine ww_imul C (dq dk_Mo_result 19 rfl) ?_
  refine ww_iconst C (dq dk_Mo_result 20 rfl) ic_2 ?_
  refine ww_iadd C (dq dk_Mo_result 21 rfl) ?_
  refine ww_iload_n C 1 rfl rfl (dq dk_Mo_result 22 rfl) ?_
  refine ww_if_ge C 42 (dq dk_Mo_result 23 rfl) (by decide) h (fun h => ?_) (fun h => ?_)
  · refine ww_iconst C (dq dk_Mo_result 26 rfl) ic_0 ?_
    refine ww_iast C (kc_Mo_32 _ ho_v0).1 (kc_Mo_32 _ ho_v0).2 (dq dk_Mo_result 27 rfl) h (fun σ2 h => ?_)
    exact ww_vret C hR (dq dk_Mo_result 28 rfl) h
  · refine ww_iconst C (dq dk_Mo_result 24 rfl) ic_1 ?_
    refine ww_goto C 43 (dq dk_Mo_result 25 rfl) (by decide) ?_
    refine ww_iast C (kc_Mo_32 _ ho_v0).1 (kc_Mo_32 _ ho_v0).2 (dq dk_Mo_result 27 rfl) h (fun σ3 h => ?_)
    exact ww_vret C hR (dq dk_Mo_result 28 rfl) h
set_option maxHeartbeats 4000000 in
set_option maxRecDepth 100000 in
theorem c_Mo_result (v0 : Nat) (ho_v0 : kd v0 = 12) (v1 : Int32) : MV y_Mo_result rm_Mo_result prog_14_method_66_code 2 (fun a => [.ref (a v0), .int v1]) (Mo_result v0 v1) := by
  refine mv_of (by decide) (fun _ => le_ rfl) ?_
  intro k res σ C hR hRm hnL h
  unfold Mo_result at h
  show WW k 0 [(0, .ref (ad k v0)), (1, .int v1)] [] σ
  refine ww_aload_n C 0 rfl rfl (dq dk_Mo_result 0 rfl) ?_
  refine ww_getr C ko_Mo 32 ho_v0 (lt_ rfl) g_6_82 rfl rfl (dq dk_Mo_result 1 rfl) ?_
  refine ww_iconst C (dq dk_Mo_result 2 rfl) ic_4 ?_
  refine ww_aload_n C 0 rfl rfl (dq dk_Mo_result 3 rfl) ?_
  refine ww_geti C ko_Mo 42 ho_v0 (lt_ rfl) g_6_92 rfl rfl (dq dk_Mo_result 4 rfl) ?_
  refine ww_imul C (dq dk_Mo_result 5 rfl) ?_
  refine ww_iconst C (dq dk_Mo_result 6 rfl) ic_1 ?_
  refine ww_iadd C (dq dk_Mo_result 7 rfl) ?_
  refine ww_iload_n C 1 rfl rfl (dq dk_Mo_result 8 rfl) ?_
  refine ww_if_ne C 20 (dq dk_Mo_result 9 rfl) (by decide) h (fun h => ?_) (fun h => ?_)
  · refine ww_iconst C (dq dk_Mo_result 12 rfl) ic_0 ?_
    exact ww_lv [0, 1] rfl (t_Mo_result_B21 C hR hRm hnL v0 v1 (ch v0 32) ((4 * (σ v0 42)) + 1) 0 ho_v0 σ h)
  · refine ww_iconst C (dq dk_Mo_result 10 rfl) ic_1 ?_
    refine ww_goto C 21 (dq dk_Mo_result 11 rfl) (by decide) ?_
    exact ww_lv [0, 1] rfl (t_Mo_result_B21 C hR hRm hnL v0 v1 (ch v0 32) ((4 * (σ v0 42)) + 1) 1 ho_v0 σ h)
abbrev y_Mo_setFlags : MethodName := ⟨"BundleHouseModel", "setFlags", "(ZZ)V"⟩
def dl_Mo_setFlags : List (Nat × Instr × Nat) := [(0, .aload_n 0, 1), (1, .getfield 78, 3), (4, .iconst 4, 1), (5, .aload_n 0, 1), (6, .getfield 313, 3), (9, .imul, 1), (10, .iconst 0, 1), (11, .iadd, 1), (12, .iload_n 1, 1), (13, .ifCond .eq 7, 3), (16, .iconst 1, 1), (17, .goto 4, 3), (20, .iconst 0, 1), (21, .iastore, 1), (22, .aload_n 0, 1), (23, .getfield 78, 3), (26, .iconst 4, 1), (27, .aload_n 0, 1), (28, .getfield 313, 3), (31, .imul, 1), (32, .iconst 3, 1), (33, .iadd, 1), (34, .iload_n 2, 1), (35, .ifCond .eq 7, 3), (38, .iconst 1, 1), (39, .goto 4, 3), (42, .iconst 0, 1), (43, .iastore, 1), (44, .return_, 1)]
set_option maxRecDepth 100000 in
theorem dk_Mo_setFlags : ∀ q ∈ dl_Mo_setFlags, decode prog_14_method_67_code q.1 = .ok q.2 := by decide +kernel
abbrev rm_Mo_setFlags : Room := { frames := 0, cells := 0, slots := 0, locals := 0 }
theorem cw_Mo_setFlags : CWV y_Mo_setFlags prog_14_method_67_code 3 none 2 := ⟨⟨g_8_59, g_1_13, by decide, by decide, by decide +kernel⟩, g_8_58, gs_8_1⟩
set_option maxHeartbeats 4000000 in
set_option maxRecDepth 100000 in
theorem t_Mo_setFlags_B21 {k : Cfg} {res : St} (C : Cx k prog_14_method_67_code "BundleHouseModel") (hR : RV k res) (hRm : k.2.2.2.1 = rm_Mo_setFlags) (hnL : k.2.2.2.2.2.2.2.2.2.2.2.1 = 3) (v0 : Nat) (v2 : Int32) (t0 : Nat) (t1 : Int32) (t2 : Int32) (ho_v0 : kd v0 = 12) (σ : St) (h : Mo_setFlags_B21 v0 v2 t0 t1 t2 σ = some res) : WW k 21 [(0, .ref (ad k v0)), (2, .int v2)] [.int t2, .int t1, .ref (ad k t0)] σ := by
  unfold Mo_setFlags_B21 at h
  refine ww_srst C (dq dk_Mo_setFlags 13 rfl) h (fun σ1 h => ?_)
  refine ww_aload_n C 0 rfl rfl (dq dk_Mo_setFlags 14 rfl) ?_
  refine ww_getr C ko_Mo 32 ho_v0 (lt_ rfl) g_6_82 rfl rfl (dq dk_Mo_setFlags 15 rfl) ?_
  refine ww_iconst C (dq dk_Mo_setFlags 16 rfl) ic_4 ?_
  refine ww_aload_n C 0 rfl rfl (dq dk_Mo_setFlags 17 rfl) ?_
  refine ww_geti C ko_Mo 42 ho_v0 (lt_ rfl) g_6_92 rfl rfl (dq dk_Mo_setFlags 18 rfl) ?_
  refine ww_imul C (dq dk_Mo_setFlags 19 rfl) ?_
  refine ww_iconst C (dq dk_Mo_setFlags 20 rfl) ic_3 ?_
  refine ww_iadd C (dq dk_Mo_setFlags 21 rfl) ?_
  refine ww_iload_n C 1 rfl rfl (dq dk_Mo_setFlags 22 rfl) ?_
  refine ww_if_eq C 42 (dq dk_Mo_setFlags 23 rfl) (by decide) h (fun h => ?_) (fun h => ?_)
  · refine ww_iconst C (dq dk_Mo_setFlags 26 rfl) ic_0 ?_
    refine ww_iast C (kc_Mo_32 _ ho_v0).1 (kc_Mo_32 _ ho_v0).2 (dq dk_Mo_setFlags 27 rfl) h (fun σ2 h => ?_)
    exact ww_vret C hR (dq dk_Mo_setFlags 28 rfl) h
  · refine ww_iconst C (dq dk_Mo_setFlags 24 rfl) ic_1 ?_
    refine ww_goto C 43 (dq dk_Mo_setFlags 25 rfl) (by decide) ?_
    refine ww_iast C (kc_Mo_32 _ ho_v0).1 (kc_Mo_32 _ ho_v0).2 (dq dk_Mo_setFlags 27 rfl) h (fun σ3 h => ?_)
    exact ww_vret C hR (dq dk_Mo_setFlags 28 rfl) h
set_option maxHeartbeats 4000000 in
set_option maxRecDepth 100000 in
theorem c_Mo_setFlags (v0 : Nat) (ho_v0 : kd v0 = 12) (v1 : Int32) (v2 : Int32) : MV y_Mo_setFlags rm_Mo_setFlags prog_14_method_67_code 3 (fun a => [.ref (a v0), .int v1, .int v2]) (Mo_setFlags v0 v1 v2) := by
  refine mv_of (by decide) (fun _ => le_ rfl) ?_
  intro k res σ C hR hRm hnL h
  unfold Mo_setFlags at h
  show WW k 0 [(0, .ref (ad k v0)), (1, .int v1), (2, .int v2)] [] σ
  refine ww_aload_n C 0 rfl rfl (dq dk_Mo_setFlags 0 rfl) ?_
  refine ww_getr C ko_Mo 32 ho_v0 (lt_ rfl) g_6_82 rfl rfl (dq dk_Mo_setFlags 1 rfl) ?_
  refine ww_iconst C (dq dk_Mo_setFlags 2 rfl) ic_4 ?_
  refine ww_aload_n C 0 rfl rfl (dq dk_Mo_setFlags 3 rfl) ?_
  refine ww_geti C ko_Mo 42 ho_v0 (lt_ rfl) g_6_92 rfl rfl (dq dk_Mo_setFlags 4 rfl) ?_
  refine ww_imul C (dq dk_Mo_setFlags 5 rfl) ?_
  refine ww_iconst C (dq dk_Mo_setFlags 6 rfl) ic_0 ?_
  refine ww_iadd C (dq dk_Mo_setFlags 7 rfl) ?_
  refine ww_iload_n C 1 rfl rfl (dq dk_Mo_setFlags 8 rfl) ?_
  refine ww_if_eq C 20 (dq dk_Mo_setFlags 9 rfl) (by decide) h (fun h => ?_) (fun h => ?_)
  · refine ww_iconst C (dq dk_Mo_setFlags 12 rfl) ic_0 ?_
    exact ww_lv [0, 2] rfl (t_Mo_setFlags_B21 C hR hRm hnL v0 v2 (ch v0 32) ((4 * (σ v0 42)) + 0) 0 ho_v0 σ h)
  · refine ww_iconst C (dq dk_Mo_setFlags 10 rfl) ic_1 ?_
    refine ww_goto C 21 (dq dk_Mo_setFlags 11 rfl) (by decide) ?_
    exact ww_lv [0, 2] rfl (t_Mo_setFlags_B21 C hR hRm hnL v0 v2 (ch v0 32) ((4 * (σ v0 42)) + 0) 1 ho_v0 σ h)
abbrev y_Mo_added : MethodName := ⟨"BundleHouseModel", "added", "(III)I"⟩
def dl_Mo_added : List (Nat × Instr × Nat) := [(0, .iload_n 1, 1), (1, .i2l, 1), (2, .ldc2_w 328, 3), (5, .land, 1), (6, .iload_n 2, 1), (7, .i2l, 1), (8, .ldc2_w 328, 3), (11, .land, 1), (12, .ladd, 1), (13, .iload_n 3, 1), (14, .i2l, 1), (15, .ladd, 1), (16, .lstore 4, 2), (18, .iload_n 1, 1), (19, .i2l, 1), (20, .iload_n 2, 1), (21, .i2l, 1), (22, .ladd, 1), (23, .iload_n 3, 1), (24, .i2l, 1), (25, .ladd, 1), (26, .lstore 6, 2), (28, .lload 6, 2), (30, .l2i, 1), (31, .istore 8, 2), (33, .aload_n 0, 1), (34, .lload 4, 2), (36, .ldc2_w 328, 3), (39, .lcmp, 1), (40, .ifCond .le 7, 3), (43, .iconst 1, 1), (44, .goto 4, 3), (47, .iconst 0, 1), (48, .lload 6, 2), (50, .iload 8, 2), (52, .i2l, 1), (53, .lcmp, 1), (54, .ifCond .eq 7, 3), (57, .iconst 1, 1), (58, .goto 4, 3), (61, .iconst 0, 1), (62, .invokevirtual 330, 3), (65, .aload_n 0, 1), (66, .iload 8, 2), (68, .invokevirtual 334, 3), (71, .iload 8, 2), (73, .ireturn, 1)]
set_option maxRecDepth 100000 in
theorem dk_Mo_added : ∀ q ∈ dl_Mo_added, decode prog_14_method_68_code q.1 = .ok q.2 := by decide +kernel
abbrev rm_Mo_added : Room := { frames := 1, cells := 0, slots := 0, locals := 22 }
theorem cw_Mo_added : CWV y_Mo_added prog_14_method_68_code 9 (some .int) 3 := ⟨⟨g_8_54, g_1_13, by decide, by decide, by decide +kernel⟩, g_8_53, gs_8_0⟩
set_option maxHeartbeats 4000000 in
set_option maxRecDepth 100000 in
theorem t_Mo_added_B62 {k : Cfg} {res : Int32 × St} (C : Cx k prog_14_method_68_code "BundleHouseModel") (hR : RI k .int res) (hRm : k.2.2.2.1 = rm_Mo_added) (hnL : k.2.2.2.2.2.2.2.2.2.2.2.1 = 9) (v0 : Nat) (v8 : Int32) (t0 : Nat) (t1 : Int32) (t2 : Int32) (ho_v0 : kd v0 = 12) (ho_t0 : kd t0 = 12) (σ : St) (h : Mo_added_B62 v0 v8 t0 t1 t2 σ = some res) : WW k 62 [(0, .ref (ad k v0)), (8, .int v8)] [.int t2, .int t1, .ref (ad k t0)] σ := by
  unfold Mo_added_B62 at h
  refine ww_cVv (st := []) C (c_Mo_setFlags t0 ho_t0 t1 t2) cw_Mo_setFlags ho_t0 (lt_ rfl) rfl g_8_56 hRm ⟨⟨rfl, rfl⟩, le_ rfl, le_ rfl⟩ rfl rfl rfl (le_ rfl) (dq dk_Mo_added 41 rfl) h (fun σ1 h => ?_)
  refine ww_aload_n C 0 rfl rfl (dq dk_Mo_added 42 rfl) ?_
  refine ww_iload C 1 rfl (dq dk_Mo_added 43 rfl) ?_
  refine ww_cVv (st := []) C (c_Mo_result v0 ho_v0 v8) cw_Mo_result ho_v0 (lt_ rfl) rfl g_8_60 hRm ⟨⟨rfl, rfl⟩, le_ rfl, le_ rfl⟩ rfl rfl rfl (le_ rfl) (dq dk_Mo_added 44 rfl) h (fun σ2 h => ?_)
  refine ww_iload C 1 rfl (dq dk_Mo_added 45 rfl) ?_
  exact ww_iret C hR (dq dk_Mo_added 46 rfl) h
set_option maxHeartbeats 4000000 in
set_option maxRecDepth 100000 in
theorem c_Mo_added (v0 : Nat) (ho_v0 : kd v0 = 12) (v1 : Int32) (v2 : Int32) (v3 : Int32) : MI y_Mo_added rm_Mo_added prog_14_method_68_code 9 .int (fun a => [.ref (a v0), .int v1, .int v2, .int v3]) (Mo_added v0 v1 v2 v3) := by
  refine mi_of (by decide) (fun _ => le_ rfl) ?_
  intro k res σ C hR hRm hnL h
  unfold Mo_added at h
  show WW k 0 [(0, .ref (ad k v0)), (1, .int v1), (2, .int v2), (3, .int v3)] [] σ
  refine ww_iload_n C 1 rfl rfl (dq dk_Mo_added 0 rfl) ?_
  refine ww_i2l C (dq dk_Mo_added 1 rfl) ?_
  refine ww_ldc2 C g_8_55 (dq dk_Mo_added 2 rfl) ?_
  refine ww_land C (dq dk_Mo_added 3 rfl) ?_
  refine ww_iload_n C 2 rfl rfl (dq dk_Mo_added 4 rfl) ?_
  refine ww_i2l C (dq dk_Mo_added 5 rfl) ?_
  refine ww_ldc2 C g_8_55 (dq dk_Mo_added 6 rfl) ?_
  refine ww_land C (dq dk_Mo_added 7 rfl) ?_
  refine ww_ladd C (dq dk_Mo_added 8 rfl) ?_
  refine ww_iload_n C 3 rfl rfl (dq dk_Mo_added 9 rfl) ?_
  refine ww_i2l C (dq dk_Mo_added 10 rfl) ?_
  refine ww_ladd C (dq dk_Mo_added 11 rfl) ?_
  refine ww_nml h (fun x1 h => ?_)
  refine ww_lstore C [(4, .long x1), (0, .ref (ad k v0)), (1, .int v1), (2, .int v2), (3, .int v3)] hnL (lt_ rfl) rfl (dq dk_Mo_added 12 rfl) ?_
  refine ww_iload_n C 2 rfl rfl (dq dk_Mo_added 13 rfl) ?_
  refine ww_i2l C (dq dk_Mo_added 14 rfl) ?_
  refine ww_iload_n C 3 rfl rfl (dq dk_Mo_added 15 rfl) ?_
  refine ww_i2l C (dq dk_Mo_added 16 rfl) ?_
  refine ww_ladd C (dq dk_Mo_added 17 rfl) ?_
  refine ww_iload_n C 4 rfl rfl (dq dk_Mo_added 18 rfl) ?_
  refine ww_i2l C (dq dk_Mo_added 19 rfl) ?_
  refine ww_ladd C (dq dk_Mo_added 20 rfl) ?_
  refine ww_nml h (fun x2 h => ?_)
  refine ww_lstore C [(6, .long x2), (4, .long x1), (0, .ref (ad k v0)), (1, .int v1), (2, .int v2), (3, .int v3)] hnL (lt_ rfl) rfl (dq dk_Mo_added 21 rfl) ?_
  refine ww_lload C 0 rfl (dq dk_Mo_added 22 rfl) ?_
  refine ww_l2i C (dq dk_Mo_added 23 rfl) ?_
  refine ww_nmi h (fun x3 h => ?_)
  refine ww_istore C [(8, .int x3), (6, .long x2), (4, .long x1), (0, .ref (ad k v0)), (1, .int v1), (2, .int v2), (3, .int v3)] hnL (lt_ rfl) rfl (dq dk_Mo_added 24 rfl) ?_
  refine ww_aload_n C 3 rfl rfl (dq dk_Mo_added 25 rfl) ?_
  refine ww_lload C 2 rfl (dq dk_Mo_added 26 rfl) ?_
  refine ww_ldc2 C g_8_55 (dq dk_Mo_added 27 rfl) ?_
  refine ww_lcmp C (dq dk_Mo_added 28 rfl) ?_
  refine ww_if_le C 47 (dq dk_Mo_added 29 rfl) (by decide) h (fun h => ?_) (fun h => ?_)
  · refine ww_iconst C (dq dk_Mo_added 32 rfl) ic_0 ?_
    refine ww_lload C 1 rfl (dq dk_Mo_added 33 rfl) ?_
    refine ww_iload C 0 rfl (dq dk_Mo_added 34 rfl) ?_
    refine ww_i2l C (dq dk_Mo_added 35 rfl) ?_
    refine ww_lcmp C (dq dk_Mo_added 36 rfl) ?_
    refine ww_if_eq C 61 (dq dk_Mo_added 37 rfl) (by decide) h (fun h => ?_) (fun h => ?_)
    · refine ww_iconst C (dq dk_Mo_added 40 rfl) ic_0 ?_
      exact ww_lv [3, 0] rfl (t_Mo_added_B62 C hR hRm hnL v0 x3 v0 0 0 ho_v0 ho_v0 σ h)
    · refine ww_iconst C (dq dk_Mo_added 38 rfl) ic_1 ?_
      refine ww_goto C 62 (dq dk_Mo_added 39 rfl) (by decide) ?_
      exact ww_lv [3, 0] rfl (t_Mo_added_B62 C hR hRm hnL v0 x3 v0 0 1 ho_v0 ho_v0 σ h)
  · refine ww_iconst C (dq dk_Mo_added 30 rfl) ic_1 ?_
    refine ww_goto C 48 (dq dk_Mo_added 31 rfl) (by decide) ?_
    refine ww_lload C 1 rfl (dq dk_Mo_added 33 rfl) ?_
    refine ww_iload C 0 rfl (dq dk_Mo_added 34 rfl) ?_
    refine ww_i2l C (dq dk_Mo_added 35 rfl) ?_
    refine ww_lcmp C (dq dk_Mo_added 36 rfl) ?_
    refine ww_if_eq C 61 (dq dk_Mo_added 37 rfl) (by decide) h (fun h => ?_) (fun h => ?_)
    · refine ww_iconst C (dq dk_Mo_added 40 rfl) ic_0 ?_
      exact ww_lv [3, 0] rfl (t_Mo_added_B62 C hR hRm hnL v0 x3 v0 1 0 ho_v0 ho_v0 σ h)
    · refine ww_iconst C (dq dk_Mo_added 38 rfl) ic_1 ?_
      refine ww_goto C 62 (dq dk_Mo_added 39 rfl) (by decide) ?_
      exact ww_lv [3, 0] rfl (t_Mo_added_B62 C hR hRm hnL v0 x3 v0 1 1 ho_v0 ho_v0 σ h)
abbrev y_Mo_taken : MethodName := ⟨"BundleHouseModel", "taken", "(III)I"⟩
def dl_Mo_taken : List (Nat × Instr × Nat) := [(0, .iload_n 1, 1), (1, .i2l, 1), (2, .iload_n 2, 1), (3, .i2l, 1), (4, .lsub, 1), (5, .iload_n 3, 1), (6, .i2l, 1), (7, .lsub, 1), (8, .lstore 4, 2), (10, .lload 4, 2), (12, .l2i, 1), (13, .istore 6, 2), (15, .aload_n 0, 1), (16, .iload_n 1, 1), (17, .i2l, 1), (18, .ldc2_w 328, 3), (21, .land, 1), (22, .iload_n 2, 1), (23, .i2l, 1), (24, .ldc2_w 328, 3), (27, .land, 1), (28, .iload_n 3, 1), (29, .i2l, 1), (30, .ladd, 1), (31, .lcmp, 1), (32, .ifCond .ge 7, 3), (35, .iconst 1, 1), (36, .goto 4, 3), (39, .iconst 0, 1), (40, .lload 4, 2), (42, .iload 6, 2), (44, .i2l, 1), (45, .lcmp, 1), (46, .ifCond .eq 7, 3), (49, .iconst 1, 1), (50, .goto 4, 3), (53, .iconst 0, 1), (54, .invokevirtual 330, 3), (57, .aload_n 0, 1), (58, .iload 6, 2), (60, .invokevirtual 334, 3), (63, .iload 6, 2), (65, .ireturn, 1)]
set_option maxRecDepth 100000 in
theorem dk_Mo_taken : ∀ q ∈ dl_Mo_taken, decode prog_14_method_69_code q.1 = .ok q.2 := by decide +kernel
abbrev rm_Mo_taken : Room := { frames := 1, cells := 0, slots := 0, locals := 22 }
theorem cw_Mo_taken : CWV y_Mo_taken prog_14_method_69_code 7 (some .int) 3 := ⟨⟨g_8_71, g_1_13, by decide, by decide, by decide +kernel⟩, g_8_70, gs_8_4⟩
set_option maxHeartbeats 4000000 in
set_option maxRecDepth 100000 in
theorem t_Mo_taken_B54 {k : Cfg} {res : Int32 × St} (C : Cx k prog_14_method_69_code "BundleHouseModel") (hR : RI k .int res) (hRm : k.2.2.2.1 = rm_Mo_taken) (hnL : k.2.2.2.2.2.2.2.2.2.2.2.1 = 7) (v0 : Nat) (v6 : Int32) (t0 : Nat) (t1 : Int32) (t2 : Int32) (ho_v0 : kd v0 = 12) (ho_t0 : kd t0 = 12) (σ : St) (h : Mo_taken_B54 v0 v6 t0 t1 t2 σ = some res) : WW k 54 [(0, .ref (ad k v0)), (6, .int v6)] [.int t2, .int t1, .ref (ad k t0)] σ := by
  unfold Mo_taken_B54 at h
  refine ww_cVv (st := []) C (c_Mo_setFlags t0 ho_t0 t1 t2) cw_Mo_setFlags ho_t0 (lt_ rfl) rfl g_8_56 hRm ⟨⟨rfl, rfl⟩, le_ rfl, le_ rfl⟩ rfl rfl rfl (le_ rfl) (dq dk_Mo_taken 37 rfl) h (fun σ1 h => ?_)
  refine ww_aload_n C 0 rfl rfl (dq dk_Mo_taken 38 rfl) ?_
  refine ww_iload C 1 rfl (dq dk_Mo_taken 39 rfl) ?_
  refine ww_cVv (st := []) C (c_Mo_result v0 ho_v0 v6) cw_Mo_result ho_v0 (lt_ rfl) rfl g_8_60 hRm ⟨⟨rfl, rfl⟩, le_ rfl, le_ rfl⟩ rfl rfl rfl (le_ rfl) (dq dk_Mo_taken 40 rfl) h (fun σ2 h => ?_)
  refine ww_iload C 1 rfl (dq dk_Mo_taken 41 rfl) ?_
  exact ww_iret C hR (dq dk_Mo_taken 42 rfl) h
set_option maxHeartbeats 4000000 in
set_option maxRecDepth 100000 in
theorem c_Mo_taken (v0 : Nat) (ho_v0 : kd v0 = 12) (v1 : Int32) (v2 : Int32) (v3 : Int32) : MI y_Mo_taken rm_Mo_taken prog_14_method_69_code 7 .int (fun a => [.ref (a v0), .int v1, .int v2, .int v3]) (Mo_taken v0 v1 v2 v3) := by
  refine mi_of (by decide) (fun _ => le_ rfl) ?_
  intro k res σ C hR hRm hnL h
  unfold Mo_taken at h
  show WW k 0 [(0, .ref (ad k v0)), (1, .int v1), (2, .int v2), (3, .int v3)] [] σ
  refine ww_iload_n C 1 rfl rfl (dq dk_Mo_taken 0 rfl) ?_
  refine ww_i2l C (dq dk_Mo_taken 1 rfl) ?_
  refine ww_iload_n C 2 rfl rfl (dq dk_Mo_taken 2 rfl) ?_
  refine ww_i2l C (dq dk_Mo_taken 3 rfl) ?_
  refine ww_lsub C (dq dk_Mo_taken 4 rfl) ?_
  refine ww_iload_n C 3 rfl rfl (dq dk_Mo_taken 5 rfl) ?_
  refine ww_i2l C (dq dk_Mo_taken 6 rfl) ?_
  refine ww_lsub C (dq dk_Mo_taken 7 rfl) ?_
  refine ww_nml h (fun x1 h => ?_)
  refine ww_lstore C [(4, .long x1), (0, .ref (ad k v0)), (1, .int v1), (2, .int v2), (3, .int v3)] hnL (lt_ rfl) rfl (dq dk_Mo_taken 8 rfl) ?_
  refine ww_lload C 0 rfl (dq dk_Mo_taken 9 rfl) ?_
  refine ww_l2i C (dq dk_Mo_taken 10 rfl) ?_
  refine ww_nmi h (fun x2 h => ?_)
  refine ww_istore C [(6, .int x2), (4, .long x1), (0, .ref (ad k v0)), (1, .int v1), (2, .int v2), (3, .int v3)] hnL (lt_ rfl) rfl (dq dk_Mo_taken 11 rfl) ?_
  refine ww_aload_n C 2 rfl rfl (dq dk_Mo_taken 12 rfl) ?_
  refine ww_iload_n C 3 rfl rfl (dq dk_Mo_taken 13 rfl) ?_
  refine ww_i2l C (dq dk_Mo_taken 14 rfl) ?_
  refine ww_ldc2 C g_8_55 (dq dk_Mo_taken 15 rfl) ?_
  refine ww_land C (dq dk_Mo_taken 16 rfl) ?_
  refine ww_iload_n C 4 rfl rfl (dq dk_Mo_taken 17 rfl) ?_
  refine ww_i2l C (dq dk_Mo_taken 18 rfl) ?_
  refine ww_ldc2 C g_8_55 (dq dk_Mo_taken 19 rfl) ?_
  refine ww_land C (dq dk_Mo_taken 20 rfl) ?_
  refine ww_iload_n C 5 rfl rfl (dq dk_Mo_taken 21 rfl) ?_
  refine ww_i2l C (dq dk_Mo_taken 22 rfl) ?_
  refine ww_ladd C (dq dk_Mo_taken 23 rfl) ?_
  refine ww_lcmp C (dq dk_Mo_taken 24 rfl) ?_
  refine ww_if_ge C 39 (dq dk_Mo_taken 25 rfl) (by decide) h (fun h => ?_) (fun h => ?_)
  · refine ww_iconst C (dq dk_Mo_taken 28 rfl) ic_0 ?_
    refine ww_lload C 1 rfl (dq dk_Mo_taken 29 rfl) ?_
    refine ww_iload C 0 rfl (dq dk_Mo_taken 30 rfl) ?_
    refine ww_i2l C (dq dk_Mo_taken 31 rfl) ?_
    refine ww_lcmp C (dq dk_Mo_taken 32 rfl) ?_
    refine ww_if_eq C 53 (dq dk_Mo_taken 33 rfl) (by decide) h (fun h => ?_) (fun h => ?_)
    · refine ww_iconst C (dq dk_Mo_taken 36 rfl) ic_0 ?_
      exact ww_lv [2, 0] rfl (t_Mo_taken_B54 C hR hRm hnL v0 x2 v0 0 0 ho_v0 ho_v0 σ h)
    · refine ww_iconst C (dq dk_Mo_taken 34 rfl) ic_1 ?_
      refine ww_goto C 54 (dq dk_Mo_taken 35 rfl) (by decide) ?_
      exact ww_lv [2, 0] rfl (t_Mo_taken_B54 C hR hRm hnL v0 x2 v0 0 1 ho_v0 ho_v0 σ h)
  · refine ww_iconst C (dq dk_Mo_taken 26 rfl) ic_1 ?_
    refine ww_goto C 40 (dq dk_Mo_taken 27 rfl) (by decide) ?_
    refine ww_lload C 1 rfl (dq dk_Mo_taken 29 rfl) ?_
    refine ww_iload C 0 rfl (dq dk_Mo_taken 30 rfl) ?_
    refine ww_i2l C (dq dk_Mo_taken 31 rfl) ?_
    refine ww_lcmp C (dq dk_Mo_taken 32 rfl) ?_
    refine ww_if_eq C 53 (dq dk_Mo_taken 33 rfl) (by decide) h (fun h => ?_) (fun h => ?_)
    · refine ww_iconst C (dq dk_Mo_taken 36 rfl) ic_0 ?_
      exact ww_lv [2, 0] rfl (t_Mo_taken_B54 C hR hRm hnL v0 x2 v0 1 0 ho_v0 ho_v0 σ h)
    · refine ww_iconst C (dq dk_Mo_taken 34 rfl) ic_1 ?_
      refine ww_goto C 54 (dq dk_Mo_taken 35 rfl) (by decide) ?_
      exact ww_lv [2, 0] rfl (t_Mo_taken_B54 C hR hRm hnL v0 x2 v0 1 1 ho_v0 ho_v0 σ h)
abbrev y_Mo_plainResult : MethodName := ⟨"BundleHouseModel", "plainResult", "(I)I"⟩
def dl_Mo_plainResult : List (Nat × Instr × Nat) := [(0, .aload_n 0, 1), (1, .iconst 0, 1), (2, .iconst 0, 1), (3, .invokevirtual 330, 3), (6, .aload_n 0, 1), (7, .iload_n 1, 1), (8, .invokevirtual 334, 3), (11, .iload_n 1, 1), (12, .ireturn, 1)]
set_option maxRecDepth 100000 in
theorem dk_Mo_plainResult : ∀ q ∈ dl_Mo_plainResult, decode prog_14_method_70_code q.1 = .ok q.2 := by decide +kernel
abbrev rm_Mo_plainResult : Room := { frames := 1, cells := 0, slots := 0, locals := 22 }
theorem cw_Mo_plainResult : CWV y_Mo_plainResult prog_14_method_70_code 2 (some .int) 1 := ⟨⟨g_8_67, g_1_13, by decide, by decide, by decide +kernel⟩, g_8_66, gs_8_3⟩
set_option maxHeartbeats 4000000 in
set_option maxRecDepth 100000 in
theorem c_Mo_plainResult (v0 : Nat) (ho_v0 : kd v0 = 12) (v1 : Int32) : MI y_Mo_plainResult rm_Mo_plainResult prog_14_method_70_code 2 .int (fun a => [.ref (a v0), .int v1]) (Mo_plainResult v0 v1) := by
  refine mi_of (by decide) (fun _ => le_ rfl) ?_
  intro k res σ C hR hRm hnL h
  unfold Mo_plainResult at h
  show WW k 0 [(0, .ref (ad k v0)), (1, .int v1)] [] σ
  refine ww_aload_n C 0 rfl rfl (dq dk_Mo_plainResult 0 rfl) ?_
  refine ww_iconst C (dq dk_Mo_plainResult 1 rfl) ic_0 ?_
  refine ww_iconst C (dq dk_Mo_plainResult 2 rfl) ic_0 ?_
  refine ww_cVv (st := []) C (c_Mo_setFlags v0 ho_v0 0 0) cw_Mo_setFlags ho_v0 (lt_ rfl) rfl g_8_56 hRm ⟨⟨rfl, rfl⟩, le_ rfl, le_ rfl⟩ rfl rfl rfl (le_ rfl) (dq dk_Mo_plainResult 3 rfl) h (fun σ1 h => ?_)
  refine ww_aload_n C 0 rfl rfl (dq dk_Mo_plainResult 4 rfl) ?_
  refine ww_iload_n C 1 rfl rfl (dq dk_Mo_plainResult 5 rfl) ?_
  refine ww_cVv (st := []) C (c_Mo_result v0 ho_v0 v1) cw_Mo_result ho_v0 (lt_ rfl) rfl g_8_60 hRm ⟨⟨rfl, rfl⟩, le_ rfl, le_ rfl⟩ rfl rfl rfl (le_ rfl) (dq dk_Mo_plainResult 6 rfl) h (fun σ2 h => ?_)
  refine ww_iload_n C 1 rfl rfl (dq dk_Mo_plainResult 7 rfl) ?_
  exact ww_iret C hR (dq dk_Mo_plainResult 8 rfl) h
abbrev y_Mo_shifted : MethodName := ⟨"BundleHouseModel", "shifted", "(III)I"⟩
def dl_Mo_shifted : List (Nat × Instr × Nat) := [(0, .iload_n 3, 1), (1, .bipush 31, 2), (3, .iand, 1), (4, .istore 4, 2), (6, .iload 4, 2), (8, .ifCond .ne 5, 3), (11, .iload_n 2, 1), (12, .ireturn, 1), (13, .iload_n 1, 1), (14, .bipush 14, 2), (16, .if_icmp .ne 10, 3), (19, .iload_n 2, 1), (20, .iload 4, 2), (22, .ishl, 1), (23, .goto 20, 3), (26, .iload_n 1, 1), (27, .bipush 15, 2), (29, .if_icmp .ne 10, 3), (32, .iload_n 2, 1), (33, .iload 4, 2), (35, .iushr, 1), (36, .goto 7, 3), (39, .iload_n 2, 1), (40, .iload 4, 2), (42, .ishr, 1), (43, .istore 5, 2), (45, .iload_n 1, 1), (46, .bipush 14, 2), (48, .if_icmp .ne 15, 3), (51, .iload_n 2, 1), (52, .bipush 32, 2), (54, .iload 4, 2), (56, .isub, 1), (57, .iushr, 1), (58, .iconst 1, 1), (59, .iand, 1), (60, .goto 11, 3), (63, .iload_n 2, 1), (64, .iload 4, 2), (66, .iconst 1, 1), (67, .isub, 1), (68, .ishr, 1), (69, .iconst 1, 1), (70, .iand, 1), (71, .istore 6, 2), (73, .iload_n 1, 1), (74, .bipush 14, 2), (76, .if_icmp .ne 35, 3), (79, .iload 5, 2), (81, .ifCond .ge 7, 3), (84, .iconst 1, 1), (85, .goto 4, 3), (88, .iconst 0, 1), (89, .iload 6, 2), (91, .iconst 1, 1), (92, .if_icmp .ne 7, 3), (95, .iconst 1, 1), (96, .goto 4, 3), (99, .iconst 0, 1), (100, .if_icmp .eq 7, 3), (103, .iconst 1, 1), (104, .goto 22, 3), (107, .iconst 0, 1), (108, .goto 18, 3), (111, .iload_n 1, 1), (112, .bipush 15, 2), (114, .if_icmp .ne 11, 3), (117, .iload_n 2, 1), (118, .ifCond .ge 7, 3), (121, .iconst 1, 1), (122, .goto 4, 3), (125, .iconst 0, 1), (126, .istore 7, 2), (128, .aload_n 0, 1), (129, .iload 6, 2), (131, .iconst 1, 1), (132, .if_icmp .ne 7, 3), (135, .iconst 1, 1), (136, .goto 4, 3), (139, .iconst 0, 1), (140, .iload 7, 2), (142, .invokevirtual 330, 3), (145, .aload_n 0, 1), (146, .iload 5, 2), (148, .invokevirtual 334, 3), (151, .iload 5, 2), (153, .ireturn, 1)]
set_option maxRecDepth 100000 in
theorem dk_Mo_shifted : ∀ q ∈ dl_Mo_shifted, decode prog_14_method_71_code q.1 = .ok q.2 := by decide +kernel
abbrev rm_Mo_shifted : Room := { frames := 1, cells := 0, slots := 0, locals := 22 }
theorem cw_Mo_shifted : CWV y_Mo_shifted prog_14_method_71_code 8 (some .int) 3 := ⟨⟨g_8_75, g_1_13, by decide, by decide, by decide +kernel⟩, g_8_74, gs_8_5⟩
set_option maxHeartbeats 4000000 in
set_option maxRecDepth 100000 in
theorem t_Mo_shifted_B140 {k : Cfg} {res : Int32 × St} (C : Cx k prog_14_method_71_code "BundleHouseModel") (hR : RI k .int res) (hRm : k.2.2.2.1 = rm_Mo_shifted) (hnL : k.2.2.2.2.2.2.2.2.2.2.2.1 = 8) (v0 : Nat) (v5 : Int32) (v7 : Int32) (t0 : Nat) (t1 : Int32) (ho_v0 : kd v0 = 12) (ho_t0 : kd t0 = 12) (σ : St) (h : Mo_shifted_B140 v0 v5 v7 t0 t1 σ = some res) : WW k 140 [(0, .ref (ad k v0)), (5, .int v5), (7, .int v7)] [.int t1, .ref (ad k t0)] σ := by
  unfold Mo_shifted_B140 at h
  refine ww_iload C 2 rfl (dq dk_Mo_shifted 80 rfl) ?_
  refine ww_cVv (st := []) C (c_Mo_setFlags t0 ho_t0 t1 v7) cw_Mo_setFlags ho_t0 (lt_ rfl) rfl g_8_56 hRm ⟨⟨rfl, rfl⟩, le_ rfl, le_ rfl⟩ rfl rfl rfl (le_ rfl) (dq dk_Mo_shifted 81 rfl) h (fun σ1 h => ?_)
  refine ww_aload_n C 0 rfl rfl (dq dk_Mo_shifted 82 rfl) ?_
  refine ww_iload C 1 rfl (dq dk_Mo_shifted 83 rfl) ?_
  refine ww_cVv (st := []) C (c_Mo_result v0 ho_v0 v5) cw_Mo_result ho_v0 (lt_ rfl) rfl g_8_60 hRm ⟨⟨rfl, rfl⟩, le_ rfl, le_ rfl⟩ rfl rfl rfl (le_ rfl) (dq dk_Mo_shifted 84 rfl) h (fun σ2 h => ?_)
  refine ww_iload C 1 rfl (dq dk_Mo_shifted 85 rfl) ?_
  exact ww_iret C hR (dq dk_Mo_shifted 86 rfl) h
set_option maxHeartbeats 4000000 in
set_option maxRecDepth 100000 in
theorem t_Mo_shifted_B71 {k : Cfg} {res : Int32 × St} (C : Cx k prog_14_method_71_code "BundleHouseModel") (hR : RI k .int res) (hRm : k.2.2.2.1 = rm_Mo_shifted) (hnL : k.2.2.2.2.2.2.2.2.2.2.2.1 = 8) (v0 : Nat) (v1 : Int32) (v2 : Int32) (v5 : Int32) (t0 : Int32) (ho_v0 : kd v0 = 12) (σ : St) (h : Mo_shifted_B71 v0 v1 v2 v5 t0 σ = some res) : WW k 71 [(0, .ref (ad k v0)), (1, .int v1), (2, .int v2), (5, .int v5)] [.int t0] σ := by
  unfold Mo_shifted_B71 at h
  refine ww_istore C [(6, .int t0), (0, .ref (ad k v0)), (1, .int v1), (2, .int v2), (5, .int v5)] hnL (lt_ rfl) rfl (dq dk_Mo_shifted 44 rfl) ?_
  refine ww_iload_n C 2 rfl rfl (dq dk_Mo_shifted 45 rfl) ?_
  refine ww_bipush C (dq dk_Mo_shifted 46 rfl) bp_14 ?_
  refine ww_icmp_ne C 111 (dq dk_Mo_shifted 47 rfl) (by decide) h (fun h => ?_) (fun h => ?_)
  · refine ww_iload_n C 2 rfl rfl (dq dk_Mo_shifted 64 rfl) ?_
    refine ww_bipush C (dq dk_Mo_shifted 65 rfl) bp_15 ?_
    refine ww_icmp_ne C 125 (dq dk_Mo_shifted 66 rfl) (by decide) h (fun h => ?_) (fun h => ?_)
    · refine ww_iconst C (dq dk_Mo_shifted 71 rfl) ic_0 ?_
      refine ww_istore C [(7, .int 0), (6, .int t0), (0, .ref (ad k v0)), (1, .int v1), (2, .int v2), (5, .int v5)] hnL (lt_ rfl) rfl (dq dk_Mo_shifted 72 rfl) ?_
      refine ww_aload_n C 2 rfl rfl (dq dk_Mo_shifted 73 rfl) ?_
      refine ww_iload C 1 rfl (dq dk_Mo_shifted 74 rfl) ?_
      refine ww_iconst C (dq dk_Mo_shifted 75 rfl) ic_1 ?_
      refine ww_icmp_ne C 139 (dq dk_Mo_shifted 76 rfl) (by decide) h (fun h => ?_) (fun h => ?_)
      · refine ww_iconst C (dq dk_Mo_shifted 79 rfl) ic_0 ?_
        exact ww_lv [2, 5, 0] rfl (t_Mo_shifted_B140 C hR hRm hnL v0 v5 0 v0 0 ho_v0 ho_v0 σ h)
      · refine ww_iconst C (dq dk_Mo_shifted 77 rfl) ic_1 ?_
        refine ww_goto C 140 (dq dk_Mo_shifted 78 rfl) (by decide) ?_
        exact ww_lv [2, 5, 0] rfl (t_Mo_shifted_B140 C hR hRm hnL v0 v5 0 v0 1 ho_v0 ho_v0 σ h)
    · refine ww_iload_n C 3 rfl rfl (dq dk_Mo_shifted 67 rfl) ?_
      refine ww_if_ge C 125 (dq dk_Mo_shifted 68 rfl) (by decide) h (fun h => ?_) (fun h => ?_)
      · refine ww_iconst C (dq dk_Mo_shifted 71 rfl) ic_0 ?_
        refine ww_istore C [(7, .int 0), (6, .int t0), (0, .ref (ad k v0)), (1, .int v1), (2, .int v2), (5, .int v5)] hnL (lt_ rfl) rfl (dq dk_Mo_shifted 72 rfl) ?_
        refine ww_aload_n C 2 rfl rfl (dq dk_Mo_shifted 73 rfl) ?_
        refine ww_iload C 1 rfl (dq dk_Mo_shifted 74 rfl) ?_
        refine ww_iconst C (dq dk_Mo_shifted 75 rfl) ic_1 ?_
        refine ww_icmp_ne C 139 (dq dk_Mo_shifted 76 rfl) (by decide) h (fun h => ?_) (fun h => ?_)
        · refine ww_iconst C (dq dk_Mo_shifted 79 rfl) ic_0 ?_
          exact ww_lv [2, 5, 0] rfl (t_Mo_shifted_B140 C hR hRm hnL v0 v5 0 v0 0 ho_v0 ho_v0 σ h)
        · refine ww_iconst C (dq dk_Mo_shifted 77 rfl) ic_1 ?_
          refine ww_goto C 140 (dq dk_Mo_shifted 78 rfl) (by decide) ?_
          exact ww_lv [2, 5, 0] rfl (t_Mo_shifted_B140 C hR hRm hnL v0 v5 0 v0 1 ho_v0 ho_v0 σ h)
      · refine ww_iconst C (dq dk_Mo_shifted 69 rfl) ic_1 ?_
        refine ww_goto C 126 (dq dk_Mo_shifted 70 rfl) (by decide) ?_
        refine ww_istore C [(7, .int 1), (6, .int t0), (0, .ref (ad k v0)), (1, .int v1), (2, .int v2), (5, .int v5)] hnL (lt_ rfl) rfl (dq dk_Mo_shifted 72 rfl) ?_
        refine ww_aload_n C 2 rfl rfl (dq dk_Mo_shifted 73 rfl) ?_
        refine ww_iload C 1 rfl (dq dk_Mo_shifted 74 rfl) ?_
        refine ww_iconst C (dq dk_Mo_shifted 75 rfl) ic_1 ?_
        refine ww_icmp_ne C 139 (dq dk_Mo_shifted 76 rfl) (by decide) h (fun h => ?_) (fun h => ?_)
        · refine ww_iconst C (dq dk_Mo_shifted 79 rfl) ic_0 ?_
          exact ww_lv [2, 5, 0] rfl (t_Mo_shifted_B140 C hR hRm hnL v0 v5 1 v0 0 ho_v0 ho_v0 σ h)
        · refine ww_iconst C (dq dk_Mo_shifted 77 rfl) ic_1 ?_
          refine ww_goto C 140 (dq dk_Mo_shifted 78 rfl) (by decide) ?_
          exact ww_lv [2, 5, 0] rfl (t_Mo_shifted_B140 C hR hRm hnL v0 v5 1 v0 1 ho_v0 ho_v0 σ h)
  · refine ww_iload C 4 rfl (dq dk_Mo_shifted 48 rfl) ?_
    refine ww_if_ge C 88 (dq dk_Mo_shifted 49 rfl) (by decide) h (fun h => ?_) (fun h => ?_)
    · refine ww_iconst C (dq dk_Mo_shifted 52 rfl) ic_0 ?_
      refine ww_iload C 0 rfl (dq dk_Mo_shifted 53 rfl) ?_
      refine ww_iconst C (dq dk_Mo_shifted 54 rfl) ic_1 ?_
      refine ww_icmp_ne C 99 (dq dk_Mo_shifted 55 rfl) (by decide) h (fun h => ?_) (fun h => ?_)
      · refine ww_iconst C (dq dk_Mo_shifted 58 rfl) ic_0 ?_
        refine ww_icmp_eq C 107 (dq dk_Mo_shifted 59 rfl) (by decide) (ift (by decide) h) (fun h => ?_) (fun h => by cases h)
        refine ww_iconst C (dq dk_Mo_shifted 62 rfl) ic_0 ?_
        refine ww_goto C 126 (dq dk_Mo_shifted 63 rfl) (by decide) ?_
        refine ww_istore C [(7, .int 0), (6, .int t0), (0, .ref (ad k v0)), (1, .int v1), (2, .int v2), (5, .int v5)] hnL (lt_ rfl) rfl (dq dk_Mo_shifted 72 rfl) ?_
        refine ww_aload_n C 2 rfl rfl (dq dk_Mo_shifted 73 rfl) ?_
        refine ww_iload C 1 rfl (dq dk_Mo_shifted 74 rfl) ?_
        refine ww_iconst C (dq dk_Mo_shifted 75 rfl) ic_1 ?_
        refine ww_icmp_ne C 139 (dq dk_Mo_shifted 76 rfl) (by decide) h (fun h => ?_) (fun h => ?_)
        · refine ww_iconst C (dq dk_Mo_shifted 79 rfl) ic_0 ?_
          exact ww_lv [2, 5, 0] rfl (t_Mo_shifted_B140 C hR hRm hnL v0 v5 0 v0 0 ho_v0 ho_v0 σ h)
        · refine ww_iconst C (dq dk_Mo_shifted 77 rfl) ic_1 ?_
          refine ww_goto C 140 (dq dk_Mo_shifted 78 rfl) (by decide) ?_
          exact ww_lv [2, 5, 0] rfl (t_Mo_shifted_B140 C hR hRm hnL v0 v5 0 v0 1 ho_v0 ho_v0 σ h)
      · refine ww_iconst C (dq dk_Mo_shifted 56 rfl) ic_1 ?_
        refine ww_goto C 100 (dq dk_Mo_shifted 57 rfl) (by decide) ?_
        refine ww_icmp_eq C 107 (dq dk_Mo_shifted 59 rfl) (by decide) (ifn (by decide) h) (fun h => by cases h) (fun h => ?_)
        refine ww_iconst C (dq dk_Mo_shifted 60 rfl) ic_1 ?_
        refine ww_goto C 126 (dq dk_Mo_shifted 61 rfl) (by decide) ?_
        refine ww_istore C [(7, .int 1), (6, .int t0), (0, .ref (ad k v0)), (1, .int v1), (2, .int v2), (5, .int v5)] hnL (lt_ rfl) rfl (dq dk_Mo_shifted 72 rfl) ?_
        refine ww_aload_n C 2 rfl rfl (dq dk_Mo_shifted 73 rfl) ?_
        refine ww_iload C 1 rfl (dq dk_Mo_shifted 74 rfl) ?_
        refine ww_iconst C (dq dk_Mo_shifted 75 rfl) ic_1 ?_
        refine ww_icmp_ne C 139 (dq dk_Mo_shifted 76 rfl) (by decide) h (fun h => ?_) (fun h => ?_)
        · refine ww_iconst C (dq dk_Mo_shifted 79 rfl) ic_0 ?_
          exact ww_lv [2, 5, 0] rfl (t_Mo_shifted_B140 C hR hRm hnL v0 v5 1 v0 0 ho_v0 ho_v0 σ h)
        · refine ww_iconst C (dq dk_Mo_shifted 77 rfl) ic_1 ?_
          refine ww_goto C 140 (dq dk_Mo_shifted 78 rfl) (by decide) ?_
          exact ww_lv [2, 5, 0] rfl (t_Mo_shifted_B140 C hR hRm hnL v0 v5 1 v0 1 ho_v0 ho_v0 σ h)
    · refine ww_iconst C (dq dk_Mo_shifted 50 rfl) ic_1 ?_
      refine ww_goto C 89 (dq dk_Mo_shifted 51 rfl) (by decide) ?_
      refine ww_iload C 0 rfl (dq dk_Mo_shifted 53 rfl) ?_
      refine ww_iconst C (dq dk_Mo_shifted 54 rfl) ic_1 ?_
      refine ww_icmp_ne C 99 (dq dk_Mo_shifted 55 rfl) (by decide) h (fun h => ?_) (fun h => ?_)
      · refine ww_iconst C (dq dk_Mo_shifted 58 rfl) ic_0 ?_
        refine ww_icmp_eq C 107 (dq dk_Mo_shifted 59 rfl) (by decide) (ifn (by decide) h) (fun h => by cases h) (fun h => ?_)
        refine ww_iconst C (dq dk_Mo_shifted 60 rfl) ic_1 ?_
        refine ww_goto C 126 (dq dk_Mo_shifted 61 rfl) (by decide) ?_
        refine ww_istore C [(7, .int 1), (6, .int t0), (0, .ref (ad k v0)), (1, .int v1), (2, .int v2), (5, .int v5)] hnL (lt_ rfl) rfl (dq dk_Mo_shifted 72 rfl) ?_
        refine ww_aload_n C 2 rfl rfl (dq dk_Mo_shifted 73 rfl) ?_
        refine ww_iload C 1 rfl (dq dk_Mo_shifted 74 rfl) ?_
        refine ww_iconst C (dq dk_Mo_shifted 75 rfl) ic_1 ?_
        refine ww_icmp_ne C 139 (dq dk_Mo_shifted 76 rfl) (by decide) h (fun h => ?_) (fun h => ?_)
        · refine ww_iconst C (dq dk_Mo_shifted 79 rfl) ic_0 ?_
          exact ww_lv [2, 5, 0] rfl (t_Mo_shifted_B140 C hR hRm hnL v0 v5 1 v0 0 ho_v0 ho_v0 σ h)
        · refine ww_iconst C (dq dk_Mo_shifted 77 rfl) ic_1 ?_
          refine ww_goto C 140 (dq dk_Mo_shifted 78 rfl) (by decide) ?_
          exact ww_lv [2, 5, 0] rfl (t_Mo_shifted_B140 C hR hRm hnL v0 v5 1 v0 1 ho_v0 ho_v0 σ h)
      · refine ww_iconst C (dq dk_Mo_shifted 56 rfl) ic_1 ?_
        refine ww_goto C 100 (dq dk_Mo_shifted 57 rfl) (by decide) ?_
        refine ww_icmp_eq C 107 (dq dk_Mo_shifted 59 rfl) (by decide) (ift (by decide) h) (fun h => ?_) (fun h => by cases h)
        refine ww_iconst C (dq dk_Mo_shifted 62 rfl) ic_0 ?_
        refine ww_goto C 126 (dq dk_Mo_shifted 63 rfl) (by decide) ?_
        refine ww_istore C [(7, .int 0), (6, .int t0), (0, .ref (ad k v0)), (1, .int v1), (2, .int v2), (5, .int v5)] hnL (lt_ rfl) rfl (dq dk_Mo_shifted 72 rfl) ?_
        refine ww_aload_n C 2 rfl rfl (dq dk_Mo_shifted 73 rfl) ?_
        refine ww_iload C 1 rfl (dq dk_Mo_shifted 74 rfl) ?_
        refine ww_iconst C (dq dk_Mo_shifted 75 rfl) ic_1 ?_
        refine ww_icmp_ne C 139 (dq dk_Mo_shifted 76 rfl) (by decide) h (fun h => ?_) (fun h => ?_)
        · refine ww_iconst C (dq dk_Mo_shifted 79 rfl) ic_0 ?_
          exact ww_lv [2, 5, 0] rfl (t_Mo_shifted_B140 C hR hRm hnL v0 v5 0 v0 0 ho_v0 ho_v0 σ h)
        · refine ww_iconst C (dq dk_Mo_shifted 77 rfl) ic_1 ?_
          refine ww_goto C 140 (dq dk_Mo_shifted 78 rfl) (by decide) ?_
          exact ww_lv [2, 5, 0] rfl (t_Mo_shifted_B140 C hR hRm hnL v0 v5 0 v0 1 ho_v0 ho_v0 σ h)
set_option maxHeartbeats 4000000 in
set_option maxRecDepth 100000 in
theorem t_Mo_shifted_B43 {k : Cfg} {res : Int32 × St} (C : Cx k prog_14_method_71_code "BundleHouseModel") (hR : RI k .int res) (hRm : k.2.2.2.1 = rm_Mo_shifted) (hnL : k.2.2.2.2.2.2.2.2.2.2.2.1 = 8) (v0 : Nat) (v1 : Int32) (v2 : Int32) (v4 : Int32) (t0 : Int32) (ho_v0 : kd v0 = 12) (σ : St) (h : Mo_shifted_B43 v0 v1 v2 v4 t0 σ = some res) : WW k 43 [(0, .ref (ad k v0)), (1, .int v1), (2, .int v2), (4, .int v4)] [.int t0] σ := by
  unfold Mo_shifted_B43 at h
  refine ww_istore C [(5, .int t0), (0, .ref (ad k v0)), (1, .int v1), (2, .int v2), (4, .int v4)] hnL (lt_ rfl) rfl (dq dk_Mo_shifted 25 rfl) ?_
  refine ww_iload_n C 2 rfl rfl (dq dk_Mo_shifted 26 rfl) ?_
  refine ww_bipush C (dq dk_Mo_shifted 27 rfl) bp_14 ?_
  refine ww_icmp_ne C 63 (dq dk_Mo_shifted 28 rfl) (by decide) h (fun h => ?_) (fun h => ?_)
  · refine ww_iload_n C 3 rfl rfl (dq dk_Mo_shifted 37 rfl) ?_
    refine ww_iload C 4 rfl (dq dk_Mo_shifted 38 rfl) ?_
    refine ww_iconst C (dq dk_Mo_shifted 39 rfl) ic_1 ?_
    refine ww_isub C (dq dk_Mo_shifted 40 rfl) ?_
    refine ww_ishr C (dq dk_Mo_shifted 41 rfl) ?_
    refine ww_iconst C (dq dk_Mo_shifted 42 rfl) ic_1 ?_
    refine ww_iand C (dq dk_Mo_shifted 43 rfl) ?_
    exact ww_lv [1, 2, 3, 0] rfl (t_Mo_shifted_B71 C hR hRm hnL v0 v1 v2 t0 ((shr v2 (v4 - 1)) &&& 1) ho_v0 σ h)
  · refine ww_iload_n C 3 rfl rfl (dq dk_Mo_shifted 29 rfl) ?_
    refine ww_bipush C (dq dk_Mo_shifted 30 rfl) bp_32 ?_
    refine ww_iload C 4 rfl (dq dk_Mo_shifted 31 rfl) ?_
    refine ww_isub C (dq dk_Mo_shifted 32 rfl) ?_
    refine ww_iushr C (dq dk_Mo_shifted 33 rfl) ?_
    refine ww_iconst C (dq dk_Mo_shifted 34 rfl) ic_1 ?_
    refine ww_iand C (dq dk_Mo_shifted 35 rfl) ?_
    refine ww_goto C 71 (dq dk_Mo_shifted 36 rfl) (by decide) ?_
    exact ww_lv [1, 2, 3, 0] rfl (t_Mo_shifted_B71 C hR hRm hnL v0 v1 v2 t0 ((ushr v2 (32 - v4)) &&& 1) ho_v0 σ h)
set_option maxHeartbeats 4000000 in
set_option maxRecDepth 100000 in
theorem c_Mo_shifted (v0 : Nat) (ho_v0 : kd v0 = 12) (v1 : Int32) (v2 : Int32) (v3 : Int32) : MI y_Mo_shifted rm_Mo_shifted prog_14_method_71_code 8 .int (fun a => [.ref (a v0), .int v1, .int v2, .int v3]) (Mo_shifted v0 v1 v2 v3) := by
  refine mi_of (by decide) (fun _ => le_ rfl) ?_
  intro k res σ C hR hRm hnL h
  unfold Mo_shifted at h
  show WW k 0 [(0, .ref (ad k v0)), (1, .int v1), (2, .int v2), (3, .int v3)] [] σ
  refine ww_iload_n C 3 rfl rfl (dq dk_Mo_shifted 0 rfl) ?_
  refine ww_bipush C (dq dk_Mo_shifted 1 rfl) bp_31 ?_
  refine ww_iand C (dq dk_Mo_shifted 2 rfl) ?_
  refine ww_nmi h (fun x1 h => ?_)
  refine ww_istore C [(4, .int x1), (0, .ref (ad k v0)), (1, .int v1), (2, .int v2), (3, .int v3)] hnL (lt_ rfl) rfl (dq dk_Mo_shifted 3 rfl) ?_
  refine ww_iload C 0 rfl (dq dk_Mo_shifted 4 rfl) ?_
  refine ww_if_ne C 13 (dq dk_Mo_shifted 5 rfl) (by decide) h (fun h => ?_) (fun h => ?_)
  · refine ww_iload_n C 2 rfl rfl (dq dk_Mo_shifted 8 rfl) ?_
    refine ww_bipush C (dq dk_Mo_shifted 9 rfl) bp_14 ?_
    refine ww_icmp_ne C 26 (dq dk_Mo_shifted 10 rfl) (by decide) h (fun h => ?_) (fun h => ?_)
    · refine ww_iload_n C 2 rfl rfl (dq dk_Mo_shifted 15 rfl) ?_
      refine ww_bipush C (dq dk_Mo_shifted 16 rfl) bp_15 ?_
      refine ww_icmp_ne C 39 (dq dk_Mo_shifted 17 rfl) (by decide) h (fun h => ?_) (fun h => ?_)
      · refine ww_iload_n C 3 rfl rfl (dq dk_Mo_shifted 22 rfl) ?_
        refine ww_iload C 0 rfl (dq dk_Mo_shifted 23 rfl) ?_
        refine ww_ishr C (dq dk_Mo_shifted 24 rfl) ?_
        exact ww_lv [1, 2, 3, 0] rfl (t_Mo_shifted_B43 C hR hRm hnL v0 v1 v2 x1 (shr v2 x1) ho_v0 σ h)
      · refine ww_iload_n C 3 rfl rfl (dq dk_Mo_shifted 18 rfl) ?_
        refine ww_iload C 0 rfl (dq dk_Mo_shifted 19 rfl) ?_
        refine ww_iushr C (dq dk_Mo_shifted 20 rfl) ?_
        refine ww_goto C 43 (dq dk_Mo_shifted 21 rfl) (by decide) ?_
        exact ww_lv [1, 2, 3, 0] rfl (t_Mo_shifted_B43 C hR hRm hnL v0 v1 v2 x1 (ushr v2 x1) ho_v0 σ h)
    · refine ww_iload_n C 3 rfl rfl (dq dk_Mo_shifted 11 rfl) ?_
      refine ww_iload C 0 rfl (dq dk_Mo_shifted 12 rfl) ?_
      refine ww_ishl C (dq dk_Mo_shifted 13 rfl) ?_
      refine ww_goto C 43 (dq dk_Mo_shifted 14 rfl) (by decide) ?_
      exact ww_lv [1, 2, 3, 0] rfl (t_Mo_shifted_B43 C hR hRm hnL v0 v1 v2 x1 (shl v2 x1) ho_v0 σ h)
  · refine ww_iload_n C 3 rfl rfl (dq dk_Mo_shifted 6 rfl) ?_
    exact ww_iret C hR (dq dk_Mo_shifted 7 rfl) h
abbrev y_Mo_worked : MethodName := ⟨"BundleHouseModel", "worked", "(III)I"⟩
def dl_Mo_worked : List (Nat × Instr × Nat) := [(0, .aload_n 0, 1), (1, .getfield 78, 3), (4, .iconst 4, 1), (5, .aload_n 0, 1), (6, .getfield 313, 3), (9, .imul, 1), (10, .iconst 0, 1), (11, .iadd, 1), (12, .iaload, 1), (13, .istore 4, 2), (15, .iload_n 1, 1), (16, .tableswitch 217 0 16 #[84, 92, 100, 109, 118, 126, 134, 126, 142, 118, 217, 144, 197, 201, 209, 209, 209], 84), (100, .aload_n 0, 1), (101, .iload_n 2, 1), (102, .iload_n 3, 1), (103, .iconst 0, 1), (104, .invokevirtual 337, 3), (107, .ireturn, 1), (108, .aload_n 0, 1), (109, .iload_n 2, 1), (110, .iload_n 3, 1), (111, .ior, 1), (112, .invokevirtual 341, 3), (115, .ireturn, 1), (116, .aload_n 0, 1), (117, .iload_n 2, 1), (118, .iload_n 3, 1), (119, .iload 4, 2), (121, .invokevirtual 337, 3), (124, .ireturn, 1), (125, .aload_n 0, 1), (126, .iload_n 2, 1), (127, .iload_n 3, 1), (128, .iload 4, 2), (130, .invokevirtual 344, 3), (133, .ireturn, 1), (134, .aload_n 0, 1), (135, .iload_n 2, 1), (136, .iload_n 3, 1), (137, .iand, 1), (138, .invokevirtual 341, 3), (141, .ireturn, 1), (142, .aload_n 0, 1), (143, .iload_n 2, 1), (144, .iload_n 3, 1), (145, .iconst 0, 1), (146, .invokevirtual 344, 3), (149, .ireturn, 1), (150, .aload_n 0, 1), (151, .iload_n 2, 1), (152, .iload_n 3, 1), (153, .ixor, 1), (154, .invokevirtual 341, 3), (157, .ireturn, 1), (158, .iload_n 3, 1), (159, .ireturn, 1), (160, .iload_n 2, 1), (161, .i2l, 1), (162, .iload_n 3, 1), (163, .i2l, 1), (164, .lmul, 1), (165, .lstore 5, 2), (167, .lload 5, 2), (169, .l2i, 1), (170, .istore 7, 2), (172, .aload_n 0, 1), (173, .lload 5, 2), (175, .iload 7, 2), (177, .i2l, 1), (178, .lcmp, 1), (179, .ifCond .eq 7, 3), (182, .iconst 1, 1), (183, .goto 4, 3), (186, .iconst 0, 1), (187, .lload 5, 2), (189, .iload 7, 2), (191, .i2l, 1), (192, .lcmp, 1), (193, .ifCond .eq 7, 3), (196, .iconst 1, 1), (197, .goto 4, 3), (200, .iconst 0, 1), (201, .invokevirtual 330, 3), (204, .aload_n 0, 1), (205, .iload 7, 2), (207, .invokevirtual 334, 3), (210, .iload 7, 2), (212, .ireturn, 1), (213, .iload_n 2, 1), (214, .iconst (-1), 1), (215, .ixor, 1), (216, .ireturn, 1), (217, .aload_n 0, 1), (218, .iconst 0, 1), (219, .iload_n 2, 1), (220, .iconst 0, 1), (221, .invokevirtual 344, 3), (224, .ireturn, 1), (225, .aload_n 0, 1), (226, .iload_n 1, 1), (227, .iload_n 2, 1), (228, .iload_n 3, 1), (229, .invokevirtual 347, 3), (232, .ireturn, 1), (233, .iload_n 1, 1), (234, .bipush 17, 2), (236, .if_icmp .ne 13, 3), (239, .aload_n 0, 1), (240, .iload_n 2, 1), (241, .iconst 1, 1), (242, .iconst 0, 1), (243, .invokevirtual 337, 3), (246, .goto 10, 3), (249, .aload_n 0, 1), (250, .iload_n 2, 1), (251, .iconst 1, 1), (252, .iconst 0, 1), (253, .invokevirtual 344, 3), (256, .istore 5, 2), (258, .aload_n 0, 1), (259, .getfield 78, 3), (262, .iconst 4, 1), (263, .aload_n 0, 1), (264, .getfield 313, 3), (267, .imul, 1), (268, .iconst 0, 1), (269, .iadd, 1), (270, .iload 4, 2), (272, .iastore, 1), (273, .iload 5, 2), (275, .ireturn, 1)]
set_option maxRecDepth 100000 in
theorem dk_Mo_worked : ∀ q ∈ dl_Mo_worked, decode prog_14_method_72_code q.1 = .ok q.2 := by decide +kernel
abbrev rm_Mo_worked : Room := { frames := 2, cells := 0, slots := 0, locals := 50 }
theorem cw_Mo_worked : CWV y_Mo_worked prog_14_method_72_code 8 (some .int) 3 := ⟨⟨g_8_50, g_1_13, by decide, by decide, by decide +kernel⟩, g_8_49, gs_7_15⟩
set_option maxHeartbeats 4000000 in
set_option maxRecDepth 100000 in
theorem t_Mo_worked_B134 {k : Cfg} {res : Int32 × St} (C : Cx k prog_14_method_72_code "BundleHouseModel") (hR : RI k .int res) (hRm : k.2.2.2.1 = rm_Mo_worked) (hnL : k.2.2.2.2.2.2.2.2.2.2.2.1 = 8) (v0 : Nat) (v2 : Int32) (v3 : Int32) (ho_v0 : kd v0 = 12) (σ : St) (h : Mo_worked_B134 v0 v2 v3 σ = some res) : WW k 134 [(0, .ref (ad k v0)), (2, .int v2), (3, .int v3)] [] σ := by
  unfold Mo_worked_B134 at h
  refine ww_aload_n C 0 rfl rfl (dq dk_Mo_worked 36 rfl) ?_
  refine ww_iload_n C 1 rfl rfl (dq dk_Mo_worked 37 rfl) ?_
  refine ww_iload_n C 2 rfl rfl (dq dk_Mo_worked 38 rfl) ?_
  refine ww_iand C (dq dk_Mo_worked 39 rfl) ?_
  refine ww_cVi (st := []) C (c_Mo_plainResult v0 ho_v0 (v2 &&& v3)) cw_Mo_plainResult ho_v0 (lt_ rfl) rfl g_8_64 hRm ⟨⟨rfl, rfl⟩, le_ rfl, le_ rfl⟩ rfl rfl rfl (le_ rfl) (dq dk_Mo_worked 40 rfl) h (fun x2 σ1 h => ?_)
  exact ww_iret C hR (dq dk_Mo_worked 41 rfl) h
set_option maxHeartbeats 4000000 in
set_option maxRecDepth 100000 in
theorem t_Mo_worked_B142 {k : Cfg} {res : Int32 × St} (C : Cx k prog_14_method_72_code "BundleHouseModel") (hR : RI k .int res) (hRm : k.2.2.2.1 = rm_Mo_worked) (hnL : k.2.2.2.2.2.2.2.2.2.2.2.1 = 8) (v0 : Nat) (v2 : Int32) (v3 : Int32) (ho_v0 : kd v0 = 12) (σ : St) (h : Mo_worked_B142 v0 v2 v3 σ = some res) : WW k 142 [(0, .ref (ad k v0)), (2, .int v2), (3, .int v3)] [] σ := by
  unfold Mo_worked_B142 at h
  refine ww_aload_n C 0 rfl rfl (dq dk_Mo_worked 42 rfl) ?_
  refine ww_iload_n C 1 rfl rfl (dq dk_Mo_worked 43 rfl) ?_
  refine ww_iload_n C 2 rfl rfl (dq dk_Mo_worked 44 rfl) ?_
  refine ww_iconst C (dq dk_Mo_worked 45 rfl) ic_0 ?_
  refine ww_cVi (st := []) C (c_Mo_taken v0 ho_v0 v2 v3 0) cw_Mo_taken ho_v0 (lt_ rfl) rfl g_8_68 hRm ⟨⟨rfl, rfl⟩, le_ rfl, le_ rfl⟩ rfl rfl rfl (le_ rfl) (dq dk_Mo_worked 46 rfl) h (fun x2 σ1 h => ?_)
  exact ww_iret C hR (dq dk_Mo_worked 47 rfl) h
set_option maxHeartbeats 4000000 in
set_option maxRecDepth 100000 in
theorem t_Mo_worked_B201 {k : Cfg} {res : Int32 × St} (C : Cx k prog_14_method_72_code "BundleHouseModel") (hR : RI k .int res) (hRm : k.2.2.2.1 = rm_Mo_worked) (hnL : k.2.2.2.2.2.2.2.2.2.2.2.1 = 8) (v0 : Nat) (v7 : Int32) (t0 : Nat) (t1 : Int32) (t2 : Int32) (ho_v0 : kd v0 = 12) (ho_t0 : kd t0 = 12) (σ : St) (h : Mo_worked_B201 v0 v7 t0 t1 t2 σ = some res) : WW k 201 [(0, .ref (ad k v0)), (7, .int v7)] [.int t2, .int t1, .ref (ad k t0)] σ := by
  unfold Mo_worked_B201 at h
  refine ww_cVv (st := []) C (c_Mo_setFlags t0 ho_t0 t1 t2) cw_Mo_setFlags ho_t0 (lt_ rfl) rfl g_8_56 hRm ⟨⟨rfl, rfl⟩, le_ rfl, le_ rfl⟩ rfl rfl rfl (le_ rfl) (dq dk_Mo_worked 82 rfl) h (fun σ1 h => ?_)
  refine ww_aload_n C 0 rfl rfl (dq dk_Mo_worked 83 rfl) ?_
  refine ww_iload C 1 rfl (dq dk_Mo_worked 84 rfl) ?_
  refine ww_cVv (st := []) C (c_Mo_result v0 ho_v0 v7) cw_Mo_result ho_v0 (lt_ rfl) rfl g_8_60 hRm ⟨⟨rfl, rfl⟩, le_ rfl, le_ rfl⟩ rfl rfl rfl (le_ rfl) (dq dk_Mo_worked 85 rfl) h (fun σ2 h => ?_)
  refine ww_iload C 1 rfl (dq dk_Mo_worked 86 rfl) ?_
  exact ww_iret C hR (dq dk_Mo_worked 87 rfl) h
set_option maxHeartbeats 4000000 in
set_option maxRecDepth 100000 in
theorem t_Mo_worked_B225 {k : Cfg} {res : Int32 × St} (C : Cx k prog_14_method_72_code "BundleHouseModel") (hR : RI k .int res) (hRm : k.2.2.2.1 = rm_Mo_worked) (hnL : k.2.2.2.2.2.2.2.2.2.2.2.1 = 8) (v0 : Nat) (v1 : Int32) (v2 : Int32) (v3 : Int32) (ho_v0 : kd v0 = 12) (σ : St) (h : Mo_worked_B225 v0 v1 v2 v3 σ = some res) : WW k 225 [(0, .ref (ad k v0)), (1, .int v1), (2, .int v2), (3, .int v3)] [] σ := by
  unfold Mo_worked_B225 at h
  refine ww_aload_n C 0 rfl rfl (dq dk_Mo_worked 98 rfl) ?_
  refine ww_iload_n C 1 rfl rfl (dq dk_Mo_worked 99 rfl) ?_
  refine ww_iload_n C 2 rfl rfl (dq dk_Mo_worked 100 rfl) ?_
  refine ww_iload_n C 3 rfl rfl (dq dk_Mo_worked 101 rfl) ?_
  refine ww_cVi (st := []) C (c_Mo_shifted v0 ho_v0 v1 v2 v3) cw_Mo_shifted ho_v0 (lt_ rfl) rfl g_8_72 hRm ⟨⟨rfl, rfl⟩, le_ rfl, le_ rfl⟩ rfl rfl rfl (le_ rfl) (dq dk_Mo_worked 102 rfl) h (fun x2 σ1 h => ?_)
  exact ww_iret C hR (dq dk_Mo_worked 103 rfl) h
set_option maxHeartbeats 4000000 in
set_option maxRecDepth 100000 in
theorem t_Mo_worked_B256 {k : Cfg} {res : Int32 × St} (C : Cx k prog_14_method_72_code "BundleHouseModel") (hR : RI k .int res) (hRm : k.2.2.2.1 = rm_Mo_worked) (hnL : k.2.2.2.2.2.2.2.2.2.2.2.1 = 8) (v0 : Nat) (v4 : Int32) (t0 : Int32) (ho_v0 : kd v0 = 12) (σ : St) (h : Mo_worked_B256 v0 v4 t0 σ = some res) : WW k 256 [(0, .ref (ad k v0)), (4, .int v4)] [.int t0] σ := by
  unfold Mo_worked_B256 at h
  refine ww_istore C [(5, .int t0), (0, .ref (ad k v0)), (4, .int v4)] hnL (lt_ rfl) rfl (dq dk_Mo_worked 118 rfl) ?_
  refine ww_aload_n C 1 rfl rfl (dq dk_Mo_worked 119 rfl) ?_
  refine ww_getr C ko_Mo 32 ho_v0 (lt_ rfl) g_6_82 rfl rfl (dq dk_Mo_worked 120 rfl) ?_
  refine ww_iconst C (dq dk_Mo_worked 121 rfl) ic_4 ?_
  refine ww_aload_n C 1 rfl rfl (dq dk_Mo_worked 122 rfl) ?_
  refine ww_geti C ko_Mo 42 ho_v0 (lt_ rfl) g_6_92 rfl rfl (dq dk_Mo_worked 123 rfl) ?_
  refine ww_imul C (dq dk_Mo_worked 124 rfl) ?_
  refine ww_iconst C (dq dk_Mo_worked 125 rfl) ic_0 ?_
  refine ww_iadd C (dq dk_Mo_worked 126 rfl) ?_
  refine ww_iload C 2 rfl (dq dk_Mo_worked 127 rfl) ?_
  refine ww_iast C (kc_Mo_32 _ ho_v0).1 (kc_Mo_32 _ ho_v0).2 (dq dk_Mo_worked 128 rfl) h (fun σ1 h => ?_)
  refine ww_iload C 0 rfl (dq dk_Mo_worked 129 rfl) ?_
  exact ww_iret C hR (dq dk_Mo_worked 130 rfl) h
set_option maxHeartbeats 4000000 in
set_option maxRecDepth 100000 in
theorem t_Mo_worked_B233 {k : Cfg} {res : Int32 × St} (C : Cx k prog_14_method_72_code "BundleHouseModel") (hR : RI k .int res) (hRm : k.2.2.2.1 = rm_Mo_worked) (hnL : k.2.2.2.2.2.2.2.2.2.2.2.1 = 8) (v0 : Nat) (v1 : Int32) (v2 : Int32) (v4 : Int32) (ho_v0 : kd v0 = 12) (σ : St) (h : Mo_worked_B233 v0 v1 v2 v4 σ = some res) : WW k 233 [(0, .ref (ad k v0)), (1, .int v1), (2, .int v2), (4, .int v4)] [] σ := by
  unfold Mo_worked_B233 at h
  refine ww_iload_n C 1 rfl rfl (dq dk_Mo_worked 104 rfl) ?_
  refine ww_bipush C (dq dk_Mo_worked 105 rfl) bp_17 ?_
  refine ww_icmp_ne C 249 (dq dk_Mo_worked 106 rfl) (by decide) h (fun h => ?_) (fun h => ?_)
  · refine ww_aload_n C 0 rfl rfl (dq dk_Mo_worked 113 rfl) ?_
    refine ww_iload_n C 2 rfl rfl (dq dk_Mo_worked 114 rfl) ?_
    refine ww_iconst C (dq dk_Mo_worked 115 rfl) ic_1 ?_
    refine ww_iconst C (dq dk_Mo_worked 116 rfl) ic_0 ?_
    refine ww_cVi (st := []) C (c_Mo_taken v0 ho_v0 v2 1 0) cw_Mo_taken ho_v0 (lt_ rfl) rfl g_8_68 hRm ⟨⟨rfl, rfl⟩, le_ rfl, le_ rfl⟩ rfl rfl rfl (le_ rfl) (dq dk_Mo_worked 117 rfl) h (fun x2 σ1 h => ?_)
    exact ww_lv [0, 3] rfl (t_Mo_worked_B256 C hR hRm hnL v0 v4 x2 ho_v0 σ1 h)
  · refine ww_aload_n C 0 rfl rfl (dq dk_Mo_worked 107 rfl) ?_
    refine ww_iload_n C 2 rfl rfl (dq dk_Mo_worked 108 rfl) ?_
    refine ww_iconst C (dq dk_Mo_worked 109 rfl) ic_1 ?_
    refine ww_iconst C (dq dk_Mo_worked 110 rfl) ic_0 ?_
    refine ww_cVi (st := []) C (c_Mo_added v0 ho_v0 v2 1 0) cw_Mo_added ho_v0 (lt_ rfl) rfl g_8_51 hRm ⟨⟨rfl, rfl⟩, le_ rfl, le_ rfl⟩ rfl rfl rfl (le_ rfl) (dq dk_Mo_worked 111 rfl) h (fun x4 σ3 h => ?_)
    refine ww_goto C 256 (dq dk_Mo_worked 112 rfl) (by decide) ?_
    exact ww_lv [0, 3] rfl (t_Mo_worked_B256 C hR hRm hnL v0 v4 x4 ho_v0 σ3 h)
set_option maxHeartbeats 4000000 in
set_option maxRecDepth 100000 in
theorem c_Mo_worked (v0 : Nat) (ho_v0 : kd v0 = 12) (v1 : Int32) (v2 : Int32) (v3 : Int32) : MI y_Mo_worked rm_Mo_worked prog_14_method_72_code 8 .int (fun a => [.ref (a v0), .int v1, .int v2, .int v3]) (Mo_worked v0 v1 v2 v3) := by
  refine mi_of (by decide) (fun _ => le_ rfl) ?_
  intro k res σ C hR hRm hnL h
  unfold Mo_worked at h
  show WW k 0 [(0, .ref (ad k v0)), (1, .int v1), (2, .int v2), (3, .int v3)] [] σ
  refine ww_aload_n C 0 rfl rfl (dq dk_Mo_worked 0 rfl) ?_
  refine ww_getr C ko_Mo 32 ho_v0 (lt_ rfl) g_6_82 rfl rfl (dq dk_Mo_worked 1 rfl) ?_
  refine ww_iconst C (dq dk_Mo_worked 2 rfl) ic_4 ?_
  refine ww_aload_n C 0 rfl rfl (dq dk_Mo_worked 3 rfl) ?_
  refine ww_geti C ko_Mo 42 ho_v0 (lt_ rfl) g_6_92 rfl rfl (dq dk_Mo_worked 4 rfl) ?_
  refine ww_imul C (dq dk_Mo_worked 5 rfl) ?_
  refine ww_iconst C (dq dk_Mo_worked 6 rfl) ic_0 ?_
  refine ww_iadd C (dq dk_Mo_worked 7 rfl) ?_
  refine ww_iald C (kc_Mo_32 _ ho_v0).1 (kc_Mo_32 _ ho_v0).2 (dq dk_Mo_worked 8 rfl) h (fun x1 h => ?_)
  refine ww_istore C [(4, .int x1), (0, .ref (ad k v0)), (1, .int v1), (2, .int v2), (3, .int v3)] hnL (lt_ rfl) rfl (dq dk_Mo_worked 9 rfl) ?_
  refine ww_iload_n C 2 rfl rfl (dq dk_Mo_worked 10 rfl) ?_
  by_cases e0_0 : v1 = 0
  · rw [if_pos e0_0] at h
    refine ww_tabIn C 100 (dq dk_Mo_worked 11 rfl) (by rw [e0_0]; decide) (by rw [e0_0]; decide) (by rw [e0_0]; rfl) (by decide) ?_
    refine ww_aload_n C 1 rfl rfl (dq dk_Mo_worked 12 rfl) ?_
    refine ww_iload_n C 3 rfl rfl (dq dk_Mo_worked 13 rfl) ?_
    refine ww_iload_n C 4 rfl rfl (dq dk_Mo_worked 14 rfl) ?_
    refine ww_iconst C (dq dk_Mo_worked 15 rfl) ic_0 ?_
    refine ww_cVi (st := []) C (c_Mo_added v0 ho_v0 v2 v3 0) cw_Mo_added ho_v0 (lt_ rfl) rfl g_8_51 hRm ⟨⟨rfl, rfl⟩, le_ rfl, le_ rfl⟩ rfl rfl rfl (le_ rfl) (dq dk_Mo_worked 16 rfl) h (fun x3 σ2 h => ?_)
    exact ww_iret C hR (dq dk_Mo_worked 17 rfl) h
  rw [if_neg e0_0] at h
  by_cases e1_1 : v1 = 1
  · rw [if_pos e1_1] at h
    refine ww_tabIn C 108 (dq dk_Mo_worked 11 rfl) (by rw [e1_1]; decide) (by rw [e1_1]; decide) (by rw [e1_1]; rfl) (by decide) ?_
    refine ww_aload_n C 1 rfl rfl (dq dk_Mo_worked 18 rfl) ?_
    refine ww_iload_n C 3 rfl rfl (dq dk_Mo_worked 19 rfl) ?_
    refine ww_iload_n C 4 rfl rfl (dq dk_Mo_worked 20 rfl) ?_
    refine ww_ior C (dq dk_Mo_worked 21 rfl) ?_
    refine ww_cVi (st := []) C (c_Mo_plainResult v0 ho_v0 (v2 ||| v3)) cw_Mo_plainResult ho_v0 (lt_ rfl) rfl g_8_64 hRm ⟨⟨rfl, rfl⟩, le_ rfl, le_ rfl⟩ rfl rfl rfl (le_ rfl) (dq dk_Mo_worked 22 rfl) h (fun x5 σ4 h => ?_)
    exact ww_iret C hR (dq dk_Mo_worked 23 rfl) h
  rw [if_neg e1_1] at h
  by_cases e2_2 : v1 = 2
  · rw [if_pos e2_2] at h
    refine ww_tabIn C 116 (dq dk_Mo_worked 11 rfl) (by rw [e2_2]; decide) (by rw [e2_2]; decide) (by rw [e2_2]; rfl) (by decide) ?_
    refine ww_aload_n C 1 rfl rfl (dq dk_Mo_worked 24 rfl) ?_
    refine ww_iload_n C 3 rfl rfl (dq dk_Mo_worked 25 rfl) ?_
    refine ww_iload_n C 4 rfl rfl (dq dk_Mo_worked 26 rfl) ?_
    refine ww_iload C 0 rfl (dq dk_Mo_worked 27 rfl) ?_
    refine ww_cVi (st := []) C (c_Mo_added v0 ho_v0 v2 v3 x1) cw_Mo_added ho_v0 (lt_ rfl) rfl g_8_51 hRm ⟨⟨rfl, rfl⟩, le_ rfl, le_ rfl⟩ rfl rfl rfl (le_ rfl) (dq dk_Mo_worked 28 rfl) h (fun x7 σ6 h => ?_)
    exact ww_iret C hR (dq dk_Mo_worked 29 rfl) h
  rw [if_neg e2_2] at h
  by_cases e3_3 : v1 = 3
  · rw [if_pos e3_3] at h
    refine ww_tabIn C 125 (dq dk_Mo_worked 11 rfl) (by rw [e3_3]; decide) (by rw [e3_3]; decide) (by rw [e3_3]; rfl) (by decide) ?_
    refine ww_aload_n C 1 rfl rfl (dq dk_Mo_worked 30 rfl) ?_
    refine ww_iload_n C 3 rfl rfl (dq dk_Mo_worked 31 rfl) ?_
    refine ww_iload_n C 4 rfl rfl (dq dk_Mo_worked 32 rfl) ?_
    refine ww_iload C 0 rfl (dq dk_Mo_worked 33 rfl) ?_
    refine ww_cVi (st := []) C (c_Mo_taken v0 ho_v0 v2 v3 x1) cw_Mo_taken ho_v0 (lt_ rfl) rfl g_8_68 hRm ⟨⟨rfl, rfl⟩, le_ rfl, le_ rfl⟩ rfl rfl rfl (le_ rfl) (dq dk_Mo_worked 34 rfl) h (fun x9 σ8 h => ?_)
    exact ww_iret C hR (dq dk_Mo_worked 35 rfl) h
  rw [if_neg e3_3] at h
  by_cases e4_4 : v1 = 4
  · rw [if_pos e4_4] at h
    refine ww_tabIn C 134 (dq dk_Mo_worked 11 rfl) (by rw [e4_4]; decide) (by rw [e4_4]; decide) (by rw [e4_4]; rfl) (by decide) ?_
    exact ww_lv [1, 3, 4] rfl (t_Mo_worked_B134 C hR hRm hnL v0 v2 v3 ho_v0 σ h)
  rw [if_neg e4_4] at h
  by_cases e5_5 : v1 = 5
  · rw [if_pos e5_5] at h
    refine ww_tabIn C 142 (dq dk_Mo_worked 11 rfl) (by rw [e5_5]; decide) (by rw [e5_5]; decide) (by rw [e5_5]; rfl) (by decide) ?_
    exact ww_lv [1, 3, 4] rfl (t_Mo_worked_B142 C hR hRm hnL v0 v2 v3 ho_v0 σ h)
  rw [if_neg e5_5] at h
  by_cases e6_6 : v1 = 6
  · rw [if_pos e6_6] at h
    refine ww_tabIn C 150 (dq dk_Mo_worked 11 rfl) (by rw [e6_6]; decide) (by rw [e6_6]; decide) (by rw [e6_6]; rfl) (by decide) ?_
    refine ww_aload_n C 1 rfl rfl (dq dk_Mo_worked 48 rfl) ?_
    refine ww_iload_n C 3 rfl rfl (dq dk_Mo_worked 49 rfl) ?_
    refine ww_iload_n C 4 rfl rfl (dq dk_Mo_worked 50 rfl) ?_
    refine ww_ixor C (dq dk_Mo_worked 51 rfl) ?_
    refine ww_cVi (st := []) C (c_Mo_plainResult v0 ho_v0 (v2 ^^^ v3)) cw_Mo_plainResult ho_v0 (lt_ rfl) rfl g_8_64 hRm ⟨⟨rfl, rfl⟩, le_ rfl, le_ rfl⟩ rfl rfl rfl (le_ rfl) (dq dk_Mo_worked 52 rfl) h (fun x11 σ10 h => ?_)
    exact ww_iret C hR (dq dk_Mo_worked 53 rfl) h
  rw [if_neg e6_6] at h
  by_cases e7_7 : v1 = 7
  · rw [if_pos e7_7] at h
    refine ww_tabIn C 142 (dq dk_Mo_worked 11 rfl) (by rw [e7_7]; decide) (by rw [e7_7]; decide) (by rw [e7_7]; rfl) (by decide) ?_
    exact ww_lv [1, 3, 4] rfl (t_Mo_worked_B142 C hR hRm hnL v0 v2 v3 ho_v0 σ h)
  rw [if_neg e7_7] at h
  by_cases e8_8 : v1 = 8
  · rw [if_pos e8_8] at h
    refine ww_tabIn C 158 (dq dk_Mo_worked 11 rfl) (by rw [e8_8]; decide) (by rw [e8_8]; decide) (by rw [e8_8]; rfl) (by decide) ?_
    refine ww_iload_n C 4 rfl rfl (dq dk_Mo_worked 54 rfl) ?_
    exact ww_iret C hR (dq dk_Mo_worked 55 rfl) h
  rw [if_neg e8_8] at h
  by_cases e9_9 : v1 = 9
  · rw [if_pos e9_9] at h
    refine ww_tabIn C 134 (dq dk_Mo_worked 11 rfl) (by rw [e9_9]; decide) (by rw [e9_9]; decide) (by rw [e9_9]; rfl) (by decide) ?_
    exact ww_lv [1, 3, 4] rfl (t_Mo_worked_B134 C hR hRm hnL v0 v2 v3 ho_v0 σ h)
  rw [if_neg e9_9] at h
  by_cases e10_10 : v1 = 10
  · rw [if_pos e10_10] at h
    refine ww_tabIn C 233 (dq dk_Mo_worked 11 rfl) (by rw [e10_10]; decide) (by rw [e10_10]; decide) (by rw [e10_10]; rfl) (by decide) ?_
    exact ww_lv [1, 2, 3, 0] rfl (t_Mo_worked_B233 C hR hRm hnL v0 v1 v2 x1 ho_v0 σ h)
  rw [if_neg e10_10] at h
  by_cases e11_11 : v1 = 11
  · rw [if_pos e11_11] at h
    refine ww_tabIn C 160 (dq dk_Mo_worked 11 rfl) (by rw [e11_11]; decide) (by rw [e11_11]; decide) (by rw [e11_11]; rfl) (by decide) ?_
    refine ww_iload_n C 3 rfl rfl (dq dk_Mo_worked 56 rfl) ?_
    refine ww_i2l C (dq dk_Mo_worked 57 rfl) ?_
    refine ww_iload_n C 4 rfl rfl (dq dk_Mo_worked 58 rfl) ?_
    refine ww_i2l C (dq dk_Mo_worked 59 rfl) ?_
    refine ww_lmul C (dq dk_Mo_worked 60 rfl) ?_
    refine ww_nml h (fun x12 h => ?_)
    refine ww_lstore C [(5, .long x12), (4, .int x1), (0, .ref (ad k v0)), (1, .int v1), (2, .int v2), (3, .int v3)] hnL (lt_ rfl) rfl (dq dk_Mo_worked 61 rfl) ?_
    refine ww_lload C 0 rfl (dq dk_Mo_worked 62 rfl) ?_
    refine ww_l2i C (dq dk_Mo_worked 63 rfl) ?_
    refine ww_nmi h (fun x13 h => ?_)
    refine ww_istore C [(7, .int x13), (5, .long x12), (4, .int x1), (0, .ref (ad k v0)), (1, .int v1), (2, .int v2), (3, .int v3)] hnL (lt_ rfl) rfl (dq dk_Mo_worked 64 rfl) ?_
    refine ww_aload_n C 3 rfl rfl (dq dk_Mo_worked 65 rfl) ?_
    refine ww_lload C 1 rfl (dq dk_Mo_worked 66 rfl) ?_
    refine ww_iload C 0 rfl (dq dk_Mo_worked 67 rfl) ?_
    refine ww_i2l C (dq dk_Mo_worked 68 rfl) ?_
    refine ww_lcmp C (dq dk_Mo_worked 69 rfl) ?_
    refine ww_if_eq C 186 (dq dk_Mo_worked 70 rfl) (by decide) h (fun h => ?_) (fun h => ?_)
    · refine ww_iconst C (dq dk_Mo_worked 73 rfl) ic_0 ?_
      refine ww_lload C 1 rfl (dq dk_Mo_worked 74 rfl) ?_
      refine ww_iload C 0 rfl (dq dk_Mo_worked 75 rfl) ?_
      refine ww_i2l C (dq dk_Mo_worked 76 rfl) ?_
      refine ww_lcmp C (dq dk_Mo_worked 77 rfl) ?_
      refine ww_if_eq C 200 (dq dk_Mo_worked 78 rfl) (by decide) h (fun h => ?_) (fun h => ?_)
      · refine ww_iconst C (dq dk_Mo_worked 81 rfl) ic_0 ?_
        exact ww_lv [3, 0] rfl (t_Mo_worked_B201 C hR hRm hnL v0 x13 v0 0 0 ho_v0 ho_v0 σ h)
      · refine ww_iconst C (dq dk_Mo_worked 79 rfl) ic_1 ?_
        refine ww_goto C 201 (dq dk_Mo_worked 80 rfl) (by decide) ?_
        exact ww_lv [3, 0] rfl (t_Mo_worked_B201 C hR hRm hnL v0 x13 v0 0 1 ho_v0 ho_v0 σ h)
    · refine ww_iconst C (dq dk_Mo_worked 71 rfl) ic_1 ?_
      refine ww_goto C 187 (dq dk_Mo_worked 72 rfl) (by decide) ?_
      refine ww_lload C 1 rfl (dq dk_Mo_worked 74 rfl) ?_
      refine ww_iload C 0 rfl (dq dk_Mo_worked 75 rfl) ?_
      refine ww_i2l C (dq dk_Mo_worked 76 rfl) ?_
      refine ww_lcmp C (dq dk_Mo_worked 77 rfl) ?_
      refine ww_if_eq C 200 (dq dk_Mo_worked 78 rfl) (by decide) h (fun h => ?_) (fun h => ?_)
      · refine ww_iconst C (dq dk_Mo_worked 81 rfl) ic_0 ?_
        exact ww_lv [3, 0] rfl (t_Mo_worked_B201 C hR hRm hnL v0 x13 v0 1 0 ho_v0 ho_v0 σ h)
      · refine ww_iconst C (dq dk_Mo_worked 79 rfl) ic_1 ?_
        refine ww_goto C 201 (dq dk_Mo_worked 80 rfl) (by decide) ?_
        exact ww_lv [3, 0] rfl (t_Mo_worked_B201 C hR hRm hnL v0 x13 v0 1 1 ho_v0 ho_v0 σ h)
  rw [if_neg e11_11] at h
  by_cases e12_12 : v1 = 12
  · rw [if_pos e12_12] at h
    refine ww_tabIn C 213 (dq dk_Mo_worked 11 rfl) (by rw [e12_12]; decide) (by rw [e12_12]; decide) (by rw [e12_12]; rfl) (by decide) ?_
    refine ww_iload_n C 3 rfl rfl (dq dk_Mo_worked 88 rfl) ?_
    refine ww_iconst C (dq dk_Mo_worked 89 rfl) ic_m1 ?_
    refine ww_ixor C (dq dk_Mo_worked 90 rfl) ?_
    exact ww_iret C hR (dq dk_Mo_worked 91 rfl) h
  rw [if_neg e12_12] at h
  by_cases e13_13 : v1 = 13
  · rw [if_pos e13_13] at h
    refine ww_tabIn C 217 (dq dk_Mo_worked 11 rfl) (by rw [e13_13]; decide) (by rw [e13_13]; decide) (by rw [e13_13]; rfl) (by decide) ?_
    refine ww_aload_n C 1 rfl rfl (dq dk_Mo_worked 92 rfl) ?_
    refine ww_iconst C (dq dk_Mo_worked 93 rfl) ic_0 ?_
    refine ww_iload_n C 3 rfl rfl (dq dk_Mo_worked 94 rfl) ?_
    refine ww_iconst C (dq dk_Mo_worked 95 rfl) ic_0 ?_
    refine ww_cVi (st := []) C (c_Mo_taken v0 ho_v0 0 v2 0) cw_Mo_taken ho_v0 (lt_ rfl) rfl g_8_68 hRm ⟨⟨rfl, rfl⟩, le_ rfl, le_ rfl⟩ rfl rfl rfl (le_ rfl) (dq dk_Mo_worked 96 rfl) h (fun x15 σ14 h => ?_)
    exact ww_iret C hR (dq dk_Mo_worked 97 rfl) h
  rw [if_neg e13_13] at h
  by_cases e14_14 : v1 = 14
  · rw [if_pos e14_14] at h
    refine ww_tabIn C 225 (dq dk_Mo_worked 11 rfl) (by rw [e14_14]; decide) (by rw [e14_14]; decide) (by rw [e14_14]; rfl) (by decide) ?_
    exact ww_lv [1, 2, 3, 4] rfl (t_Mo_worked_B225 C hR hRm hnL v0 v1 v2 v3 ho_v0 σ h)
  rw [if_neg e14_14] at h
  by_cases e15_15 : v1 = 15
  · rw [if_pos e15_15] at h
    refine ww_tabIn C 225 (dq dk_Mo_worked 11 rfl) (by rw [e15_15]; decide) (by rw [e15_15]; decide) (by rw [e15_15]; rfl) (by decide) ?_
    exact ww_lv [1, 2, 3, 4] rfl (t_Mo_worked_B225 C hR hRm hnL v0 v1 v2 v3 ho_v0 σ h)
  rw [if_neg e15_15] at h
  by_cases e16_16 : v1 = 16
  · rw [if_pos e16_16] at h
    refine ww_tabIn C 225 (dq dk_Mo_worked 11 rfl) (by rw [e16_16]; decide) (by rw [e16_16]; decide) (by rw [e16_16]; rfl) (by decide) ?_
    exact ww_lv [1, 2, 3, 4] rfl (t_Mo_worked_B225 C hR hRm hnL v0 v1 v2 v3 ho_v0 σ h)
  rw [if_neg e16_16] at h
  have ne0_0 := lv_neT (a := 0) e0_0 (by decide)
  have ne1_1 := lv_neT (a := 1) e1_1 (by decide)
  have ne2_2 := lv_neT (a := 2) e2_2 (by decide)
  have ne3_3 := lv_neT (a := 3) e3_3 (by decide)
  have ne4_4 := lv_neT (a := 4) e4_4 (by decide)
  have ne5_5 := lv_neT (a := 5) e5_5 (by decide)
  have ne6_6 := lv_neT (a := 6) e6_6 (by decide)
  have ne7_7 := lv_neT (a := 7) e7_7 (by decide)
  have ne8_8 := lv_neT (a := 8) e8_8 (by decide)
  have ne9_9 := lv_neT (a := 9) e9_9 (by decide)
  have ne10_10 := lv_neT (a := 10) e10_10 (by decide)
  have ne11_11 := lv_neT (a := 11) e11_11 (by decide)
  have ne12_12 := lv_neT (a := 12) e12_12 (by decide)
  have ne13_13 := lv_neT (a := 13) e13_13 (by decide)
  have ne14_14 := lv_neT (a := 14) e14_14 (by decide)
  have ne15_15 := lv_neT (a := 15) e15_15 (by decide)
  have ne16_16 := lv_neT (a := 16) e16_16 (by decide)
  refine ww_tabOut C 233 (dq dk_Mo_worked 11 rfl) (by omega) (by decide) ?_
  exact ww_lv [1, 2, 3, 0] rfl (t_Mo_worked_B233 C hR hRm hnL v0 v1 v2 x1 ho_v0 σ h)
abbrev y_Mo_holds : MethodName := ⟨"BundleHouseModel", "holds", "(I)Z"⟩
def dl_Mo_holds : List (Nat × Instr × Nat) := [(0, .iconst 4, 1), (1, .aload_n 0, 1), (2, .getfield 313, 3), (5, .imul, 1), (6, .istore_n 2, 1), (7, .aload_n 0, 1), (8, .getfield 78, 3), (11, .iload_n 2, 1), (12, .iconst 2, 1), (13, .iadd, 1), (14, .iaload, 1), (15, .aload_n 0, 1), (16, .getfield 78, 3), (19, .iload_n 2, 1), (20, .iconst 3, 1), (21, .iadd, 1), (22, .iaload, 1), (23, .if_icmp .eq 7, 3), (26, .iconst 1, 1), (27, .goto 4, 3), (30, .iconst 0, 1), (31, .istore_n 3, 1), (32, .iload_n 1, 1), (33, .iconst 1, 1), (34, .ishr, 1), (35, .tableswitch 169 0 6 #[41, 63, 85, 107, 141, 169, 163], 41), (76, .aload_n 0, 1), (77, .getfield 78, 3), (80, .iload_n 2, 1), (81, .iconst 3, 1), (82, .iadd, 1), (83, .iaload, 1), (84, .iconst 1, 1), (85, .if_icmp .ne 7, 3), (88, .iconst 1, 1), (89, .goto 4, 3), (92, .iconst 0, 1), (93, .istore 4, 2), (95, .goto 132, 3), (98, .aload_n 0, 1), (99, .getfield 78, 3), (102, .iload_n 2, 1), (103, .iconst 0, 1), (104, .iadd, 1), (105, .iaload, 1), (106, .iconst 1, 1), (107, .if_icmp .ne 7, 3), (110, .iconst 1, 1), (111, .goto 4, 3), (114, .iconst 0, 1), (115, .istore 4, 2), (117, .goto 110, 3), (120, .aload_n 0, 1), (121, .getfield 78, 3), (124, .iload_n 2, 1), (125, .iconst 1, 1), (126, .iadd, 1), (127, .iaload, 1), (128, .iconst 1, 1), (129, .if_icmp .ne 7, 3), (132, .iconst 1, 1), (133, .goto 4, 3), (136, .iconst 0, 1), (137, .istore 4, 2), (139, .goto 88, 3), (142, .aload_n 0, 1), (143, .getfield 78, 3), (146, .iload_n 2, 1), (147, .iconst 0, 1), (148, .iadd, 1), (149, .iaload, 1), (150, .iconst 1, 1), (151, .if_icmp .eq 15, 3), (154, .aload_n 0, 1), (155, .getfield 78, 3), (158, .iload_n 2, 1), (159, .iconst 1, 1), (160, .iadd, 1), (161, .iaload, 1), (162, .iconst 1, 1), (163, .if_icmp .ne 7, 3), (166, .iconst 1, 1), (167, .goto 4, 3), (170, .iconst 0, 1), (171, .istore 4, 2), (173, .goto 54, 3), (176, .aload_n 0, 1), (177, .getfield 78, 3), (180, .iload_n 2, 1), (181, .iconst 2, 1), (182, .iadd, 1), (183, .iaload, 1), (184, .iconst 1, 1), (185, .if_icmp .ne 7, 3), (188, .iconst 1, 1), (189, .goto 4, 3), (192, .iconst 0, 1), (193, .istore 4, 2), (195, .goto 32, 3), (198, .iload_n 3, 1), (199, .istore 4, 2), (201, .goto 26, 3), (204, .aload_n 0, 1), (205, .getfield 78, 3), (208, .iload_n 2, 1), (209, .iconst 1, 1), (210, .iadd, 1), (211, .iaload, 1), (212, .iconst 1, 1), (213, .if_icmp .eq 7, 3), (216, .iload_n 3, 1), (217, .ifCond .eq 7, 3), (220, .iconst 1, 1), (221, .goto 4, 3), (224, .iconst 0, 1), (225, .istore 4, 2), (227, .iload 4, 2), (229, .iload_n 1, 1), (230, .iconst 1, 1), (231, .iand, 1), (232, .iconst 1, 1), (233, .if_icmp .ne 7, 3), (236, .iconst 1, 1), (237, .goto 4, 3), (240, .iconst 0, 1), (241, .if_icmp .eq 7, 3), (244, .iconst 1, 1), (245, .goto 4, 3), (248, .iconst 0, 1), (249, .ireturn, 1)]
set_option maxRecDepth 100000 in
theorem dk_Mo_holds : ∀ q ∈ dl_Mo_holds, decode prog_14_method_73_code q.1 = .ok q.2 := by decide +kernel
abbrev rm_Mo_holds : Room := { frames := 0, cells := 0, slots := 0, locals := 0 }
theorem cw_Mo_holds : CWV y_Mo_holds prog_14_method_73_code 5 (some .boolean) 1 := ⟨⟨g_8_34, g_1_13, by decide, by decide, by decide +kernel⟩, g_8_33, gs_7_11⟩
set_option maxHeartbeats 4000000 in
set_option maxRecDepth 100000 in
theorem t_Mo_holds_B227 {k : Cfg} {res : Int32 × St} (C : Cx k prog_14_method_73_code "BundleHouseModel") (hR : RI k .boolean res) (hRm : k.2.2.2.1 = rm_Mo_holds) (hnL : k.2.2.2.2.2.2.2.2.2.2.2.1 = 5) (v1 : Int32) (v4 : Int32) (σ : St) (h : Mo_holds_B227 v1 v4 σ = some res) : WW k 227 [(1, .int v1), (4, .int v4)] [] σ := by
  unfold Mo_holds_B227 at h
  refine ww_iload C 1 rfl (dq dk_Mo_holds 116 rfl) ?_
  refine ww_iload_n C 0 rfl rfl (dq dk_Mo_holds 117 rfl) ?_
  refine ww_iconst C (dq dk_Mo_holds 118 rfl) ic_1 ?_
  refine ww_iand C (dq dk_Mo_holds 119 rfl) ?_
  refine ww_iconst C (dq dk_Mo_holds 120 rfl) ic_1 ?_
  refine ww_icmp_ne C 240 (dq dk_Mo_holds 121 rfl) (by decide) h (fun h => ?_) (fun h => ?_)
  · refine ww_iconst C (dq dk_Mo_holds 124 rfl) ic_0 ?_
    refine ww_icmp_eq C 248 (dq dk_Mo_holds 125 rfl) (by decide) h (fun h => ?_) (fun h => ?_)
    · refine ww_iconst C (dq dk_Mo_holds 128 rfl) ic_0 ?_
      exact ww_zretL C hR (dq dk_Mo_holds 129 rfl) (Or.inl rfl) h
    · refine ww_iconst C (dq dk_Mo_holds 126 rfl) ic_1 ?_
      refine ww_goto C 249 (dq dk_Mo_holds 127 rfl) (by decide) ?_
      exact ww_zretL C hR (dq dk_Mo_holds 129 rfl) (Or.inr rfl) h
  · refine ww_iconst C (dq dk_Mo_holds 122 rfl) ic_1 ?_
    refine ww_goto C 241 (dq dk_Mo_holds 123 rfl) (by decide) ?_
    refine ww_icmp_eq C 248 (dq dk_Mo_holds 125 rfl) (by decide) h (fun h => ?_) (fun h => ?_)
    · refine ww_iconst C (dq dk_Mo_holds 128 rfl) ic_0 ?_
      exact ww_zretL C hR (dq dk_Mo_holds 129 rfl) (Or.inl rfl) h
    · refine ww_iconst C (dq dk_Mo_holds 126 rfl) ic_1 ?_
      refine ww_goto C 249 (dq dk_Mo_holds 127 rfl) (by decide) ?_
      exact ww_zretL C hR (dq dk_Mo_holds 129 rfl) (Or.inr rfl) h
set_option maxHeartbeats 4000000 in
set_option maxRecDepth 100000 in
theorem t_Mo_holds_B204 {k : Cfg} {res : Int32 × St} (C : Cx k prog_14_method_73_code "BundleHouseModel") (hR : RI k .boolean res) (hRm : k.2.2.2.1 = rm_Mo_holds) (hnL : k.2.2.2.2.2.2.2.2.2.2.2.1 = 5) (v0 : Nat) (v1 : Int32) (v2 : Int32) (v3 : Int32) (ho_v0 : kd v0 = 12) (σ : St) (h : Mo_holds_B204 v0 v1 v2 v3 σ = some res) : WW k 204 [(0, .ref (ad k v0)), (1, .int v1), (2, .int v2), (3, .int v3)] [] σ := by
  unfold Mo_holds_B204 at h
  refine ww_aload_n C 0 rfl rfl (dq dk_Mo_holds 102 rfl) ?_
  refine ww_getr C ko_Mo 32 ho_v0 (lt_ rfl) g_6_82 rfl rfl (dq dk_Mo_holds 103 rfl) ?_
  refine ww_iload_n C 2 rfl rfl (dq dk_Mo_holds 104 rfl) ?_
  refine ww_iconst C (dq dk_Mo_holds 105 rfl) ic_1 ?_
  refine ww_iadd C (dq dk_Mo_holds 106 rfl) ?_
  refine ww_iald C (kc_Mo_32 _ ho_v0).1 (kc_Mo_32 _ ho_v0).2 (dq dk_Mo_holds 107 rfl) h (fun x1 h => ?_)
  refine ww_iconst C (dq dk_Mo_holds 108 rfl) ic_1 ?_
  refine ww_icmp_eq C 220 (dq dk_Mo_holds 109 rfl) (by decide) h (fun h => ?_) (fun h => ?_)
  · refine ww_iconst C (dq dk_Mo_holds 112 rfl) ic_1 ?_
    refine ww_goto C 225 (dq dk_Mo_holds 113 rfl) (by decide) ?_
    refine ww_istore C [(4, .int 1), (0, .ref (ad k v0)), (1, .int v1), (2, .int v2), (3, .int v3)] hnL (lt_ rfl) rfl (dq dk_Mo_holds 115 rfl) ?_
    exact ww_lv [2, 0] rfl (t_Mo_holds_B227 C hR hRm hnL v1 1 σ h)
  · refine ww_iload_n C 3 rfl rfl (dq dk_Mo_holds 110 rfl) ?_
    refine ww_if_eq C 224 (dq dk_Mo_holds 111 rfl) (by decide) h (fun h => ?_) (fun h => ?_)
    · refine ww_iconst C (dq dk_Mo_holds 114 rfl) ic_0 ?_
      refine ww_istore C [(4, .int 0), (0, .ref (ad k v0)), (1, .int v1), (2, .int v2), (3, .int v3)] hnL (lt_ rfl) rfl (dq dk_Mo_holds 115 rfl) ?_
      exact ww_lv [2, 0] rfl (t_Mo_holds_B227 C hR hRm hnL v1 0 σ h)
    · refine ww_iconst C (dq dk_Mo_holds 112 rfl) ic_1 ?_
      refine ww_goto C 225 (dq dk_Mo_holds 113 rfl) (by decide) ?_
      refine ww_istore C [(4, .int 1), (0, .ref (ad k v0)), (1, .int v1), (2, .int v2), (3, .int v3)] hnL (lt_ rfl) rfl (dq dk_Mo_holds 115 rfl) ?_
      exact ww_lv [2, 0] rfl (t_Mo_holds_B227 C hR hRm hnL v1 1 σ h)
set_option maxHeartbeats 4000000 in
set_option maxRecDepth 100000 in
theorem t_Mo_holds_B31 {k : Cfg} {res : Int32 × St} (C : Cx k prog_14_method_73_code "BundleHouseModel") (hR : RI k .boolean res) (hRm : k.2.2.2.1 = rm_Mo_holds) (hnL : k.2.2.2.2.2.2.2.2.2.2.2.1 = 5) (v0 : Nat) (v1 : Int32) (v2 : Int32) (t0 : Int32) (ho_v0 : kd v0 = 12) (σ : St) (h : Mo_holds_B31 v0 v1 v2 t0 σ = some res) : WW k 31 [(0, .ref (ad k v0)), (1, .int v1), (2, .int v2)] [.int t0] σ := by
  unfold Mo_holds_B31 at h
  refine ww_istore_n C [(3, .int t0), (0, .ref (ad k v0)), (1, .int v1), (2, .int v2)] rfl hnL (lt_ rfl) rfl (dq dk_Mo_holds 21 rfl) ?_
  refine ww_iload_n C 2 rfl rfl (dq dk_Mo_holds 22 rfl) ?_
  refine ww_iconst C (dq dk_Mo_holds 23 rfl) ic_1 ?_
  refine ww_ishr C (dq dk_Mo_holds 24 rfl) ?_
  refine ww_nmi h (fun x1 h => ?_)
  by_cases e0_0 : x1 = 0
  · rw [if_pos e0_0] at h
    refine ww_tabIn C 76 (dq dk_Mo_holds 25 rfl) (by rw [e0_0]; decide) (by rw [e0_0]; decide) (by rw [e0_0]; rfl) (by decide) ?_
    refine ww_aload_n C 1 rfl rfl (dq dk_Mo_holds 26 rfl) ?_
    refine ww_getr C ko_Mo 32 ho_v0 (lt_ rfl) g_6_82 rfl rfl (dq dk_Mo_holds 27 rfl) ?_
    refine ww_iload_n C 3 rfl rfl (dq dk_Mo_holds 28 rfl) ?_
    refine ww_iconst C (dq dk_Mo_holds 29 rfl) ic_3 ?_
    refine ww_iadd C (dq dk_Mo_holds 30 rfl) ?_
    refine ww_iald C (kc_Mo_32 _ ho_v0).1 (kc_Mo_32 _ ho_v0).2 (dq dk_Mo_holds 31 rfl) h (fun x2 h => ?_)
    refine ww_iconst C (dq dk_Mo_holds 32 rfl) ic_1 ?_
    refine ww_icmp_ne C 92 (dq dk_Mo_holds 33 rfl) (by decide) h (fun h => ?_) (fun h => ?_)
    · refine ww_iconst C (dq dk_Mo_holds 36 rfl) ic_0 ?_
      refine ww_istore C [(4, .int 0), (3, .int t0), (0, .ref (ad k v0)), (1, .int v1), (2, .int v2)] hnL (lt_ rfl) rfl (dq dk_Mo_holds 37 rfl) ?_
      refine ww_goto C 227 (dq dk_Mo_holds 38 rfl) (by decide) ?_
      exact ww_lv [3, 0] rfl (t_Mo_holds_B227 C hR hRm hnL v1 0 σ h)
    · refine ww_iconst C (dq dk_Mo_holds 34 rfl) ic_1 ?_
      refine ww_goto C 93 (dq dk_Mo_holds 35 rfl) (by decide) ?_
      refine ww_istore C [(4, .int 1), (3, .int t0), (0, .ref (ad k v0)), (1, .int v1), (2, .int v2)] hnL (lt_ rfl) rfl (dq dk_Mo_holds 37 rfl) ?_
      refine ww_goto C 227 (dq dk_Mo_holds 38 rfl) (by decide) ?_
      exact ww_lv [3, 0] rfl (t_Mo_holds_B227 C hR hRm hnL v1 1 σ h)
  rw [if_neg e0_0] at h
  by_cases e1_1 : x1 = 1
  · rw [if_pos e1_1] at h
    refine ww_tabIn C 98 (dq dk_Mo_holds 25 rfl) (by rw [e1_1]; decide) (by rw [e1_1]; decide) (by rw [e1_1]; rfl) (by decide) ?_
    refine ww_aload_n C 1 rfl rfl (dq dk_Mo_holds 39 rfl) ?_
    refine ww_getr C ko_Mo 32 ho_v0 (lt_ rfl) g_6_82 rfl rfl (dq dk_Mo_holds 40 rfl) ?_
    refine ww_iload_n C 3 rfl rfl (dq dk_Mo_holds 41 rfl) ?_
    refine ww_iconst C (dq dk_Mo_holds 42 rfl) ic_0 ?_
    refine ww_iadd C (dq dk_Mo_holds 43 rfl) ?_
    refine ww_iald C (kc_Mo_32 _ ho_v0).1 (kc_Mo_32 _ ho_v0).2 (dq dk_Mo_holds 44 rfl) h (fun x3 h => ?_)
    refine ww_iconst C (dq dk_Mo_holds 45 rfl) ic_1 ?_
    refine ww_icmp_ne C 114 (dq dk_Mo_holds 46 rfl) (by decide) h (fun h => ?_) (fun h => ?_)
    · refine ww_iconst C (dq dk_Mo_holds 49 rfl) ic_0 ?_
      refine ww_istore C [(4, .int 0), (3, .int t0), (0, .ref (ad k v0)), (1, .int v1), (2, .int v2)] hnL (lt_ rfl) rfl (dq dk_Mo_holds 50 rfl) ?_
      refine ww_goto C 227 (dq dk_Mo_holds 51 rfl) (by decide) ?_
      exact ww_lv [3, 0] rfl (t_Mo_holds_B227 C hR hRm hnL v1 0 σ h)
    · refine ww_iconst C (dq dk_Mo_holds 47 rfl) ic_1 ?_
      refine ww_goto C 115 (dq dk_Mo_holds 48 rfl) (by decide) ?_
      refine ww_istore C [(4, .int 1), (3, .int t0), (0, .ref (ad k v0)), (1, .int v1), (2, .int v2)] hnL (lt_ rfl) rfl (dq dk_Mo_holds 50 rfl) ?_
      refine ww_goto C 227 (dq dk_Mo_holds 51 rfl) (by decide) ?_
      exact ww_lv [3, 0] rfl (t_Mo_holds_B227 C hR hRm hnL v1 1 σ h)
  rw [if_neg e1_1] at h
  by_cases e2_2 : x1 = 2
  · rw [if_pos e2_2] at h
    refine ww_tabIn C 120 (dq dk_Mo_holds 25 rfl) (by rw [e2_2]; decide) (by rw [e2_2]; decide) (by rw [e2_2]; rfl) (by decide) ?_
    refine ww_aload_n C 1 rfl rfl (dq dk_Mo_holds 52 rfl) ?_
    refine ww_getr C ko_Mo 32 ho_v0 (lt_ rfl) g_6_82 rfl rfl (dq dk_Mo_holds 53 rfl) ?_
    refine ww_iload_n C 3 rfl rfl (dq dk_Mo_holds 54 rfl) ?_
    refine ww_iconst C (dq dk_Mo_holds 55 rfl) ic_1 ?_
    refine ww_iadd C (dq dk_Mo_holds 56 rfl) ?_
    refine ww_iald C (kc_Mo_32 _ ho_v0).1 (kc_Mo_32 _ ho_v0).2 (dq dk_Mo_holds 57 rfl) h (fun x4 h => ?_)
    refine ww_iconst C (dq dk_Mo_holds 58 rfl) ic_1 ?_
    refine ww_icmp_ne C 136 (dq dk_Mo_holds 59 rfl) (by decide) h (fun h => ?_) (fun h => ?_)
    · refine ww_iconst C (dq dk_Mo_holds 62 rfl) ic_0 ?_
      refine ww_istore C [(4, .int 0), (3, .int t0), (0, .ref (ad k v0)), (1, .int v1), (2, .int v2)] hnL (lt_ rfl) rfl (dq dk_Mo_holds 63 rfl) ?_
      refine ww_goto C 227 (dq dk_Mo_holds 64 rfl) (by decide) ?_
      exact ww_lv [3, 0] rfl (t_Mo_holds_B227 C hR hRm hnL v1 0 σ h)
    · refine ww_iconst C (dq dk_Mo_holds 60 rfl) ic_1 ?_
      refine ww_goto C 137 (dq dk_Mo_holds 61 rfl) (by decide) ?_
      refine ww_istore C [(4, .int 1), (3, .int t0), (0, .ref (ad k v0)), (1, .int v1), (2, .int v2)] hnL (lt_ rfl) rfl (dq dk_Mo_holds 63 rfl) ?_
      refine ww_goto C 227 (dq dk_Mo_holds 64 rfl) (by decide) ?_
      exact ww_lv [3, 0] rfl (t_Mo_holds_B227 C hR hRm hnL v1 1 σ h)
  rw [if_neg e2_2] at h
  by_cases e3_3 : x1 = 3
  · rw [if_pos e3_3] at h
    refine ww_tabIn C 142 (dq dk_Mo_holds 25 rfl) (by rw [e3_3]; decide) (by rw [e3_3]; decide) (by rw [e3_3]; rfl) (by decide) ?_
    refine ww_aload_n C 1 rfl rfl (dq dk_Mo_holds 65 rfl) ?_
    refine ww_getr C ko_Mo 32 ho_v0 (lt_ rfl) g_6_82 rfl rfl (dq dk_Mo_holds 66 rfl) ?_
    refine ww_iload_n C 3 rfl rfl (dq dk_Mo_holds 67 rfl) ?_
    refine ww_iconst C (dq dk_Mo_holds 68 rfl) ic_0 ?_
    refine ww_iadd C (dq dk_Mo_holds 69 rfl) ?_
    refine ww_iald C (kc_Mo_32 _ ho_v0).1 (kc_Mo_32 _ ho_v0).2 (dq dk_Mo_holds 70 rfl) h (fun x5 h => ?_)
    refine ww_iconst C (dq dk_Mo_holds 71 rfl) ic_1 ?_
    refine ww_icmp_eq C 166 (dq dk_Mo_holds 72 rfl) (by decide) h (fun h => ?_) (fun h => ?_)
    · refine ww_iconst C (dq dk_Mo_holds 81 rfl) ic_1 ?_
      refine ww_goto C 171 (dq dk_Mo_holds 82 rfl) (by decide) ?_
      refine ww_istore C [(4, .int 1), (3, .int t0), (0, .ref (ad k v0)), (1, .int v1), (2, .int v2)] hnL (lt_ rfl) rfl (dq dk_Mo_holds 84 rfl) ?_
      refine ww_goto C 227 (dq dk_Mo_holds 85 rfl) (by decide) ?_
      exact ww_lv [3, 0] rfl (t_Mo_holds_B227 C hR hRm hnL v1 1 σ h)
    · refine ww_aload_n C 1 rfl rfl (dq dk_Mo_holds 73 rfl) ?_
      refine ww_getr C ko_Mo 32 ho_v0 (lt_ rfl) g_6_82 rfl rfl (dq dk_Mo_holds 74 rfl) ?_
      refine ww_iload_n C 3 rfl rfl (dq dk_Mo_holds 75 rfl) ?_
      refine ww_iconst C (dq dk_Mo_holds 76 rfl) ic_1 ?_
      refine ww_iadd C (dq dk_Mo_holds 77 rfl) ?_
      refine ww_iald C (kc_Mo_32 _ ho_v0).1 (kc_Mo_32 _ ho_v0).2 (dq dk_Mo_holds 78 rfl) h (fun x6 h => ?_)
      refine ww_iconst C (dq dk_Mo_holds 79 rfl) ic_1 ?_
      refine ww_icmp_ne C 170 (dq dk_Mo_holds 80 rfl) (by decide) h (fun h => ?_) (fun h => ?_)
      · refine ww_iconst C (dq dk_Mo_holds 83 rfl) ic_0 ?_
        refine ww_istore C [(4, .int 0), (3, .int t0), (0, .ref (ad k v0)), (1, .int v1), (2, .int v2)] hnL (lt_ rfl) rfl (dq dk_Mo_holds 84 rfl) ?_
        refine ww_goto C 227 (dq dk_Mo_holds 85 rfl) (by decide) ?_
        exact ww_lv [3, 0] rfl (t_Mo_holds_B227 C hR hRm hnL v1 0 σ h)
      · refine ww_iconst C (dq dk_Mo_holds 81 rfl) ic_1 ?_
        refine ww_goto C 171 (dq dk_Mo_holds 82 rfl) (by decide) ?_
        refine ww_istore C [(4, .int 1), (3, .int t0), (0, .ref (ad k v0)), (1, .int v1), (2, .int v2)] hnL (lt_ rfl) rfl (dq dk_Mo_holds 84 rfl) ?_
        refine ww_goto C 227 (dq dk_Mo_holds 85 rfl) (by decide) ?_
        exact ww_lv [3, 0] rfl (t_Mo_holds_B227 C hR hRm hnL v1 1 σ h)
  rw [if_neg e3_3] at h
  by_cases e4_4 : x1 = 4
  · rw [if_pos e4_4] at h
    refine ww_tabIn C 176 (dq dk_Mo_holds 25 rfl) (by rw [e4_4]; decide) (by rw [e4_4]; decide) (by rw [e4_4]; rfl) (by decide) ?_
    refine ww_aload_n C 1 rfl rfl (dq dk_Mo_holds 86 rfl) ?_
    refine ww_getr C ko_Mo 32 ho_v0 (lt_ rfl) g_6_82 rfl rfl (dq dk_Mo_holds 87 rfl) ?_
    refine ww_iload_n C 3 rfl rfl (dq dk_Mo_holds 88 rfl) ?_
    refine ww_iconst C (dq dk_Mo_holds 89 rfl) ic_2 ?_
    refine ww_iadd C (dq dk_Mo_holds 90 rfl) ?_
    refine ww_iald C (kc_Mo_32 _ ho_v0).1 (kc_Mo_32 _ ho_v0).2 (dq dk_Mo_holds 91 rfl) h (fun x7 h => ?_)
    refine ww_iconst C (dq dk_Mo_holds 92 rfl) ic_1 ?_
    refine ww_icmp_ne C 192 (dq dk_Mo_holds 93 rfl) (by decide) h (fun h => ?_) (fun h => ?_)
    · refine ww_iconst C (dq dk_Mo_holds 96 rfl) ic_0 ?_
      refine ww_istore C [(4, .int 0), (3, .int t0), (0, .ref (ad k v0)), (1, .int v1), (2, .int v2)] hnL (lt_ rfl) rfl (dq dk_Mo_holds 97 rfl) ?_
      refine ww_goto C 227 (dq dk_Mo_holds 98 rfl) (by decide) ?_
      exact ww_lv [3, 0] rfl (t_Mo_holds_B227 C hR hRm hnL v1 0 σ h)
    · refine ww_iconst C (dq dk_Mo_holds 94 rfl) ic_1 ?_
      refine ww_goto C 193 (dq dk_Mo_holds 95 rfl) (by decide) ?_
      refine ww_istore C [(4, .int 1), (3, .int t0), (0, .ref (ad k v0)), (1, .int v1), (2, .int v2)] hnL (lt_ rfl) rfl (dq dk_Mo_holds 97 rfl) ?_
      refine ww_goto C 227 (dq dk_Mo_holds 98 rfl) (by decide) ?_
      exact ww_lv [3, 0] rfl (t_Mo_holds_B227 C hR hRm hnL v1 1 σ h)
  rw [if_neg e4_4] at h
  by_cases e5_5 : x1 = 5
  · rw [if_pos e5_5] at h
    refine ww_tabIn C 204 (dq dk_Mo_holds 25 rfl) (by rw [e5_5]; decide) (by rw [e5_5]; decide) (by rw [e5_5]; rfl) (by decide) ?_
    exact ww_lv [1, 2, 3, 0] rfl (t_Mo_holds_B204 C hR hRm hnL v0 v1 v2 t0 ho_v0 σ h)
  rw [if_neg e5_5] at h
  by_cases e6_6 : x1 = 6
  · rw [if_pos e6_6] at h
    refine ww_tabIn C 198 (dq dk_Mo_holds 25 rfl) (by rw [e6_6]; decide) (by rw [e6_6]; decide) (by rw [e6_6]; rfl) (by decide) ?_
    refine ww_iload_n C 0 rfl rfl (dq dk_Mo_holds 99 rfl) ?_
    refine ww_istore C [(4, .int t0), (3, .int t0), (0, .ref (ad k v0)), (1, .int v1), (2, .int v2)] hnL (lt_ rfl) rfl (dq dk_Mo_holds 100 rfl) ?_
    refine ww_goto C 227 (dq dk_Mo_holds 101 rfl) (by decide) ?_
    exact ww_lv [3, 0] rfl (t_Mo_holds_B227 C hR hRm hnL v1 t0 σ h)
  rw [if_neg e6_6] at h
  have ne0_0 := lv_neT (a := 0) e0_0 (by decide)
  have ne1_1 := lv_neT (a := 1) e1_1 (by decide)
  have ne2_2 := lv_neT (a := 2) e2_2 (by decide)
  have ne3_3 := lv_neT (a := 3) e3_3 (by decide)
  have ne4_4 := lv_neT (a := 4) e4_4 (by decide)
  have ne5_5 := lv_neT (a := 5) e5_5 (by decide)
  have ne6_6 := lv_neT (a := 6) e6_6 (by decide)
  refine ww_tabOut C 204 (dq dk_Mo_holds 25 rfl) (by omega) (by decide) ?_
  exact ww_lv [1, 2, 3, 0] rfl (t_Mo_holds_B204 C hR hRm hnL v0 v1 v2 t0 ho_v0 σ h)
set_option maxHeartbeats 4000000 in
set_option maxRecDepth 100000 in
theorem c_Mo_holds (v0 : Nat) (ho_v0 : kd v0 = 12) (v1 : Int32) : MI y_Mo_holds rm_Mo_holds prog_14_method_73_code 5 .boolean (fun a => [.ref (a v0), .int v1]) (Mo_holds v0 v1) := by
  refine mi_of (by decide) (fun _ => le_ rfl) ?_
  intro k res σ C hR hRm hnL h
  unfold Mo_holds at h
  show WW k 0 [(0, .ref (ad k v0)), (1, .int v1)] [] σ
  refine ww_iconst C (dq dk_Mo_holds 0 rfl) ic_4 ?_
  refine ww_aload_n C 0 rfl rfl (dq dk_Mo_holds 1 rfl) ?_
  refine ww_geti C ko_Mo 42 ho_v0 (lt_ rfl) g_6_92 rfl rfl (dq dk_Mo_holds 2 rfl) ?_
  refine ww_imul C (dq dk_Mo_holds 3 rfl) ?_
  refine ww_nmi h (fun x1 h => ?_)
  refine ww_istore_n C [(2, .int x1), (0, .ref (ad k v0)), (1, .int v1)] rfl hnL (lt_ rfl) rfl (dq dk_Mo_holds 4 rfl) ?_
  refine ww_aload_n C 1 rfl rfl (dq dk_Mo_holds 5 rfl) ?_
  refine ww_getr C ko_Mo 32 ho_v0 (lt_ rfl) g_6_82 rfl rfl (dq dk_Mo_holds 6 rfl) ?_
  refine ww_iload_n C 0 rfl rfl (dq dk_Mo_holds 7 rfl) ?_
  refine ww_iconst C (dq dk_Mo_holds 8 rfl) ic_2 ?_
  refine ww_iadd C (dq dk_Mo_holds 9 rfl) ?_
  refine ww_iald C (kc_Mo_32 _ ho_v0).1 (kc_Mo_32 _ ho_v0).2 (dq dk_Mo_holds 10 rfl) h (fun x2 h => ?_)
  refine ww_aload_n C 1 rfl rfl (dq dk_Mo_holds 11 rfl) ?_
  refine ww_getr C ko_Mo 32 ho_v0 (lt_ rfl) g_6_82 rfl rfl (dq dk_Mo_holds 12 rfl) ?_
  refine ww_iload_n C 0 rfl rfl (dq dk_Mo_holds 13 rfl) ?_
  refine ww_iconst C (dq dk_Mo_holds 14 rfl) ic_3 ?_
  refine ww_iadd C (dq dk_Mo_holds 15 rfl) ?_
  refine ww_iald C (kc_Mo_32 _ ho_v0).1 (kc_Mo_32 _ ho_v0).2 (dq dk_Mo_holds 16 rfl) h (fun x3 h => ?_)
  refine ww_icmp_eq C 30 (dq dk_Mo_holds 17 rfl) (by decide) h (fun h => ?_) (fun h => ?_)
  · refine ww_iconst C (dq dk_Mo_holds 20 rfl) ic_0 ?_
    exact ww_lv [1, 2, 0] rfl (t_Mo_holds_B31 C hR hRm hnL v0 v1 x1 0 ho_v0 σ h)
  · refine ww_iconst C (dq dk_Mo_holds 18 rfl) ic_1 ?_
    refine ww_goto C 31 (dq dk_Mo_holds 19 rfl) (by decide) ?_
    exact ww_lv [1, 2, 0] rfl (t_Mo_holds_B31 C hR hRm hnL v0 v1 x1 1 ho_v0 σ h)
abbrev y_Mo_isOnMemory : MethodName := ⟨"BundleHouseModel", "isOnMemory", "()Z"⟩
def dl_Mo_isOnMemory : List (Nat × Instr × Nat) := [(0, .aload_n 0, 1), (1, .getfield 350, 3), (4, .iconst 3, 1), (5, .if_icmp .eq 29, 3), (8, .aload_n 0, 1), (9, .getfield 350, 3), (12, .iconst 4, 1), (13, .if_icmp .eq 21, 3), (16, .aload_n 0, 1), (17, .getfield 350, 3), (20, .bipush 6, 2), (22, .if_icmp .eq 12, 3), (25, .aload_n 0, 1), (26, .getfield 350, 3), (29, .bipush 7, 2), (31, .if_icmp .ne 7, 3), (34, .iconst 1, 1), (35, .goto 4, 3), (38, .iconst 0, 1), (39, .ireturn, 1)]
set_option maxRecDepth 100000 in
theorem dk_Mo_isOnMemory : ∀ q ∈ dl_Mo_isOnMemory, decode prog_14_method_74_code q.1 = .ok q.2 := by decide +kernel
abbrev rm_Mo_isOnMemory : Room := { frames := 0, cells := 0, slots := 0, locals := 0 }
theorem cw_Mo_isOnMemory : CWV y_Mo_isOnMemory prog_14_method_74_code 1 (some .boolean) 0 := ⟨⟨g_8_26, g_1_13, by decide, by decide, by decide +kernel⟩, g_8_25, gs_7_9⟩
set_option maxHeartbeats 4000000 in
set_option maxRecDepth 100000 in
theorem c_Mo_isOnMemory (v0 : Nat) (ho_v0 : kd v0 = 12) : MI y_Mo_isOnMemory rm_Mo_isOnMemory prog_14_method_74_code 1 .boolean (fun a => [.ref (a v0)]) (Mo_isOnMemory v0) := by
  refine mi_of (by decide) (fun _ => le_ rfl) ?_
  intro k res σ C hR hRm hnL h
  unfold Mo_isOnMemory at h
  show WW k 0 [(0, .ref (ad k v0))] [] σ
  refine ww_aload_n C 0 rfl rfl (dq dk_Mo_isOnMemory 0 rfl) ?_
  refine ww_geti C ko_Mo 57 ho_v0 (lt_ rfl) g_6_107 rfl rfl (dq dk_Mo_isOnMemory 1 rfl) ?_
  refine ww_iconst C (dq dk_Mo_isOnMemory 2 rfl) ic_3 ?_
  refine ww_icmp_eq C 34 (dq dk_Mo_isOnMemory 3 rfl) (by decide) h (fun h => ?_) (fun h => ?_)
  · refine ww_iconst C (dq dk_Mo_isOnMemory 16 rfl) ic_1 ?_
    refine ww_goto C 39 (dq dk_Mo_isOnMemory 17 rfl) (by decide) ?_
    exact ww_zretL C hR (dq dk_Mo_isOnMemory 19 rfl) (Or.inr rfl) h
  · refine ww_aload_n C 0 rfl rfl (dq dk_Mo_isOnMemory 4 rfl) ?_
    refine ww_geti C ko_Mo 57 ho_v0 (lt_ rfl) g_6_107 rfl rfl (dq dk_Mo_isOnMemory 5 rfl) ?_
    refine ww_iconst C (dq dk_Mo_isOnMemory 6 rfl) ic_4 ?_
    refine ww_icmp_eq C 34 (dq dk_Mo_isOnMemory 7 rfl) (by decide) h (fun h => ?_) (fun h => ?_)
    · refine ww_iconst C (dq dk_Mo_isOnMemory 16 rfl) ic_1 ?_
      refine ww_goto C 39 (dq dk_Mo_isOnMemory 17 rfl) (by decide) ?_
      exact ww_zretL C hR (dq dk_Mo_isOnMemory 19 rfl) (Or.inr rfl) h
    · refine ww_aload_n C 0 rfl rfl (dq dk_Mo_isOnMemory 8 rfl) ?_
      refine ww_geti C ko_Mo 57 ho_v0 (lt_ rfl) g_6_107 rfl rfl (dq dk_Mo_isOnMemory 9 rfl) ?_
      refine ww_bipush C (dq dk_Mo_isOnMemory 10 rfl) bp_6 ?_
      refine ww_icmp_eq C 34 (dq dk_Mo_isOnMemory 11 rfl) (by decide) h (fun h => ?_) (fun h => ?_)
      · refine ww_iconst C (dq dk_Mo_isOnMemory 16 rfl) ic_1 ?_
        refine ww_goto C 39 (dq dk_Mo_isOnMemory 17 rfl) (by decide) ?_
        exact ww_zretL C hR (dq dk_Mo_isOnMemory 19 rfl) (Or.inr rfl) h
      · refine ww_aload_n C 0 rfl rfl (dq dk_Mo_isOnMemory 12 rfl) ?_
        refine ww_geti C ko_Mo 57 ho_v0 (lt_ rfl) g_6_107 rfl rfl (dq dk_Mo_isOnMemory 13 rfl) ?_
        refine ww_bipush C (dq dk_Mo_isOnMemory 14 rfl) bp_7 ?_
        refine ww_icmp_ne C 38 (dq dk_Mo_isOnMemory 15 rfl) (by decide) h (fun h => ?_) (fun h => ?_)
        · refine ww_iconst C (dq dk_Mo_isOnMemory 18 rfl) ic_0 ?_
          exact ww_zretL C hR (dq dk_Mo_isOnMemory 19 rfl) (Or.inl rfl) h
        · refine ww_iconst C (dq dk_Mo_isOnMemory 16 rfl) ic_1 ?_
          refine ww_goto C 39 (dq dk_Mo_isOnMemory 17 rfl) (by decide) ?_
          exact ww_zretL C hR (dq dk_Mo_isOnMemory 19 rfl) (Or.inr rfl) h
abbrev y_Mo_wants : MethodName := ⟨"BundleHouseModel", "wants", "()Z"⟩
def dl_Mo_wants : List (Nat × Instr × Nat) := [(0, .aload_n 0, 1), (1, .getfield 353, 3), (4, .bipush 19, 2), (6, .if_icmp .eq 21, 3), (9, .aload_n 0, 1), (10, .getfield 353, 3), (13, .bipush 26, 2), (15, .if_icmp .eq 12, 3), (18, .aload_n 0, 1), (19, .getfield 353, 3), (22, .bipush 28, 2), (24, .if_icmp .ne 22, 3), (27, .aload_n 0, 1), (28, .iconst 4, 1), (29, .invokevirtual 319, 3), (32, .iconst 4, 1), (33, .isub, 1), (34, .invokestatic 356, 3), (37, .ifCond .ne 7, 3), (40, .iconst 1, 1), (41, .goto 4, 3), (44, .iconst 0, 1), (45, .ireturn, 1), (46, .aload_n 0, 1), (47, .getfield 353, 3), (50, .bipush 20, 2), (52, .if_icmp .eq 12, 3), (55, .aload_n 0, 1), (56, .getfield 353, 3), (59, .bipush 23, 2), (61, .if_icmp .ne 20, 3), (64, .aload_n 0, 1), (65, .iconst 4, 1), (66, .invokevirtual 319, 3), (69, .invokestatic 356, 3), (72, .ifCond .ne 7, 3), (75, .iconst 1, 1), (76, .goto 4, 3), (79, .iconst 0, 1), (80, .ireturn, 1), (81, .aload_n 0, 1), (82, .invokevirtual 359, 3), (85, .ifCond .eq 34, 3), (88, .aload_n 0, 1), (89, .getfield 353, 3), (92, .bipush 10, 2), (94, .if_icmp .eq 25, 3), (97, .aload_n 0, 1), (98, .aload_n 0, 1), (99, .getfield 362, 3), (102, .aload_n 0, 1), (103, .getfield 365, 3), (106, .invokevirtual 368, 3), (109, .invokestatic 356, 3), (112, .ifCond .ne 7, 3), (115, .iconst 1, 1), (116, .goto 4, 3), (119, .iconst 0, 1), (120, .ireturn, 1)]
set_option maxRecDepth 100000 in
theorem dk_Mo_wants : ∀ q ∈ dl_Mo_wants, decode prog_14_method_75_code q.1 = .ok q.2 := by decide +kernel
abbrev rm_Mo_wants : Room := { frames := 2, cells := 0, slots := 0, locals := 45 }
theorem cw_Mo_wants : CWV y_Mo_wants prog_14_method_75_code 1 (some .boolean) 0 := ⟨⟨g_8_22, g_1_13, by decide, by decide, by decide +kernel⟩, g_8_21, gs_7_8⟩
set_option maxHeartbeats 4000000 in
set_option maxRecDepth 100000 in
theorem t_Mo_wants_B27 {k : Cfg} {res : Int32 × St} (C : Cx k prog_14_method_75_code "BundleHouseModel") (hR : RI k .boolean res) (hRm : k.2.2.2.1 = rm_Mo_wants) (hnL : k.2.2.2.2.2.2.2.2.2.2.2.1 = 1) (v0 : Nat) (ho_v0 : kd v0 = 12) (σ : St) (h : Mo_wants_B27 v0 σ = some res) : WW k 27 [(0, .ref (ad k v0))] [] σ := by
  unfold Mo_wants_B27 at h
  refine ww_aload_n C 0 rfl rfl (dq dk_Mo_wants 12 rfl) ?_
  refine ww_iconst C (dq dk_Mo_wants 13 rfl) ic_4 ?_
  refine ww_cVi (st := []) C (c_Mo_reg v0 ho_v0 4) cw_Mo_reg ho_v0 (lt_ rfl) rfl g_7_232 hRm ⟨⟨rfl, rfl⟩, le_ rfl, le_ rfl⟩ rfl rfl rfl (le_ rfl) (dq dk_Mo_wants 14 rfl) h (fun x2 σ1 h => ?_)
  refine ww_iconst C (dq dk_Mo_wants 15 rfl) ic_4 ?_
  refine ww_isub C (dq dk_Mo_wants 16 rfl) ?_
  refine ww_cSi (st := []) C (c_Mo_isThere (x2 - 4)) cw_Mo_isThere g_7_236 hRm ⟨⟨rfl, rfl⟩, le_ rfl, le_ rfl⟩ rfl rfl rfl (le_ rfl) (dq dk_Mo_wants 17 rfl) h (fun x4 σ3 h => ?_)
  refine ww_if_ne C 44 (dq dk_Mo_wants 18 rfl) (by decide) h (fun h => ?_) (fun h => ?_)
  · refine ww_iconst C (dq dk_Mo_wants 21 rfl) ic_0 ?_
    exact ww_zretL C hR (dq dk_Mo_wants 22 rfl) (Or.inl rfl) h
  · refine ww_iconst C (dq dk_Mo_wants 19 rfl) ic_1 ?_
    refine ww_goto C 45 (dq dk_Mo_wants 20 rfl) (by decide) ?_
    exact ww_zretL C hR (dq dk_Mo_wants 22 rfl) (Or.inr rfl) h
set_option maxHeartbeats 4000000 in
set_option maxRecDepth 100000 in
theorem t_Mo_wants_B64 {k : Cfg} {res : Int32 × St} (C : Cx k prog_14_method_75_code "BundleHouseModel") (hR : RI k .boolean res) (hRm : k.2.2.2.1 = rm_Mo_wants) (hnL : k.2.2.2.2.2.2.2.2.2.2.2.1 = 1) (v0 : Nat) (ho_v0 : kd v0 = 12) (σ : St) (h : Mo_wants_B64 v0 σ = some res) : WW k 64 [(0, .ref (ad k v0))] [] σ := by
  unfold Mo_wants_B64 at h
  refine ww_aload_n C 0 rfl rfl (dq dk_Mo_wants 31 rfl) ?_
  refine ww_iconst C (dq dk_Mo_wants 32 rfl) ic_4 ?_
  refine ww_cVi (st := []) C (c_Mo_reg v0 ho_v0 4) cw_Mo_reg ho_v0 (lt_ rfl) rfl g_7_232 hRm ⟨⟨rfl, rfl⟩, le_ rfl, le_ rfl⟩ rfl rfl rfl (le_ rfl) (dq dk_Mo_wants 33 rfl) h (fun x2 σ1 h => ?_)
  refine ww_cSi (st := []) C (c_Mo_isThere x2) cw_Mo_isThere g_7_236 hRm ⟨⟨rfl, rfl⟩, le_ rfl, le_ rfl⟩ rfl rfl rfl (le_ rfl) (dq dk_Mo_wants 34 rfl) h (fun x4 σ3 h => ?_)
  refine ww_if_ne C 79 (dq dk_Mo_wants 35 rfl) (by decide) h (fun h => ?_) (fun h => ?_)
  · refine ww_iconst C (dq dk_Mo_wants 38 rfl) ic_0 ?_
    exact ww_zretL C hR (dq dk_Mo_wants 39 rfl) (Or.inl rfl) h
  · refine ww_iconst C (dq dk_Mo_wants 36 rfl) ic_1 ?_
    refine ww_goto C 80 (dq dk_Mo_wants 37 rfl) (by decide) ?_
    exact ww_zretL C hR (dq dk_Mo_wants 39 rfl) (Or.inr rfl) h
set_option maxHeartbeats 4000000 in
set_option maxRecDepth 100000 in
theorem c_Mo_wants (v0 : Nat) (ho_v0 : kd v0 = 12) : MI y_Mo_wants rm_Mo_wants prog_14_method_75_code 1 .boolean (fun a => [.ref (a v0)]) (Mo_wants v0) := by
  refine mi_of (by decide) (fun _ => le_ rfl) ?_
  intro k res σ C hR hRm hnL h
  unfold Mo_wants at h
  show WW k 0 [(0, .ref (ad k v0))] [] σ
  refine ww_aload_n C 0 rfl rfl (dq dk_Mo_wants 0 rfl) ?_
  refine ww_geti C ko_Mo 56 ho_v0 (lt_ rfl) g_6_106 rfl rfl (dq dk_Mo_wants 1 rfl) ?_
  refine ww_bipush C (dq dk_Mo_wants 2 rfl) bp_19 ?_
  refine ww_icmp_eq C 27 (dq dk_Mo_wants 3 rfl) (by decide) h (fun h => ?_) (fun h => ?_)
  · exact ww_lv [0] rfl (t_Mo_wants_B27 C hR hRm hnL v0 ho_v0 σ h)
  · refine ww_aload_n C 0 rfl rfl (dq dk_Mo_wants 4 rfl) ?_
    refine ww_geti C ko_Mo 56 ho_v0 (lt_ rfl) g_6_106 rfl rfl (dq dk_Mo_wants 5 rfl) ?_
    refine ww_bipush C (dq dk_Mo_wants 6 rfl) bp_26 ?_
    refine ww_icmp_eq C 27 (dq dk_Mo_wants 7 rfl) (by decide) h (fun h => ?_) (fun h => ?_)
    · exact ww_lv [0] rfl (t_Mo_wants_B27 C hR hRm hnL v0 ho_v0 σ h)
    · refine ww_aload_n C 0 rfl rfl (dq dk_Mo_wants 8 rfl) ?_
      refine ww_geti C ko_Mo 56 ho_v0 (lt_ rfl) g_6_106 rfl rfl (dq dk_Mo_wants 9 rfl) ?_
      refine ww_bipush C (dq dk_Mo_wants 10 rfl) bp_28 ?_
      refine ww_icmp_ne C 46 (dq dk_Mo_wants 11 rfl) (by decide) h (fun h => ?_) (fun h => ?_)
      · refine ww_aload_n C 0 rfl rfl (dq dk_Mo_wants 23 rfl) ?_
        refine ww_geti C ko_Mo 56 ho_v0 (lt_ rfl) g_6_106 rfl rfl (dq dk_Mo_wants 24 rfl) ?_
        refine ww_bipush C (dq dk_Mo_wants 25 rfl) bp_20 ?_
        refine ww_icmp_eq C 64 (dq dk_Mo_wants 26 rfl) (by decide) h (fun h => ?_) (fun h => ?_)
        · exact ww_lv [0] rfl (t_Mo_wants_B64 C hR hRm hnL v0 ho_v0 σ h)
        · refine ww_aload_n C 0 rfl rfl (dq dk_Mo_wants 27 rfl) ?_
          refine ww_geti C ko_Mo 56 ho_v0 (lt_ rfl) g_6_106 rfl rfl (dq dk_Mo_wants 28 rfl) ?_
          refine ww_bipush C (dq dk_Mo_wants 29 rfl) bp_23 ?_
          refine ww_icmp_ne C 81 (dq dk_Mo_wants 30 rfl) (by decide) h (fun h => ?_) (fun h => ?_)
          · refine ww_aload_n C 0 rfl rfl (dq dk_Mo_wants 40 rfl) ?_
            refine ww_cVi (st := []) C (c_Mo_isOnMemory v0 ho_v0) cw_Mo_isOnMemory ho_v0 (lt_ rfl) rfl g_8_23 hRm ⟨⟨rfl, rfl⟩, le_ rfl, le_ rfl⟩ rfl rfl rfl (le_ rfl) (dq dk_Mo_wants 41 rfl) h (fun x2 σ1 h => ?_)
            refine ww_if_eq C 119 (dq dk_Mo_wants 42 rfl) (by decide) h (fun h => ?_) (fun h => ?_)
            · refine ww_iconst C (dq dk_Mo_wants 57 rfl) ic_0 ?_
              exact ww_zretL C hR (dq dk_Mo_wants 58 rfl) (Or.inl rfl) h
            · refine ww_aload_n C 0 rfl rfl (dq dk_Mo_wants 43 rfl) ?_
              refine ww_geti C ko_Mo 56 ho_v0 (lt_ rfl) g_6_106 rfl rfl (dq dk_Mo_wants 44 rfl) ?_
              refine ww_bipush C (dq dk_Mo_wants 45 rfl) bp_10 ?_
              refine ww_icmp_eq C 119 (dq dk_Mo_wants 46 rfl) (by decide) h (fun h => ?_) (fun h => ?_)
              · refine ww_iconst C (dq dk_Mo_wants 57 rfl) ic_0 ?_
                exact ww_zretL C hR (dq dk_Mo_wants 58 rfl) (Or.inl rfl) h
              · refine ww_aload_n C 0 rfl rfl (dq dk_Mo_wants 47 rfl) ?_
                refine ww_aload_n C 0 rfl rfl (dq dk_Mo_wants 48 rfl) ?_
                refine ww_geti C ko_Mo 59 ho_v0 (lt_ rfl) g_6_109 rfl rfl (dq dk_Mo_wants 49 rfl) ?_
                refine ww_aload_n C 0 rfl rfl (dq dk_Mo_wants 50 rfl) ?_
                refine ww_geti C ko_Mo 60 ho_v0 (lt_ rfl) g_6_110 rfl rfl (dq dk_Mo_wants 51 rfl) ?_
                refine ww_cVi (st := []) C (c_Mo_place1 v0 ho_v0 (σ1 v0 59) (σ1 v0 60)) cw_Mo_place1 ho_v0 (lt_ rfl) rfl g_8_27 hRm ⟨⟨rfl, rfl⟩, le_ rfl, le_ rfl⟩ rfl rfl rfl (le_ rfl) (dq dk_Mo_wants 52 rfl) h (fun x4 σ3 h => ?_)
                refine ww_cSi (st := []) C (c_Mo_isThere x4) cw_Mo_isThere g_7_236 hRm ⟨⟨rfl, rfl⟩, le_ rfl, le_ rfl⟩ rfl rfl rfl (le_ rfl) (dq dk_Mo_wants 53 rfl) h (fun x6 σ5 h => ?_)
                refine ww_if_ne C 119 (dq dk_Mo_wants 54 rfl) (by decide) h (fun h => ?_) (fun h => ?_)
                · refine ww_iconst C (dq dk_Mo_wants 57 rfl) ic_0 ?_
                  exact ww_zretL C hR (dq dk_Mo_wants 58 rfl) (Or.inl rfl) h
                · refine ww_iconst C (dq dk_Mo_wants 55 rfl) ic_1 ?_
                  refine ww_goto C 120 (dq dk_Mo_wants 56 rfl) (by decide) ?_
                  exact ww_zretL C hR (dq dk_Mo_wants 58 rfl) (Or.inr rfl) h
          · exact ww_lv [0] rfl (t_Mo_wants_B64 C hR hRm hnL v0 ho_v0 σ h)
      · exact ww_lv [0] rfl (t_Mo_wants_B27 C hR hRm hnL v0 ho_v0 σ h)
abbrev y_Mo_push : MethodName := ⟨"BundleHouseModel", "push", "(I)V"⟩
def dl_Mo_push : List (Nat × Instr × Nat) := [(0, .aload_n 0, 1), (1, .iconst 4, 1), (2, .invokevirtual 319, 3), (5, .iconst 4, 1), (6, .isub, 1), (7, .istore_n 2, 1), (8, .aload_n 0, 1), (9, .iload_n 2, 1), (10, .iload_n 1, 1), (11, .invokevirtual 372, 3), (14, .aload_n 0, 1), (15, .iconst 4, 1), (16, .iload_n 2, 1), (17, .invokevirtual 375, 3), (20, .return_, 1)]
set_option maxRecDepth 100000 in
theorem dk_Mo_push : ∀ q ∈ dl_Mo_push, decode prog_14_method_76_code q.1 = .ok q.2 := by decide +kernel
abbrev rm_Mo_push : Room := { frames := 1, cells := 0, slots := 0, locals := 23 }
theorem cw_Mo_push : CWV y_Mo_push prog_14_method_76_code 3 none 1 := ⟨⟨g_8_38, g_1_13, by decide, by decide, by decide +kernel⟩, g_8_37, gs_7_12⟩
set_option maxHeartbeats 4000000 in
set_option maxRecDepth 100000 in
theorem c_Mo_push (v0 : Nat) (ho_v0 : kd v0 = 12) (v1 : Int32) : MV y_Mo_push rm_Mo_push prog_14_method_76_code 3 (fun a => [.ref (a v0), .int v1]) (Mo_push v0 v1) := by
  refine mv_of (by decide) (fun _ => le_ rfl) ?_
  intro k res σ C hR hRm hnL h
  unfold Mo_push at h
  show WW k 0 [(0, .ref (ad k v0)), (1, .int v1)] [] σ
  refine ww_aload_n C 0 rfl rfl (dq dk_Mo_push 0 rfl) ?_
  refine ww_iconst C (dq dk_Mo_push 1 rfl) ic_4 ?_
  refine ww_cVi (st := []) C (c_Mo_reg v0 ho_v0 4) cw_Mo_reg ho_v0 (lt_ rfl) rfl g_7_232 hRm ⟨⟨rfl, rfl⟩, le_ rfl, le_ rfl⟩ rfl rfl rfl (le_ rfl) (dq dk_Mo_push 2 rfl) h (fun x2 σ1 h => ?_)
  refine ww_iconst C (dq dk_Mo_push 3 rfl) ic_4 ?_
  refine ww_isub C (dq dk_Mo_push 4 rfl) ?_
  refine ww_nmi h (fun x3 h => ?_)
  refine ww_istore_n C [(2, .int x3), (0, .ref (ad k v0)), (1, .int v1)] rfl hnL (lt_ rfl) rfl (dq dk_Mo_push 5 rfl) ?_
  refine ww_aload_n C 1 rfl rfl (dq dk_Mo_push 6 rfl) ?_
  refine ww_iload_n C 0 rfl rfl (dq dk_Mo_push 7 rfl) ?_
  refine ww_iload_n C 2 rfl rfl (dq dk_Mo_push 8 rfl) ?_
  refine ww_cVv (st := []) C (c_Mo_store v0 ho_v0 x3 v1) cw_Mo_store ho_v0 (lt_ rfl) rfl g_8_39 hRm ⟨⟨rfl, rfl⟩, le_ rfl, le_ rfl⟩ rfl rfl rfl (le_ rfl) (dq dk_Mo_push 9 rfl) h (fun σ4 h => ?_)
  refine ww_aload_n C 1 rfl rfl (dq dk_Mo_push 10 rfl) ?_
  refine ww_iconst C (dq dk_Mo_push 11 rfl) ic_4 ?_
  refine ww_iload_n C 0 rfl rfl (dq dk_Mo_push 12 rfl) ?_
  refine ww_cVv (st := []) C (c_Mo_setReg v0 ho_v0 4 x3) cw_Mo_setReg ho_v0 (lt_ rfl) rfl g_8_3 hRm ⟨⟨rfl, rfl⟩, le_ rfl, le_ rfl⟩ rfl rfl rfl (le_ rfl) (dq dk_Mo_push 13 rfl) h (fun σ5 h => ?_)
  exact ww_vret C hR (dq dk_Mo_push 14 rfl) h
abbrev y_Mo_pop : MethodName := ⟨"BundleHouseModel", "pop", "()I"⟩
def dl_Mo_pop : List (Nat × Instr × Nat) := [(0, .aload_n 0, 1), (1, .aload_n 0, 1), (2, .iconst 4, 1), (3, .invokevirtual 319, 3), (6, .invokevirtual 378, 3), (9, .istore_n 1, 1), (10, .aload_n 0, 1), (11, .iconst 4, 1), (12, .aload_n 0, 1), (13, .iconst 4, 1), (14, .invokevirtual 319, 3), (17, .iconst 4, 1), (18, .iadd, 1), (19, .invokevirtual 375, 3), (22, .iload_n 1, 1), (23, .ireturn, 1)]
set_option maxRecDepth 100000 in
theorem dk_Mo_pop : ∀ q ∈ dl_Mo_pop, decode prog_14_method_77_code q.1 = .ok q.2 := by decide +kernel
abbrev rm_Mo_pop : Room := { frames := 1, cells := 0, slots := 0, locals := 23 }
theorem cw_Mo_pop : CWV y_Mo_pop prog_14_method_77_code 2 (some .int) 0 := ⟨⟨g_8_10, g_1_13, by decide, by decide, by decide +kernel⟩, g_8_9, gs_7_5⟩
set_option maxHeartbeats 4000000 in
set_option maxRecDepth 100000 in
theorem c_Mo_pop (v0 : Nat) (ho_v0 : kd v0 = 12) : MI y_Mo_pop rm_Mo_pop prog_14_method_77_code 2 .int (fun a => [.ref (a v0)]) (Mo_pop v0) := by
  refine mi_of (by decide) (fun _ => le_ rfl) ?_
  intro k res σ C hR hRm hnL h
  unfold Mo_pop at h
  show WW k 0 [(0, .ref (ad k v0))] [] σ
  refine ww_aload_n C 0 rfl rfl (dq dk_Mo_pop 0 rfl) ?_
  refine ww_aload_n C 0 rfl rfl (dq dk_Mo_pop 1 rfl) ?_
  refine ww_iconst C (dq dk_Mo_pop 2 rfl) ic_4 ?_
  refine ww_cVi (st := [.ref (ad k v0)]) C (c_Mo_reg v0 ho_v0 4) cw_Mo_reg ho_v0 (lt_ rfl) rfl g_7_232 hRm ⟨⟨rfl, rfl⟩, le_ rfl, le_ rfl⟩ rfl rfl rfl (le_ rfl) (dq dk_Mo_pop 3 rfl) h (fun x2 σ1 h => ?_)
  refine ww_cVi (st := []) C (c_Mo_load v0 ho_v0 x2) cw_Mo_load ho_v0 (lt_ rfl) rfl g_8_11 hRm ⟨⟨rfl, rfl⟩, le_ rfl, le_ rfl⟩ rfl rfl rfl (le_ rfl) (dq dk_Mo_pop 4 rfl) h (fun x4 σ3 h => ?_)
  refine ww_istore_n C [(1, .int x4), (0, .ref (ad k v0))] rfl hnL (lt_ rfl) rfl (dq dk_Mo_pop 5 rfl) ?_
  refine ww_aload_n C 1 rfl rfl (dq dk_Mo_pop 6 rfl) ?_
  refine ww_iconst C (dq dk_Mo_pop 7 rfl) ic_4 ?_
  refine ww_aload_n C 1 rfl rfl (dq dk_Mo_pop 8 rfl) ?_
  refine ww_iconst C (dq dk_Mo_pop 9 rfl) ic_4 ?_
  refine ww_cVi (st := [.int 4, .ref (ad k v0)]) C (c_Mo_reg v0 ho_v0 4) cw_Mo_reg ho_v0 (lt_ rfl) rfl g_7_232 hRm ⟨⟨rfl, rfl⟩, le_ rfl, le_ rfl⟩ rfl rfl rfl (le_ rfl) (dq dk_Mo_pop 10 rfl) h (fun x6 σ5 h => ?_)
  refine ww_iconst C (dq dk_Mo_pop 11 rfl) ic_4 ?_
  refine ww_iadd C (dq dk_Mo_pop 12 rfl) ?_
  refine ww_cVv (st := []) C (c_Mo_setReg v0 ho_v0 4 (x6 + 4)) cw_Mo_setReg ho_v0 (lt_ rfl) rfl g_8_3 hRm ⟨⟨rfl, rfl⟩, le_ rfl, le_ rfl⟩ rfl rfl rfl (le_ rfl) (dq dk_Mo_pop 13 rfl) h (fun σ7 h => ?_)
  refine ww_iload_n C 0 rfl rfl (dq dk_Mo_pop 14 rfl) ?_
  exact ww_iret C hR (dq dk_Mo_pop 15 rfl) h
abbrev y_Mo_does : MethodName := ⟨"BundleHouseModel", "does", "()V"⟩
def dl_Mo_does : List (Nat × Instr × Nat) := [(0, .aload_n 0, 1), (1, .getfield 353, 3), (4, .bipush 19, 2), (6, .if_icmp .ne 32, 3), (9, .aload_n 0, 1), (10, .aload_n 0, 1), (11, .getfield 350, 3), (14, .bipush 8, 2), (16, .if_icmp .ne 10, 3), (19, .aload_n 0, 1), (20, .getfield 381, 3), (23, .goto 11, 3), (26, .aload_n 0, 1), (27, .aload_n 0, 1), (28, .getfield 384, 3), (31, .invokevirtual 319, 3), (34, .invokevirtual 387, 3), (37, .return_, 1), (38, .aload_n 0, 1), (39, .getfield 353, 3), (42, .bipush 20, 2), (44, .if_icmp .ne 18, 3), (47, .aload_n 0, 1), (48, .invokevirtual 390, 3), (51, .istore_n 1, 1), (52, .aload_n 0, 1), (53, .aload_n 0, 1), (54, .getfield 384, 3), (57, .iload_n 1, 1), (58, .invokevirtual 375, 3), (61, .return_, 1), (62, .aload_n 0, 1), (63, .getfield 353, 3), (66, .bipush 20, 2), (68, .if_icmp .le 4, 3), (71, .return_, 1), (72, .aload_n 0, 1), (73, .getfield 353, 3), (76, .bipush 10, 2), (78, .if_icmp .ne 24, 3), (81, .aload_n 0, 1), (82, .aload_n 0, 1), (83, .getfield 384, 3), (86, .aload_n 0, 1), (87, .aload_n 0, 1), (88, .getfield 362, 3), (91, .aload_n 0, 1), (92, .getfield 365, 3), (95, .invokevirtual 368, 3), (98, .invokevirtual 375, 3), (101, .return_, 1), (102, .aload_n 0, 1), (103, .getfield 350, 3), (106, .iconst 4, 1), (107, .if_icmp .eq 21, 3), (110, .aload_n 0, 1), (111, .getfield 350, 3), (114, .bipush 6, 2), (116, .if_icmp .eq 12, 3), (119, .aload_n 0, 1), (120, .getfield 350, 3), (123, .bipush 7, 2), (125, .if_icmp .ne 7, 3), (128, .iconst 1, 1), (129, .goto 4, 3), (132, .iconst 0, 1), (133, .istore_n 1, 1), (134, .aload_n 0, 1), (135, .invokevirtual 359, 3), (138, .ifCond .eq 18, 3), (141, .aload_n 0, 1), (142, .aload_n 0, 1), (143, .getfield 362, 3), (146, .aload_n 0, 1), (147, .getfield 365, 3), (150, .invokevirtual 368, 3), (153, .goto 4, 3), (156, .iconst 0, 1), (157, .istore_n 2, 1), (158, .iload_n 1, 1), (159, .ifCond .eq 11, 3), (162, .aload_n 0, 1), (163, .iload_n 2, 1), (164, .invokevirtual 378, 3), (167, .goto 11, 3), (170, .aload_n 0, 1), (171, .aload_n 0, 1), (172, .getfield 384, 3), (175, .invokevirtual 319, 3), (178, .istore_n 3, 1), (179, .aload_n 0, 1), (180, .getfield 350, 3), (183, .iconst 2, 1), (184, .if_icmp .ne 14, 3), (187, .aload_n 0, 1), (188, .aload_n 0, 1), (189, .getfield 362, 3), (192, .invokevirtual 319, 3), (195, .goto 42, 3), (198, .aload_n 0, 1), (199, .getfield 350, 3), (202, .iconst 3, 1), (203, .if_icmp .ne 11, 3), (206, .aload_n 0, 1), (207, .iload_n 2, 1), (208, .invokevirtual 378, 3), (211, .goto 26, 3), (214, .aload_n 0, 1), (215, .getfield 350, 3), (218, .iconst 4, 1), (219, .if_icmp .ne 14, 3), (222, .aload_n 0, 1), (223, .aload_n 0, 1), (224, .getfield 384, 3), (227, .invokevirtual 319, 3), (230, .goto 7, 3), (233, .aload_n 0, 1), (234, .getfield 381, 3), (237, .istore 4, 2), (239, .aload_n 0, 1), (240, .aload_n 0, 1), (241, .getfield 353, 3), (244, .iload_n 3, 1), (245, .iload 4, 2), (247, .invokevirtual 393, 3), (250, .istore 5, 2), (252, .aload_n 0, 1), (253, .getfield 353, 3), (256, .bipush 7, 2), (258, .if_icmp .eq 12, 3), (261, .aload_n 0, 1), (262, .getfield 353, 3), (265, .bipush 9, 2), (267, .if_icmp .ne 4, 3), (270, .return_, 1), (271, .iload_n 1, 1), (272, .ifCond .eq 13, 3), (275, .aload_n 0, 1), (276, .iload_n 2, 1), (277, .iload 5, 2), (279, .invokevirtual 372, 3), (282, .goto 13, 3), (285, .aload_n 0, 1), (286, .aload_n 0, 1), (287, .getfield 384, 3), (290, .iload 5, 2), (292, .invokevirtual 375, 3), (295, .return_, 1)]
set_option maxRecDepth 100000 in
theorem dk_Mo_does : ∀ q ∈ dl_Mo_does, decode prog_14_method_78_code q.1 = .ok q.2 := by decide +kernel
abbrev rm_Mo_does : Room := { frames := 3, cells := 0, slots := 0, locals := 77 }
theorem cw_Mo_does : CWV y_Mo_does prog_14_method_78_code 6 none 0 := ⟨⟨g_8_46, g_1_13, by decide, by decide, by decide +kernel⟩, g_8_45, gs_7_14⟩
set_option maxHeartbeats 4000000 in
set_option maxRecDepth 100000 in
theorem t_Mo_does_B237 {k : Cfg} {res : St} (C : Cx k prog_14_method_78_code "BundleHouseModel") (hR : RV k res) (hRm : k.2.2.2.1 = rm_Mo_does) (hnL : k.2.2.2.2.2.2.2.2.2.2.2.1 = 6) (v0 : Nat) (v1 : Int32) (v2 : Int32) (v3 : Int32) (t0 : Int32) (ho_v0 : kd v0 = 12) (σ : St) (h : Mo_does_B237 v0 v1 v2 v3 t0 σ = some res) : WW k 237 [(0, .ref (ad k v0)), (1, .int v1), (2, .int v2), (3, .int v3)] [.int t0] σ := by
  unfold Mo_does_B237 at h
  refine ww_istore C [(4, .int t0), (0, .ref (ad k v0)), (1, .int v1), (2, .int v2), (3, .int v3)] hnL (lt_ rfl) rfl (dq dk_Mo_does 118 rfl) ?_
  refine ww_aload_n C 1 rfl rfl (dq dk_Mo_does 119 rfl) ?_
  refine ww_aload_n C 1 rfl rfl (dq dk_Mo_does 120 rfl) ?_
  refine ww_geti C ko_Mo 56 ho_v0 (lt_ rfl) g_6_106 rfl rfl (dq dk_Mo_does 121 rfl) ?_
  refine ww_iload_n C 4 rfl rfl (dq dk_Mo_does 122 rfl) ?_
  refine ww_iload C 0 rfl (dq dk_Mo_does 123 rfl) ?_
  refine ww_cVi (st := []) C (c_Mo_worked v0 ho_v0 (σ v0 56) v3 t0) cw_Mo_worked ho_v0 (lt_ rfl) rfl g_8_47 hRm ⟨⟨rfl, rfl⟩, le_ rfl, le_ rfl⟩ rfl rfl rfl (le_ rfl) (dq dk_Mo_does 124 rfl) h (fun x2 σ1 h => ?_)
  refine ww_istore C [(5, .int x2), (4, .int t0), (0, .ref (ad k v0)), (1, .int v1), (2, .int v2), (3, .int v3)] hnL (lt_ rfl) rfl (dq dk_Mo_does 125 rfl) ?_
  refine ww_aload_n C 2 rfl rfl (dq dk_Mo_does 126 rfl) ?_
  refine ww_geti C ko_Mo 56 ho_v0 (lt_ rfl) g_6_106 rfl rfl (dq dk_Mo_does 127 rfl) ?_
  refine ww_bipush C (dq dk_Mo_does 128 rfl) bp_7 ?_
  refine ww_icmp_eq C 270 (dq dk_Mo_does 129 rfl) (by decide) h (fun h => ?_) (fun h => ?_)
  · exact ww_vret C hR (dq dk_Mo_does 134 rfl) h
  · refine ww_aload_n C 2 rfl rfl (dq dk_Mo_does 130 rfl) ?_
    refine ww_geti C ko_Mo 56 ho_v0 (lt_ rfl) g_6_106 rfl rfl (dq dk_Mo_does 131 rfl) ?_
    refine ww_bipush C (dq dk_Mo_does 132 rfl) bp_9 ?_
    refine ww_icmp_ne C 271 (dq dk_Mo_does 133 rfl) (by decide) h (fun h => ?_) (fun h => ?_)
    · refine ww_iload_n C 3 rfl rfl (dq dk_Mo_does 135 rfl) ?_
      refine ww_if_eq C 285 (dq dk_Mo_does 136 rfl) (by decide) h (fun h => ?_) (fun h => ?_)
      · refine ww_aload_n C 2 rfl rfl (dq dk_Mo_does 142 rfl) ?_
        refine ww_aload_n C 2 rfl rfl (dq dk_Mo_does 143 rfl) ?_
        refine ww_geti C ko_Mo 58 ho_v0 (lt_ rfl) g_6_108 rfl rfl (dq dk_Mo_does 144 rfl) ?_
        refine ww_iload C 0 rfl (dq dk_Mo_does 145 rfl) ?_
        refine ww_cVv (st := []) C (c_Mo_setReg v0 ho_v0 (σ1 v0 58) x2) cw_Mo_setReg ho_v0 (lt_ rfl) rfl g_8_3 hRm ⟨⟨rfl, rfl⟩, le_ rfl, le_ rfl⟩ rfl rfl rfl (le_ rfl) (dq dk_Mo_does 146 rfl) h (fun σ3 h => ?_)
        exact ww_vret C hR (dq dk_Mo_does 147 rfl) h
      · refine ww_aload_n C 2 rfl rfl (dq dk_Mo_does 137 rfl) ?_
        refine ww_iload_n C 4 rfl rfl (dq dk_Mo_does 138 rfl) ?_
        refine ww_iload C 0 rfl (dq dk_Mo_does 139 rfl) ?_
        refine ww_cVv (st := []) C (c_Mo_store v0 ho_v0 v2 x2) cw_Mo_store ho_v0 (lt_ rfl) rfl g_8_39 hRm ⟨⟨rfl, rfl⟩, le_ rfl, le_ rfl⟩ rfl rfl rfl (le_ rfl) (dq dk_Mo_does 140 rfl) h (fun σ4 h => ?_)
        refine ww_goto C 295 (dq dk_Mo_does 141 rfl) (by decide) ?_
        exact ww_vret C hR (dq dk_Mo_does 147 rfl) h
    · exact ww_vret C hR (dq dk_Mo_does 134 rfl) h
set_option maxHeartbeats 4000000 in
set_option maxRecDepth 100000 in
theorem t_Mo_does_B178 {k : Cfg} {res : St} (C : Cx k prog_14_method_78_code "BundleHouseModel") (hR : RV k res) (hRm : k.2.2.2.1 = rm_Mo_does) (hnL : k.2.2.2.2.2.2.2.2.2.2.2.1 = 6) (v0 : Nat) (v1 : Int32) (v2 : Int32) (t0 : Int32) (ho_v0 : kd v0 = 12) (σ : St) (h : Mo_does_B178 v0 v1 v2 t0 σ = some res) : WW k 178 [(0, .ref (ad k v0)), (1, .int v1), (2, .int v2)] [.int t0] σ := by
  unfold Mo_does_B178 at h
  refine ww_istore_n C [(3, .int t0), (0, .ref (ad k v0)), (1, .int v1), (2, .int v2)] rfl hnL (lt_ rfl) rfl (dq dk_Mo_does 89 rfl) ?_
  refine ww_aload_n C 1 rfl rfl (dq dk_Mo_does 90 rfl) ?_
  refine ww_geti C ko_Mo 57 ho_v0 (lt_ rfl) g_6_107 rfl rfl (dq dk_Mo_does 91 rfl) ?_
  refine ww_iconst C (dq dk_Mo_does 92 rfl) ic_2 ?_
  refine ww_icmp_ne C 198 (dq dk_Mo_does 93 rfl) (by decide) h (fun h => ?_) (fun h => ?_)
  · refine ww_aload_n C 1 rfl rfl (dq dk_Mo_does 99 rfl) ?_
    refine ww_geti C ko_Mo 57 ho_v0 (lt_ rfl) g_6_107 rfl rfl (dq dk_Mo_does 100 rfl) ?_
    refine ww_iconst C (dq dk_Mo_does 101 rfl) ic_3 ?_
    refine ww_icmp_ne C 214 (dq dk_Mo_does 102 rfl) (by decide) h (fun h => ?_) (fun h => ?_)
    · refine ww_aload_n C 1 rfl rfl (dq dk_Mo_does 107 rfl) ?_
      refine ww_geti C ko_Mo 57 ho_v0 (lt_ rfl) g_6_107 rfl rfl (dq dk_Mo_does 108 rfl) ?_
      refine ww_iconst C (dq dk_Mo_does 109 rfl) ic_4 ?_
      refine ww_icmp_ne C 233 (dq dk_Mo_does 110 rfl) (by decide) h (fun h => ?_) (fun h => ?_)
      · refine ww_aload_n C 1 rfl rfl (dq dk_Mo_does 116 rfl) ?_
        refine ww_geti C ko_Mo 61 ho_v0 (lt_ rfl) g_6_111 rfl rfl (dq dk_Mo_does 117 rfl) ?_
        exact ww_lv [1, 2, 3, 0] rfl (t_Mo_does_B237 C hR hRm hnL v0 v1 v2 t0 (σ v0 61) ho_v0 σ h)
      · refine ww_aload_n C 1 rfl rfl (dq dk_Mo_does 111 rfl) ?_
        refine ww_aload_n C 1 rfl rfl (dq dk_Mo_does 112 rfl) ?_
        refine ww_geti C ko_Mo 58 ho_v0 (lt_ rfl) g_6_108 rfl rfl (dq dk_Mo_does 113 rfl) ?_
        refine ww_cVi (st := []) C (c_Mo_reg v0 ho_v0 (σ v0 58)) cw_Mo_reg ho_v0 (lt_ rfl) rfl g_7_232 hRm ⟨⟨rfl, rfl⟩, le_ rfl, le_ rfl⟩ rfl rfl rfl (le_ rfl) (dq dk_Mo_does 114 rfl) h (fun x2 σ1 h => ?_)
        refine ww_goto C 237 (dq dk_Mo_does 115 rfl) (by decide) ?_
        exact ww_lv [1, 2, 3, 0] rfl (t_Mo_does_B237 C hR hRm hnL v0 v1 v2 t0 x2 ho_v0 σ1 h)
    · refine ww_aload_n C 1 rfl rfl (dq dk_Mo_does 103 rfl) ?_
      refine ww_iload_n C 3 rfl rfl (dq dk_Mo_does 104 rfl) ?_
      refine ww_cVi (st := []) C (c_Mo_load v0 ho_v0 v2) cw_Mo_load ho_v0 (lt_ rfl) rfl g_8_11 hRm ⟨⟨rfl, rfl⟩, le_ rfl, le_ rfl⟩ rfl rfl rfl (le_ rfl) (dq dk_Mo_does 105 rfl) h (fun x4 σ3 h => ?_)
      refine ww_goto C 237 (dq dk_Mo_does 106 rfl) (by decide) ?_
      exact ww_lv [1, 2, 3, 0] rfl (t_Mo_does_B237 C hR hRm hnL v0 v1 v2 t0 x4 ho_v0 σ3 h)
  · refine ww_aload_n C 1 rfl rfl (dq dk_Mo_does 94 rfl) ?_
    refine ww_aload_n C 1 rfl rfl (dq dk_Mo_does 95 rfl) ?_
    refine ww_geti C ko_Mo 59 ho_v0 (lt_ rfl) g_6_109 rfl rfl (dq dk_Mo_does 96 rfl) ?_
    refine ww_cVi (st := []) C (c_Mo_reg v0 ho_v0 (σ v0 59)) cw_Mo_reg ho_v0 (lt_ rfl) rfl g_7_232 hRm ⟨⟨rfl, rfl⟩, le_ rfl, le_ rfl⟩ rfl rfl rfl (le_ rfl) (dq dk_Mo_does 97 rfl) h (fun x6 σ5 h => ?_)
    refine ww_goto C 237 (dq dk_Mo_does 98 rfl) (by decide) ?_
    exact ww_lv [1, 2, 3, 0] rfl (t_Mo_does_B237 C hR hRm hnL v0 v1 v2 t0 x6 ho_v0 σ5 h)
set_option maxHeartbeats 4000000 in
set_option maxRecDepth 100000 in
theorem t_Mo_does_B157 {k : Cfg} {res : St} (C : Cx k prog_14_method_78_code "BundleHouseModel") (hR : RV k res) (hRm : k.2.2.2.1 = rm_Mo_does) (hnL : k.2.2.2.2.2.2.2.2.2.2.2.1 = 6) (v0 : Nat) (v1 : Int32) (t0 : Int32) (ho_v0 : kd v0 = 12) (σ : St) (h : Mo_does_B157 v0 v1 t0 σ = some res) : WW k 157 [(0, .ref (ad k v0)), (1, .int v1)] [.int t0] σ := by
  unfold Mo_does_B157 at h
  refine ww_istore_n C [(2, .int t0), (0, .ref (ad k v0)), (1, .int v1)] rfl hnL (lt_ rfl) rfl (dq dk_Mo_does 78 rfl) ?_
  refine ww_iload_n C 2 rfl rfl (dq dk_Mo_does 79 rfl) ?_
  refine ww_if_eq C 170 (dq dk_Mo_does 80 rfl) (by decide) h (fun h => ?_) (fun h => ?_)
  · refine ww_aload_n C 1 rfl rfl (dq dk_Mo_does 85 rfl) ?_
    refine ww_aload_n C 1 rfl rfl (dq dk_Mo_does 86 rfl) ?_
    refine ww_geti C ko_Mo 58 ho_v0 (lt_ rfl) g_6_108 rfl rfl (dq dk_Mo_does 87 rfl) ?_
    refine ww_cVi (st := []) C (c_Mo_reg v0 ho_v0 (σ v0 58)) cw_Mo_reg ho_v0 (lt_ rfl) rfl g_7_232 hRm ⟨⟨rfl, rfl⟩, le_ rfl, le_ rfl⟩ rfl rfl rfl (le_ rfl) (dq dk_Mo_does 88 rfl) h (fun x2 σ1 h => ?_)
    exact ww_lv [1, 2, 0] rfl (t_Mo_does_B178 C hR hRm hnL v0 v1 t0 x2 ho_v0 σ1 h)
  · refine ww_aload_n C 1 rfl rfl (dq dk_Mo_does 81 rfl) ?_
    refine ww_iload_n C 0 rfl rfl (dq dk_Mo_does 82 rfl) ?_
    refine ww_cVi (st := []) C (c_Mo_load v0 ho_v0 t0) cw_Mo_load ho_v0 (lt_ rfl) rfl g_8_11 hRm ⟨⟨rfl, rfl⟩, le_ rfl, le_ rfl⟩ rfl rfl rfl (le_ rfl) (dq dk_Mo_does 83 rfl) h (fun x4 σ3 h => ?_)
    refine ww_goto C 178 (dq dk_Mo_does 84 rfl) (by decide) ?_
    exact ww_lv [1, 2, 0] rfl (t_Mo_does_B178 C hR hRm hnL v0 v1 t0 x4 ho_v0 σ3 h)
set_option maxHeartbeats 4000000 in
set_option maxRecDepth 100000 in
theorem t_Mo_does_B133 {k : Cfg} {res : St} (C : Cx k prog_14_method_78_code "BundleHouseModel") (hR : RV k res) (hRm : k.2.2.2.1 = rm_Mo_does) (hnL : k.2.2.2.2.2.2.2.2.2.2.2.1 = 6) (v0 : Nat) (t0 : Int32) (ho_v0 : kd v0 = 12) (σ : St) (h : Mo_does_B133 v0 t0 σ = some res) : WW k 133 [(0, .ref (ad k v0))] [.int t0] σ := by
  unfold Mo_does_B133 at h
  refine ww_istore_n C [(1, .int t0), (0, .ref (ad k v0))] rfl hnL (lt_ rfl) rfl (dq dk_Mo_does 66 rfl) ?_
  refine ww_aload_n C 1 rfl rfl (dq dk_Mo_does 67 rfl) ?_
  refine ww_cVi (st := []) C (c_Mo_isOnMemory v0 ho_v0) cw_Mo_isOnMemory ho_v0 (lt_ rfl) rfl g_8_23 hRm ⟨⟨rfl, rfl⟩, le_ rfl, le_ rfl⟩ rfl rfl rfl (le_ rfl) (dq dk_Mo_does 68 rfl) h (fun x2 σ1 h => ?_)
  refine ww_if_eq C 156 (dq dk_Mo_does 69 rfl) (by decide) h (fun h => ?_) (fun h => ?_)
  · refine ww_iconst C (dq dk_Mo_does 77 rfl) ic_0 ?_
    exact ww_lv [1, 0] rfl (t_Mo_does_B157 C hR hRm hnL v0 t0 0 ho_v0 σ1 h)
  · refine ww_aload_n C 1 rfl rfl (dq dk_Mo_does 70 rfl) ?_
    refine ww_aload_n C 1 rfl rfl (dq dk_Mo_does 71 rfl) ?_
    refine ww_geti C ko_Mo 59 ho_v0 (lt_ rfl) g_6_109 rfl rfl (dq dk_Mo_does 72 rfl) ?_
    refine ww_aload_n C 1 rfl rfl (dq dk_Mo_does 73 rfl) ?_
    refine ww_geti C ko_Mo 60 ho_v0 (lt_ rfl) g_6_110 rfl rfl (dq dk_Mo_does 74 rfl) ?_
    refine ww_cVi (st := []) C (c_Mo_place1 v0 ho_v0 (σ1 v0 59) (σ1 v0 60)) cw_Mo_place1 ho_v0 (lt_ rfl) rfl g_8_27 hRm ⟨⟨rfl, rfl⟩, le_ rfl, le_ rfl⟩ rfl rfl rfl (le_ rfl) (dq dk_Mo_does 75 rfl) h (fun x4 σ3 h => ?_)
    refine ww_goto C 157 (dq dk_Mo_does 76 rfl) (by decide) ?_
    exact ww_lv [1, 0] rfl (t_Mo_does_B157 C hR hRm hnL v0 t0 x4 ho_v0 σ3 h)
set_option maxHeartbeats 4000000 in
set_option maxRecDepth 100000 in
theorem c_Mo_does (v0 : Nat) (ho_v0 : kd v0 = 12) : MV y_Mo_does rm_Mo_does prog_14_method_78_code 6 (fun a => [.ref (a v0)]) (Mo_does v0) := by
  refine mv_of (by decide) (fun _ => le_ rfl) ?_
  intro k res σ C hR hRm hnL h
  unfold Mo_does at h
  show WW k 0 [(0, .ref (ad k v0))] [] σ
  refine ww_aload_n C 0 rfl rfl (dq dk_Mo_does 0 rfl) ?_
  refine ww_geti C ko_Mo 56 ho_v0 (lt_ rfl) g_6_106 rfl rfl (dq dk_Mo_does 1 rfl) ?_
  refine ww_bipush C (dq dk_Mo_does 2 rfl) bp_19 ?_
  refine ww_icmp_ne C 38 (dq dk_Mo_does 3 rfl) (by decide) h (fun h => ?_) (fun h => ?_)
  · refine ww_aload_n C 0 rfl rfl (dq dk_Mo_does 18 rfl) ?_
    refine ww_geti C ko_Mo 56 ho_v0 (lt_ rfl) g_6_106 rfl rfl (dq dk_Mo_does 19 rfl) ?_
    refine ww_bipush C (dq dk_Mo_does 20 rfl) bp_20 ?_
    refine ww_icmp_ne C 62 (dq dk_Mo_does 21 rfl) (by decide) h (fun h => ?_) (fun h => ?_)
    · refine ww_aload_n C 0 rfl rfl (dq dk_Mo_does 31 rfl) ?_
      refine ww_geti C ko_Mo 56 ho_v0 (lt_ rfl) g_6_106 rfl rfl (dq dk_Mo_does 32 rfl) ?_
      refine ww_bipush C (dq dk_Mo_does 33 rfl) bp_20 ?_
      refine ww_icmp_le C 72 (dq dk_Mo_does 34 rfl) (by decide) h (fun h => ?_) (fun h => ?_)
      · refine ww_aload_n C 0 rfl rfl (dq dk_Mo_does 36 rfl) ?_
        refine ww_geti C ko_Mo 56 ho_v0 (lt_ rfl) g_6_106 rfl rfl (dq dk_Mo_does 37 rfl) ?_
        refine ww_bipush C (dq dk_Mo_does 38 rfl) bp_10 ?_
        refine ww_icmp_ne C 102 (dq dk_Mo_does 39 rfl) (by decide) h (fun h => ?_) (fun h => ?_)
        · refine ww_aload_n C 0 rfl rfl (dq dk_Mo_does 51 rfl) ?_
          refine ww_geti C ko_Mo 57 ho_v0 (lt_ rfl) g_6_107 rfl rfl (dq dk_Mo_does 52 rfl) ?_
          refine ww_iconst C (dq dk_Mo_does 53 rfl) ic_4 ?_
          refine ww_icmp_eq C 128 (dq dk_Mo_does 54 rfl) (by decide) h (fun h => ?_) (fun h => ?_)
          · refine ww_iconst C (dq dk_Mo_does 63 rfl) ic_1 ?_
            refine ww_goto C 133 (dq dk_Mo_does 64 rfl) (by decide) ?_
            exact ww_lv [0] rfl (t_Mo_does_B133 C hR hRm hnL v0 1 ho_v0 σ h)
          · refine ww_aload_n C 0 rfl rfl (dq dk_Mo_does 55 rfl) ?_
            refine ww_geti C ko_Mo 57 ho_v0 (lt_ rfl) g_6_107 rfl rfl (dq dk_Mo_does 56 rfl) ?_
            refine ww_bipush C (dq dk_Mo_does 57 rfl) bp_6 ?_
            refine ww_icmp_eq C 128 (dq dk_Mo_does 58 rfl) (by decide) h (fun h => ?_) (fun h => ?_)
            · refine ww_iconst C (dq dk_Mo_does 63 rfl) ic_1 ?_
              refine ww_goto C 133 (dq dk_Mo_does 64 rfl) (by decide) ?_
              exact ww_lv [0] rfl (t_Mo_does_B133 C hR hRm hnL v0 1 ho_v0 σ h)
            · refine ww_aload_n C 0 rfl rfl (dq dk_Mo_does 59 rfl) ?_
              refine ww_geti C ko_Mo 57 ho_v0 (lt_ rfl) g_6_107 rfl rfl (dq dk_Mo_does 60 rfl) ?_
              refine ww_bipush C (dq dk_Mo_does 61 rfl) bp_7 ?_
              refine ww_icmp_ne C 132 (dq dk_Mo_does 62 rfl) (by decide) h (fun h => ?_) (fun h => ?_)
              · refine ww_iconst C (dq dk_Mo_does 65 rfl) ic_0 ?_
                exact ww_lv [0] rfl (t_Mo_does_B133 C hR hRm hnL v0 0 ho_v0 σ h)
              · refine ww_iconst C (dq dk_Mo_does 63 rfl) ic_1 ?_
                refine ww_goto C 133 (dq dk_Mo_does 64 rfl) (by decide) ?_
                exact ww_lv [0] rfl (t_Mo_does_B133 C hR hRm hnL v0 1 ho_v0 σ h)
        · refine ww_aload_n C 0 rfl rfl (dq dk_Mo_does 40 rfl) ?_
          refine ww_aload_n C 0 rfl rfl (dq dk_Mo_does 41 rfl) ?_
          refine ww_geti C ko_Mo 58 ho_v0 (lt_ rfl) g_6_108 rfl rfl (dq dk_Mo_does 42 rfl) ?_
          refine ww_aload_n C 0 rfl rfl (dq dk_Mo_does 43 rfl) ?_
          refine ww_aload_n C 0 rfl rfl (dq dk_Mo_does 44 rfl) ?_
          refine ww_geti C ko_Mo 59 ho_v0 (lt_ rfl) g_6_109 rfl rfl (dq dk_Mo_does 45 rfl) ?_
          refine ww_aload_n C 0 rfl rfl (dq dk_Mo_does 46 rfl) ?_
          refine ww_geti C ko_Mo 60 ho_v0 (lt_ rfl) g_6_110 rfl rfl (dq dk_Mo_does 47 rfl) ?_
          refine ww_cVi (st := [.int (σ v0 58), .ref (ad k v0)]) C (c_Mo_place1 v0 ho_v0 (σ v0 59) (σ v0 60)) cw_Mo_place1 ho_v0 (lt_ rfl) rfl g_8_27 hRm ⟨⟨rfl, rfl⟩, le_ rfl, le_ rfl⟩ rfl rfl rfl (le_ rfl) (dq dk_Mo_does 48 rfl) h (fun x2 σ1 h => ?_)
          refine ww_cVv (st := []) C (c_Mo_setReg v0 ho_v0 (σ v0 58) x2) cw_Mo_setReg ho_v0 (lt_ rfl) rfl g_8_3 hRm ⟨⟨rfl, rfl⟩, le_ rfl, le_ rfl⟩ rfl rfl rfl (le_ rfl) (dq dk_Mo_does 49 rfl) h (fun σ3 h => ?_)
          exact ww_vret C hR (dq dk_Mo_does 50 rfl) h
      · exact ww_vret C hR (dq dk_Mo_does 35 rfl) h
    · refine ww_aload_n C 0 rfl rfl (dq dk_Mo_does 22 rfl) ?_
      refine ww_cVi (st := []) C (c_Mo_pop v0 ho_v0) cw_Mo_pop ho_v0 (lt_ rfl) rfl g_8_7 hRm ⟨⟨rfl, rfl⟩, le_ rfl, le_ rfl⟩ rfl rfl rfl (le_ rfl) (dq dk_Mo_does 23 rfl) h (fun x5 σ4 h => ?_)
      refine ww_istore_n C [(1, .int x5), (0, .ref (ad k v0))] rfl hnL (lt_ rfl) rfl (dq dk_Mo_does 24 rfl) ?_
      refine ww_aload_n C 1 rfl rfl (dq dk_Mo_does 25 rfl) ?_
      refine ww_aload_n C 1 rfl rfl (dq dk_Mo_does 26 rfl) ?_
      refine ww_geti C ko_Mo 58 ho_v0 (lt_ rfl) g_6_108 rfl rfl (dq dk_Mo_does 27 rfl) ?_
      refine ww_iload_n C 0 rfl rfl (dq dk_Mo_does 28 rfl) ?_
      refine ww_cVv (st := []) C (c_Mo_setReg v0 ho_v0 (σ4 v0 58) x5) cw_Mo_setReg ho_v0 (lt_ rfl) rfl g_8_3 hRm ⟨⟨rfl, rfl⟩, le_ rfl, le_ rfl⟩ rfl rfl rfl (le_ rfl) (dq dk_Mo_does 29 rfl) h (fun σ6 h => ?_)
      exact ww_vret C hR (dq dk_Mo_does 30 rfl) h
  · refine ww_aload_n C 0 rfl rfl (dq dk_Mo_does 4 rfl) ?_
    refine ww_aload_n C 0 rfl rfl (dq dk_Mo_does 5 rfl) ?_
    refine ww_geti C ko_Mo 57 ho_v0 (lt_ rfl) g_6_107 rfl rfl (dq dk_Mo_does 6 rfl) ?_
    refine ww_bipush C (dq dk_Mo_does 7 rfl) bp_8 ?_
    refine ww_icmp_ne C 26 (dq dk_Mo_does 8 rfl) (by decide) h (fun h => ?_) (fun h => ?_)
    · refine ww_aload_n C 0 rfl rfl (dq dk_Mo_does 12 rfl) ?_
      refine ww_aload_n C 0 rfl rfl (dq dk_Mo_does 13 rfl) ?_
      refine ww_geti C ko_Mo 58 ho_v0 (lt_ rfl) g_6_108 rfl rfl (dq dk_Mo_does 14 rfl) ?_
      refine ww_cVi (st := [.ref (ad k v0)]) C (c_Mo_reg v0 ho_v0 (σ v0 58)) cw_Mo_reg ho_v0 (lt_ rfl) rfl g_7_232 hRm ⟨⟨rfl, rfl⟩, le_ rfl, le_ rfl⟩ rfl rfl rfl (le_ rfl) (dq dk_Mo_does 15 rfl) h (fun x8 σ7 h => ?_)
      refine ww_cVv (st := []) C (c_Mo_push v0 ho_v0 x8) cw_Mo_push ho_v0 (lt_ rfl) rfl g_8_35 hRm ⟨⟨rfl, rfl⟩, le_ rfl, le_ rfl⟩ rfl rfl rfl (le_ rfl) (dq dk_Mo_does 16 rfl) h (fun σ9 h => ?_)
      exact ww_vret C hR (dq dk_Mo_does 17 rfl) h
    · refine ww_aload_n C 0 rfl rfl (dq dk_Mo_does 9 rfl) ?_
      refine ww_geti C ko_Mo 61 ho_v0 (lt_ rfl) g_6_111 rfl rfl (dq dk_Mo_does 10 rfl) ?_
      refine ww_goto C 34 (dq dk_Mo_does 11 rfl) (by decide) ?_
      refine ww_cVv (st := []) C (c_Mo_push v0 ho_v0 (σ v0 61)) cw_Mo_push ho_v0 (lt_ rfl) rfl g_8_35 hRm ⟨⟨rfl, rfl⟩, le_ rfl, le_ rfl⟩ rfl rfl rfl (le_ rfl) (dq dk_Mo_does 16 rfl) h (fun σ10 h => ?_)
      exact ww_vret C hR (dq dk_Mo_does 17 rfl) h
abbrev y_Mo_takes : MethodName := ⟨"BundleHouseModel", "takes", "(IIIIII)V"⟩
def dl_Mo_takes : List (Nat × Instr × Nat) := [(0, .aload_n 0, 1), (1, .iload_n 1, 1), (2, .putfield 353, 3), (5, .aload_n 0, 1), (6, .iload_n 2, 1), (7, .putfield 350, 3), (10, .aload_n 0, 1), (11, .iload_n 3, 1), (12, .putfield 384, 3), (15, .aload_n 0, 1), (16, .iload 4, 2), (18, .putfield 362, 3), (21, .aload_n 0, 1), (22, .iload 5, 2), (24, .putfield 365, 3), (27, .aload_n 0, 1), (28, .iload 6, 2), (30, .putfield 381, 3), (33, .return_, 1)]
set_option maxRecDepth 100000 in
theorem dk_Mo_takes : ∀ q ∈ dl_Mo_takes, decode prog_14_method_79_code q.1 = .ok q.2 := by decide +kernel
abbrev rm_Mo_takes : Room := { frames := 0, cells := 0, slots := 0, locals := 0 }
theorem cw_Mo_takes : CWV y_Mo_takes prog_14_method_79_code 7 none 6 := ⟨⟨g_8_18, g_1_13, by decide, by decide, by decide +kernel⟩, g_8_17, gs_7_7⟩
set_option maxHeartbeats 4000000 in
set_option maxRecDepth 100000 in
theorem c_Mo_takes (v0 : Nat) (ho_v0 : kd v0 = 12) (v1 : Int32) (v2 : Int32) (v3 : Int32) (v4 : Int32) (v5 : Int32) (v6 : Int32) : MV y_Mo_takes rm_Mo_takes prog_14_method_79_code 7 (fun a => [.ref (a v0), .int v1, .int v2, .int v3, .int v4, .int v5, .int v6]) (Mo_takes v0 v1 v2 v3 v4 v5 v6) := by
  refine mv_of (by decide) (fun _ => le_ rfl) ?_
  intro k res σ C hR hRm hnL h
  unfold Mo_takes at h
  show WW k 0 [(0, .ref (ad k v0)), (1, .int v1), (2, .int v2), (3, .int v3), (4, .int v4), (5, .int v5), (6, .int v6)] [] σ
  refine ww_aload_n C 0 rfl rfl (dq dk_Mo_takes 0 rfl) ?_
  refine ww_iload_n C 1 rfl rfl (dq dk_Mo_takes 1 rfl) ?_
  refine ww_puti C ko_Mo 56 ho_v0 (lt_ rfl) g_6_106 rfl rfl rfl rfl (dq dk_Mo_takes 2 rfl) h (fun σ1 h => ?_)
  refine ww_aload_n C 0 rfl rfl (dq dk_Mo_takes 3 rfl) ?_
  refine ww_iload_n C 2 rfl rfl (dq dk_Mo_takes 4 rfl) ?_
  refine ww_puti C ko_Mo 57 ho_v0 (lt_ rfl) g_6_107 rfl rfl rfl rfl (dq dk_Mo_takes 5 rfl) h (fun σ2 h => ?_)
  refine ww_aload_n C 0 rfl rfl (dq dk_Mo_takes 6 rfl) ?_
  refine ww_iload_n C 3 rfl rfl (dq dk_Mo_takes 7 rfl) ?_
  refine ww_puti C ko_Mo 58 ho_v0 (lt_ rfl) g_6_108 rfl rfl rfl rfl (dq dk_Mo_takes 8 rfl) h (fun σ3 h => ?_)
  refine ww_aload_n C 0 rfl rfl (dq dk_Mo_takes 9 rfl) ?_
  refine ww_iload C 4 rfl (dq dk_Mo_takes 10 rfl) ?_
  refine ww_puti C ko_Mo 59 ho_v0 (lt_ rfl) g_6_109 rfl rfl rfl rfl (dq dk_Mo_takes 11 rfl) h (fun σ4 h => ?_)
  refine ww_aload_n C 0 rfl rfl (dq dk_Mo_takes 12 rfl) ?_
  refine ww_iload C 5 rfl (dq dk_Mo_takes 13 rfl) ?_
  refine ww_puti C ko_Mo 60 ho_v0 (lt_ rfl) g_6_110 rfl rfl rfl rfl (dq dk_Mo_takes 14 rfl) h (fun σ5 h => ?_)
  refine ww_aload_n C 0 rfl rfl (dq dk_Mo_takes 15 rfl) ?_
  refine ww_iload C 6 rfl (dq dk_Mo_takes 16 rfl) ?_
  refine ww_puti C ko_Mo 61 ho_v0 (lt_ rfl) g_6_111 rfl rfl rfl rfl (dq dk_Mo_takes 17 rfl) h (fun σ6 h => ?_)
  exact ww_vret C hR (dq dk_Mo_takes 18 rfl) h
