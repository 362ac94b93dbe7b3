abbrev y_Piece_hasOperand : MethodName := ⟨"BundleHouse$Piece", "hasOperand", "(LBundleHouse$Instruction;)Z"⟩
def dl_Piece_hasOperand : List (Nat × Instr × Nat) := [(0, .aload_n 0, 1), (1, .getfield 51, 3), (4, .iconst 1, 1), (5, .if_icmp .ne 27, 3), (8, .aload_n 0, 1), (9, .getfield 40, 3), (12, .bipush 12, 2), (14, .if_icmp .eq 12, 3), (17, .aload_n 0, 1), (18, .getfield 40, 3), (21, .bipush 13, 2), (23, .if_icmp .ne 7, 3), (26, .iconst 1, 1), (27, .goto 4, 3), (30, .iconst 0, 1), (31, .ireturn, 1), (32, .aload_n 0, 1), (33, .getfield 51, 3), (36, .ifCond .eq 33, 3), (39, .aload_n 0, 1), (40, .getfield 51, 3), (43, .bipush 8, 2), (45, .if_icmp .eq 24, 3), (48, .aload_n 0, 1), (49, .getfield 51, 3), (52, .iconst 5, 1), (53, .if_icmp .ne 12, 3), (56, .aload_n 0, 1), (57, .getfield 40, 3), (60, .bipush 8, 2), (62, .if_icmp .eq 7, 3), (65, .iconst 1, 1), (66, .goto 4, 3), (69, .iconst 0, 1), (70, .ireturn, 1)]
set_option maxRecDepth 100000 in
theorem dk_Piece_hasOperand : ∀ q ∈ dl_Piece_hasOperand, decode prog_6_method_13_code q.1 = .ok q.2 := by decide +kernel
abbrev rm_Piece_hasOperand : Room := { frames := 0, cells := 0, slots := 0, locals := 0 }
theorem cw_Piece_hasOperand : CWS y_Piece_hasOperand prog_6_method_13_code 1 (some .boolean) 1 := ⟨⟨g_3_210, g_1_8, by decide, by decide, by decide +kernel⟩, g_3_209⟩
set_option maxHeartbeats 4000000 in
set_option maxRecDepth 100000 in
theorem c_Piece_hasOperand (v0 : Nat) (ho_v0 : kd v0 = 4) : MI y_Piece_hasOperand rm_Piece_hasOperand prog_6_method_13_code 1 .boolean (fun a => [.ref (a v0)]) (Piece_hasOperand v0) := by
  refine mi_of (by decide) (fun _ => le_ rfl) ?_
  intro k res σ C hR hRm hnL h
  unfold Piece_hasOperand at h
  show WW k 0 [(0, .ref (ad k v0))] [] σ
  refine ww_aload_n C 0 rfl rfl (dq dk_Piece_hasOperand 0 rfl) ?_
  refine ww_geti C ko_Instruction 1 ho_v0 (lt_ rfl) g_1_81 rfl rfl (dq dk_Piece_hasOperand 1 rfl) ?_
  refine ww_iconst C (dq dk_Piece_hasOperand 2 rfl) ic_1 ?_
  refine ww_icmp_ne C 32 (dq dk_Piece_hasOperand 3 rfl) (by decide) h (fun h => ?_) (fun h => ?_)
  · refine ww_aload_n C 0 rfl rfl (dq dk_Piece_hasOperand 16 rfl) ?_
    refine ww_geti C ko_Instruction 1 ho_v0 (lt_ rfl) g_1_81 rfl rfl (dq dk_Piece_hasOperand 17 rfl) ?_
    refine ww_if_eq C 69 (dq dk_Piece_hasOperand 18 rfl) (by decide) h (fun h => ?_) (fun h => ?_)
    · refine ww_iconst C (dq dk_Piece_hasOperand 33 rfl) ic_0 ?_
      exact ww_zretL C hR (dq dk_Piece_hasOperand 34 rfl) (Or.inl rfl) h
    · refine ww_aload_n C 0 rfl rfl (dq dk_Piece_hasOperand 19 rfl) ?_
      refine ww_geti C ko_Instruction 1 ho_v0 (lt_ rfl) g_1_81 rfl rfl (dq dk_Piece_hasOperand 20 rfl) ?_
      refine ww_bipush C (dq dk_Piece_hasOperand 21 rfl) bp_8 ?_
      refine ww_icmp_eq C 69 (dq dk_Piece_hasOperand 22 rfl) (by decide) h (fun h => ?_) (fun h => ?_)
      · refine ww_iconst C (dq dk_Piece_hasOperand 33 rfl) ic_0 ?_
        exact ww_zretL C hR (dq dk_Piece_hasOperand 34 rfl) (Or.inl rfl) h
      · refine ww_aload_n C 0 rfl rfl (dq dk_Piece_hasOperand 23 rfl) ?_
        refine ww_geti C ko_Instruction 1 ho_v0 (lt_ rfl) g_1_81 rfl rfl (dq dk_Piece_hasOperand 24 rfl) ?_
        refine ww_iconst C (dq dk_Piece_hasOperand 25 rfl) ic_5 ?_
        refine ww_icmp_ne C 65 (dq dk_Piece_hasOperand 26 rfl) (by decide) h (fun h => ?_) (fun h => ?_)
        · refine ww_iconst C (dq dk_Piece_hasOperand 31 rfl) ic_1 ?_
          refine ww_goto C 70 (dq dk_Piece_hasOperand 32 rfl) (by decide) ?_
          exact ww_zretL C hR (dq dk_Piece_hasOperand 34 rfl) (Or.inr rfl) h
        · refine ww_aload_n C 0 rfl rfl (dq dk_Piece_hasOperand 27 rfl) ?_
          refine ww_geti C ko_Instruction 0 ho_v0 (lt_ rfl) g_1_75 rfl rfl (dq dk_Piece_hasOperand 28 rfl) ?_
          refine ww_bipush C (dq dk_Piece_hasOperand 29 rfl) bp_8 ?_
          refine ww_icmp_eq C 69 (dq dk_Piece_hasOperand 30 rfl) (by decide) h (fun h => ?_) (fun h => ?_)
          · refine ww_iconst C (dq dk_Piece_hasOperand 33 rfl) ic_0 ?_
            exact ww_zretL C hR (dq dk_Piece_hasOperand 34 rfl) (Or.inl rfl) h
          · refine ww_iconst C (dq dk_Piece_hasOperand 31 rfl) ic_1 ?_
            refine ww_goto C 70 (dq dk_Piece_hasOperand 32 rfl) (by decide) ?_
            exact ww_zretL C hR (dq dk_Piece_hasOperand 34 rfl) (Or.inr rfl) h
  · refine ww_aload_n C 0 rfl rfl (dq dk_Piece_hasOperand 4 rfl) ?_
    refine ww_geti C ko_Instruction 0 ho_v0 (lt_ rfl) g_1_75 rfl rfl (dq dk_Piece_hasOperand 5 rfl) ?_
    refine ww_bipush C (dq dk_Piece_hasOperand 6 rfl) bp_12 ?_
    refine ww_icmp_eq C 26 (dq dk_Piece_hasOperand 7 rfl) (by decide) h (fun h => ?_) (fun h => ?_)
    · refine ww_iconst C (dq dk_Piece_hasOperand 12 rfl) ic_1 ?_
      refine ww_goto C 31 (dq dk_Piece_hasOperand 13 rfl) (by decide) ?_
      exact ww_zretL C hR (dq dk_Piece_hasOperand 15 rfl) (Or.inr rfl) h
    · refine ww_aload_n C 0 rfl rfl (dq dk_Piece_hasOperand 8 rfl) ?_
      refine ww_geti C ko_Instruction 0 ho_v0 (lt_ rfl) g_1_75 rfl rfl (dq dk_Piece_hasOperand 9 rfl) ?_
      refine ww_bipush C (dq dk_Piece_hasOperand 10 rfl) bp_13 ?_
      refine ww_icmp_ne C 30 (dq dk_Piece_hasOperand 11 rfl) (by decide) h (fun h => ?_) (fun h => ?_)
      · refine ww_iconst C (dq dk_Piece_hasOperand 14 rfl) ic_0 ?_
        exact ww_zretL C hR (dq dk_Piece_hasOperand 15 rfl) (Or.inl rfl) h
      · refine ww_iconst C (dq dk_Piece_hasOperand 12 rfl) ic_1 ?_
        refine ww_goto C 31 (dq dk_Piece_hasOperand 13 rfl) (by decide) ?_
        exact ww_zretL C hR (dq dk_Piece_hasOperand 15 rfl) (Or.inr rfl) h
abbrev y_House_isSmall : MethodName := ⟨"BundleHouse", "isSmall", "(I)Z"⟩
def dl_House_isSmall : List (Nat × Instr × Nat) := [(0, .iload_n 0, 1), (1, .bipush (-128), 2), (3, .if_icmp .lt 13, 3), (6, .iload_n 0, 1), (7, .bipush 127, 2), (9, .if_icmp .gt 7, 3), (12, .iconst 1, 1), (13, .goto 4, 3), (16, .iconst 0, 1), (17, .ireturn, 1)]
set_option maxRecDepth 100000 in
theorem dk_House_isSmall : ∀ q ∈ dl_House_isSmall, decode prog_1_method_31_code q.1 = .ok q.2 := by decide +kernel
abbrev rm_House_isSmall : Room := { frames := 0, cells := 0, slots := 0, locals := 0 }
theorem cw_House_isSmall : CWS y_House_isSmall prog_1_method_31_code 1 (some .boolean) 1 := ⟨⟨g_3_203, g_1_1, by decide, by decide, by decide +kernel⟩, g_3_202⟩
set_option maxHeartbeats 4000000 in
set_option maxRecDepth 100000 in
theorem c_House_isSmall (v0 : Int32) : MI y_House_isSmall rm_House_isSmall prog_1_method_31_code 1 .boolean (fun a => [.int v0]) (House_isSmall v0) := by
  refine mi_of (by decide) (fun _ => le_ rfl) ?_
  intro k res σ C hR hRm hnL h
  unfold House_isSmall at h
  show WW k 0 [(0, .int v0)] [] σ
  refine ww_iload_n C 0 rfl rfl (dq dk_House_isSmall 0 rfl) ?_
  refine ww_bipush C (dq dk_House_isSmall 1 rfl) bp_m128 ?_
  refine ww_icmp_lt C 16 (dq dk_House_isSmall 2 rfl) (by decide) h (fun h => ?_) (fun h => ?_)
  · refine ww_iconst C (dq dk_House_isSmall 8 rfl) ic_0 ?_
    exact ww_zretL C hR (dq dk_House_isSmall 9 rfl) (Or.inl rfl) h
  · refine ww_iload_n C 0 rfl rfl (dq dk_House_isSmall 3 rfl) ?_
    refine ww_bipush C (dq dk_House_isSmall 4 rfl) bp_127 ?_
    refine ww_icmp_gt C 16 (dq dk_House_isSmall 5 rfl) (by decide) h (fun h => ?_) (fun h => ?_)
    · refine ww_iconst C (dq dk_House_isSmall 8 rfl) ic_0 ?_
      exact ww_zretL C hR (dq dk_House_isSmall 9 rfl) (Or.inl rfl) h
    · refine ww_iconst C (dq dk_House_isSmall 6 rfl) ic_1 ?_
      refine ww_goto C 17 (dq dk_House_isSmall 7 rfl) (by decide) ?_
      exact ww_zretL C hR (dq dk_House_isSmall 9 rfl) (Or.inr rfl) h
abbrev y_Piece_putArithmeticLead : MethodName := ⟨"BundleHouse$Piece", "putArithmeticLead", "(LBundleHouse$Instruction;)V"⟩
def dl_Piece_putArithmeticLead : List (Nat × Instr × Nat) := [(0, .aload_n 1, 1), (1, .getfield 51, 3), (4, .iconst 5, 1), (5, .if_icmp .eq 12, 3), (8, .aload_n 1, 1), (9, .getfield 51, 3), (12, .bipush 6, 2), (14, .if_icmp .ne 29, 3), (17, .aload_n 0, 1), (18, .aload_n 1, 1), (19, .getfield 54, 3), (22, .invokestatic 57, 3), (25, .ifCond .eq 9, 3), (28, .sipush 131, 3), (31, .goto 6, 3), (34, .sipush 129, 3), (37, .invokevirtual 19, 3), (40, .goto 28, 3), (43, .aload_n 0, 1), (44, .bipush 8, 2), (46, .aload_n 1, 1), (47, .getfield 40, 3), (50, .imul, 1), (51, .aload_n 1, 1), (52, .getfield 51, 3), (55, .iconst 3, 1), (56, .if_icmp .ne 7, 3), (59, .iconst 3, 1), (60, .goto 4, 3), (63, .iconst 1, 1), (64, .iadd, 1), (65, .invokevirtual 19, 3), (68, .return_, 1)]
set_option maxRecDepth 100000 in
theorem dk_Piece_putArithmeticLead : ∀ q ∈ dl_Piece_putArithmeticLead, decode prog_6_method_11_code q.1 = .ok q.2 := by decide +kernel
abbrev rm_Piece_putArithmeticLead : Room := { frames := 1, cells := 0, slots := 0, locals := 21 }
theorem cw_Piece_putArithmeticLead : CWV y_Piece_putArithmeticLead prog_6_method_11_code 2 none 1 := ⟨⟨g_3_207, g_1_8, by decide, by decide, by decide +kernel⟩, g_3_206, gs_2_6⟩
set_option maxHeartbeats 4000000 in
set_option maxRecDepth 100000 in
theorem t_Piece_putArithmeticLead_B17 {k : Cfg} {res : St} (C : Cx k prog_6_method_11_code "BundleHouse$Piece") (hR : RV k res) (hRm : k.2.2.2.1 = rm_Piece_putArithmeticLead) (hnL : k.2.2.2.2.2.2.2.2.2.2.2.1 = 2) (v0 : Nat) (v1 : Nat) (ho_v0 : kd v0 = 7) (ho_v1 : kd v1 = 4) (σ : St) (h : Piece_putArithmeticLead_B17 v0 v1 σ = some res) : WW k 17 [(0, .ref (ad k v0)), (1, .ref (ad k v1))] [] σ := by
  unfold Piece_putArithmeticLead_B17 at h
  refine ww_aload_n C 0 rfl rfl (dq dk_Piece_putArithmeticLead 8 rfl) ?_
  refine ww_aload_n C 1 rfl rfl (dq dk_Piece_putArithmeticLead 9 rfl) ?_
  refine ww_geti C ko_Instruction 5 ho_v1 (lt_ rfl) g_1_101 rfl rfl (dq dk_Piece_putArithmeticLead 10 rfl) ?_
  refine ww_cNi (st := [.ref (ad k v0)]) C (c_House_isSmall (σ v1 5)) cw_House_isSmall nw_11 hRm ⟨⟨rfl, rfl⟩, le_ rfl, le_ rfl⟩ rfl rfl rfl (le_ rfl) (dq dk_Piece_putArithmeticLead 11 rfl) h (fun x2 σ1 h => ?_)
  refine ww_if_eq C 34 (dq dk_Piece_putArithmeticLead 12 rfl) (by decide) h (fun h => ?_) (fun h => ?_)
  · refine ww_sipush C (dq dk_Piece_putArithmeticLead 15 rfl) sp_129 ?_
    refine ww_cVv (st := []) C (c_Piece_put v0 ho_v0 129) cw_Piece_put ho_v0 (lt_ rfl) rfl g_3_197 hRm ⟨⟨rfl, rfl⟩, le_ rfl, le_ rfl⟩ rfl rfl rfl (le_ rfl) (dq dk_Piece_putArithmeticLead 16 rfl) h (fun σ3 h => ?_)
    refine ww_goto C 68 (dq dk_Piece_putArithmeticLead 17 rfl) (by decide) ?_
    exact ww_vret C hR (dq dk_Piece_putArithmeticLead 32 rfl) h
  · refine ww_sipush C (dq dk_Piece_putArithmeticLead 13 rfl) sp_131 ?_
    refine ww_goto C 37 (dq dk_Piece_putArithmeticLead 14 rfl) (by decide) ?_
    refine ww_cVv (st := []) C (c_Piece_put v0 ho_v0 131) cw_Piece_put ho_v0 (lt_ rfl) rfl g_3_197 hRm ⟨⟨rfl, rfl⟩, le_ rfl, le_ rfl⟩ rfl rfl rfl (le_ rfl) (dq dk_Piece_putArithmeticLead 16 rfl) h (fun σ4 h => ?_)
    refine ww_goto C 68 (dq dk_Piece_putArithmeticLead 17 rfl) (by decide) ?_
    exact ww_vret C hR (dq dk_Piece_putArithmeticLead 32 rfl) h
set_option maxHeartbeats 4000000 in
set_option maxRecDepth 100000 in
theorem c_Piece_putArithmeticLead (v0 : Nat) (ho_v0 : kd v0 = 7) (v1 : Nat) (ho_v1 : kd v1 = 4) : MV y_Piece_putArithmeticLead rm_Piece_putArithmeticLead prog_6_method_11_code 2 (fun a => [.ref (a v0), .ref (a v1)]) (Piece_putArithmeticLead v0 v1) := by
  refine mv_of (by decide) (fun _ => le_ rfl) ?_
  intro k res σ C hR hRm hnL h
  unfold Piece_putArithmeticLead at h
  show WW k 0 [(0, .ref (ad k v0)), (1, .ref (ad k v1))] [] σ
  refine ww_aload_n C 1 rfl rfl (dq dk_Piece_putArithmeticLead 0 rfl) ?_
  refine ww_geti C ko_Instruction 1 ho_v1 (lt_ rfl) g_1_81 rfl rfl (dq dk_Piece_putArithmeticLead 1 rfl) ?_
  refine ww_iconst C (dq dk_Piece_putArithmeticLead 2 rfl) ic_5 ?_
  refine ww_icmp_eq C 17 (dq dk_Piece_putArithmeticLead 3 rfl) (by decide) h (fun h => ?_) (fun h => ?_)
  · exact ww_lv [0, 1] rfl (t_Piece_putArithmeticLead_B17 C hR hRm hnL v0 v1 ho_v0 ho_v1 σ h)
  · refine ww_aload_n C 1 rfl rfl (dq dk_Piece_putArithmeticLead 4 rfl) ?_
    refine ww_geti C ko_Instruction 1 ho_v1 (lt_ rfl) g_1_81 rfl rfl (dq dk_Piece_putArithmeticLead 5 rfl) ?_
    refine ww_bipush C (dq dk_Piece_putArithmeticLead 6 rfl) bp_6 ?_
    refine ww_icmp_ne C 43 (dq dk_Piece_putArithmeticLead 7 rfl) (by decide) h (fun h => ?_) (fun h => ?_)
    · refine ww_aload_n C 0 rfl rfl (dq dk_Piece_putArithmeticLead 18 rfl) ?_
      refine ww_bipush C (dq dk_Piece_putArithmeticLead 19 rfl) bp_8 ?_
      refine ww_aload_n C 1 rfl rfl (dq dk_Piece_putArithmeticLead 20 rfl) ?_
      refine ww_geti C ko_Instruction 0 ho_v1 (lt_ rfl) g_1_75 rfl rfl (dq dk_Piece_putArithmeticLead 21 rfl) ?_
      refine ww_imul C (dq dk_Piece_putArithmeticLead 22 rfl) ?_
      refine ww_aload_n C 1 rfl rfl (dq dk_Piece_putArithmeticLead 23 rfl) ?_
      refine ww_geti C ko_Instruction 1 ho_v1 (lt_ rfl) g_1_81 rfl rfl (dq dk_Piece_putArithmeticLead 24 rfl) ?_
      refine ww_iconst C (dq dk_Piece_putArithmeticLead 25 rfl) ic_3 ?_
      refine ww_icmp_ne C 63 (dq dk_Piece_putArithmeticLead 26 rfl) (by decide) h (fun h => ?_) (fun h => ?_)
      · refine ww_iconst C (dq dk_Piece_putArithmeticLead 29 rfl) ic_1 ?_
        refine ww_iadd C (dq dk_Piece_putArithmeticLead 30 rfl) ?_
        refine ww_cVv (st := []) C (c_Piece_put v0 ho_v0 ((8 * (σ v1 0)) + 1)) cw_Piece_put ho_v0 (lt_ rfl) rfl g_3_197 hRm ⟨⟨rfl, rfl⟩, le_ rfl, le_ rfl⟩ rfl rfl rfl (le_ rfl) (dq dk_Piece_putArithmeticLead 31 rfl) h (fun σ1 h => ?_)
        exact ww_vret C hR (dq dk_Piece_putArithmeticLead 32 rfl) h
      · refine ww_iconst C (dq dk_Piece_putArithmeticLead 27 rfl) ic_3 ?_
        refine ww_goto C 64 (dq dk_Piece_putArithmeticLead 28 rfl) (by decide) ?_
        refine ww_iadd C (dq dk_Piece_putArithmeticLead 30 rfl) ?_
        refine ww_cVv (st := []) C (c_Piece_put v0 ho_v0 ((8 * (σ v1 0)) + 3)) cw_Piece_put ho_v0 (lt_ rfl) rfl g_3_197 hRm ⟨⟨rfl, rfl⟩, le_ rfl, le_ rfl⟩ rfl rfl rfl (le_ rfl) (dq dk_Piece_putArithmeticLead 31 rfl) h (fun σ2 h => ?_)
        exact ww_vret C hR (dq dk_Piece_putArithmeticLead 32 rfl) h
    · exact ww_lv [0, 1] rfl (t_Piece_putArithmeticLead_B17 C hR hRm hnL v0 v1 ho_v0 ho_v1 σ h)
abbrev y_Piece_putMovLead : MethodName := ⟨"BundleHouse$Piece", "putMovLead", "(LBundleHouse$Instruction;)V"⟩
def dl_Piece_putMovLead : List (Nat × Instr × Nat) := [(0, .aload_n 1, 1), (1, .getfield 51, 3), (4, .iconst 5, 1), (5, .if_icmp .ne 18, 3), (8, .aload_n 0, 1), (9, .sipush 184, 3), (12, .aload_n 1, 1), (13, .getfield 48, 3), (16, .iadd, 1), (17, .invokevirtual 19, 3), (20, .goto 43, 3), (23, .aload_n 1, 1), (24, .getfield 51, 3), (27, .bipush 6, 2), (29, .if_icmp .ne 13, 3), (32, .aload_n 0, 1), (33, .sipush 199, 3), (36, .invokevirtual 19, 3), (39, .goto 24, 3), (42, .aload_n 0, 1), (43, .aload_n 1, 1), (44, .getfield 51, 3), (47, .iconst 3, 1), (48, .if_icmp .ne 9, 3), (51, .sipush 139, 3), (54, .goto 6, 3), (57, .sipush 137, 3), (60, .invokevirtual 19, 3), (63, .return_, 1)]
set_option maxRecDepth 100000 in
theorem dk_Piece_putMovLead : ∀ q ∈ dl_Piece_putMovLead, decode prog_6_method_12_code q.1 = .ok q.2 := by decide +kernel
abbrev rm_Piece_putMovLead : Room := { frames := 1, cells := 0, slots := 0, locals := 21 }
theorem cw_Piece_putMovLead : CWV y_Piece_putMovLead prog_6_method_12_code 2 none 1 := ⟨⟨g_3_196, g_1_8, by decide, by decide, by decide +kernel⟩, g_3_195, gs_2_5⟩
set_option maxHeartbeats 4000000 in
set_option maxRecDepth 100000 in
theorem c_Piece_putMovLead (v0 : Nat) (ho_v0 : kd v0 = 7) (v1 : Nat) (ho_v1 : kd v1 = 4) : MV y_Piece_putMovLead rm_Piece_putMovLead prog_6_method_12_code 2 (fun a => [.ref (a v0), .ref (a v1)]) (Piece_putMovLead v0 v1) := by
  refine mv_of (by decide) (fun _ => le_ rfl) ?_
  intro k res σ C hR hRm hnL h
  unfold Piece_putMovLead at h
  show WW k 0 [(0, .ref (ad k v0)), (1, .ref (ad k v1))] [] σ
  refine ww_aload_n C 1 rfl rfl (dq dk_Piece_putMovLead 0 rfl) ?_
  refine ww_geti C ko_Instruction 1 ho_v1 (lt_ rfl) g_1_81 rfl rfl (dq dk_Piece_putMovLead 1 rfl) ?_
  refine ww_iconst C (dq dk_Piece_putMovLead 2 rfl) ic_5 ?_
  refine ww_icmp_ne C 23 (dq dk_Piece_putMovLead 3 rfl) (by decide) h (fun h => ?_) (fun h => ?_)
  · refine ww_aload_n C 1 rfl rfl (dq dk_Piece_putMovLead 11 rfl) ?_
    refine ww_geti C ko_Instruction 1 ho_v1 (lt_ rfl) g_1_81 rfl rfl (dq dk_Piece_putMovLead 12 rfl) ?_
    refine ww_bipush C (dq dk_Piece_putMovLead 13 rfl) bp_6 ?_
    refine ww_icmp_ne C 42 (dq dk_Piece_putMovLead 14 rfl) (by decide) h (fun h => ?_) (fun h => ?_)
    · refine ww_aload_n C 0 rfl rfl (dq dk_Piece_putMovLead 19 rfl) ?_
      refine ww_aload_n C 1 rfl rfl (dq dk_Piece_putMovLead 20 rfl) ?_
      refine ww_geti C ko_Instruction 1 ho_v1 (lt_ rfl) g_1_81 rfl rfl (dq dk_Piece_putMovLead 21 rfl) ?_
      refine ww_iconst C (dq dk_Piece_putMovLead 22 rfl) ic_3 ?_
      refine ww_icmp_ne C 57 (dq dk_Piece_putMovLead 23 rfl) (by decide) h (fun h => ?_) (fun h => ?_)
      · refine ww_sipush C (dq dk_Piece_putMovLead 26 rfl) sp_137 ?_
        refine ww_cVv (st := []) C (c_Piece_put v0 ho_v0 137) cw_Piece_put ho_v0 (lt_ rfl) rfl g_3_197 hRm ⟨⟨rfl, rfl⟩, le_ rfl, le_ rfl⟩ rfl rfl rfl (le_ rfl) (dq dk_Piece_putMovLead 27 rfl) h (fun σ1 h => ?_)
        exact ww_vret C hR (dq dk_Piece_putMovLead 28 rfl) h
      · refine ww_sipush C (dq dk_Piece_putMovLead 24 rfl) sp_139 ?_
        refine ww_goto C 60 (dq dk_Piece_putMovLead 25 rfl) (by decide) ?_
        refine ww_cVv (st := []) C (c_Piece_put v0 ho_v0 139) cw_Piece_put ho_v0 (lt_ rfl) rfl g_3_197 hRm ⟨⟨rfl, rfl⟩, le_ rfl, le_ rfl⟩ rfl rfl rfl (le_ rfl) (dq dk_Piece_putMovLead 27 rfl) h (fun σ2 h => ?_)
        exact ww_vret C hR (dq dk_Piece_putMovLead 28 rfl) h
    · refine ww_aload_n C 0 rfl rfl (dq dk_Piece_putMovLead 15 rfl) ?_
      refine ww_sipush C (dq dk_Piece_putMovLead 16 rfl) sp_199 ?_
      refine ww_cVv (st := []) C (c_Piece_put v0 ho_v0 199) cw_Piece_put ho_v0 (lt_ rfl) rfl g_3_197 hRm ⟨⟨rfl, rfl⟩, le_ rfl, le_ rfl⟩ rfl rfl rfl (le_ rfl) (dq dk_Piece_putMovLead 17 rfl) h (fun σ3 h => ?_)
      refine ww_goto C 63 (dq dk_Piece_putMovLead 18 rfl) (by decide) ?_
      exact ww_vret C hR (dq dk_Piece_putMovLead 28 rfl) h
  · refine ww_aload_n C 0 rfl rfl (dq dk_Piece_putMovLead 4 rfl) ?_
    refine ww_sipush C (dq dk_Piece_putMovLead 5 rfl) sp_184 ?_
    refine ww_aload_n C 1 rfl rfl (dq dk_Piece_putMovLead 6 rfl) ?_
    refine ww_geti C ko_Instruction 2 ho_v1 (lt_ rfl) g_1_87 rfl rfl (dq dk_Piece_putMovLead 7 rfl) ?_
    refine ww_iadd C (dq dk_Piece_putMovLead 8 rfl) ?_
    refine ww_cVv (st := []) C (c_Piece_put v0 ho_v0 (184 + (σ v1 2))) cw_Piece_put ho_v0 (lt_ rfl) rfl g_3_197 hRm ⟨⟨rfl, rfl⟩, le_ rfl, le_ rfl⟩ rfl rfl rfl (le_ rfl) (dq dk_Piece_putMovLead 9 rfl) h (fun σ4 h => ?_)
    refine ww_goto C 63 (dq dk_Piece_putMovLead 10 rfl) (by decide) ?_
    exact ww_vret C hR (dq dk_Piece_putMovLead 28 rfl) h
abbrev y_Piece_putLead : MethodName := ⟨"BundleHouse$Piece", "putLead", "(LBundleHouse$Instruction;)V"⟩
def dl_Piece_putLead : List (Nat × Instr × Nat) := [(0, .aload_n 1, 1), (1, .getfield 40, 3), (4, .tableswitch 227 8 22 #[76, 84, 94, 104, 120, 120, 130, 130, 130, 140, 140, 165, 140, 207, 217], 76), (80, .aload_n 0, 1), (81, .aload_n 1, 1), (82, .invokevirtual 45, 3), (85, .goto 151, 3), (88, .aload_n 0, 1), (89, .sipush 133, 3), (92, .invokevirtual 19, 3), (95, .goto 141, 3), (98, .aload_n 0, 1), (99, .sipush 141, 3), (102, .invokevirtual 19, 3), (105, .goto 131, 3), (108, .aload_n 0, 1), (109, .bipush 15, 2), (111, .invokevirtual 19, 3), (114, .aload_n 0, 1), (115, .sipush 175, 3), (118, .invokevirtual 19, 3), (121, .goto 115, 3), (124, .aload_n 0, 1), (125, .sipush 247, 3), (128, .invokevirtual 19, 3), (131, .goto 105, 3), (134, .aload_n 0, 1), (135, .sipush 193, 3), (138, .invokevirtual 19, 3), (141, .goto 95, 3), (144, .aload_n 0, 1), (145, .bipush 64, 2), (147, .bipush 8, 2), (149, .aload_n 1, 1), (150, .getfield 40, 3), (153, .bipush 17, 2), (155, .isub, 1), (156, .imul, 1), (157, .iadd, 1), (158, .aload_n 1, 1), (159, .getfield 48, 3), (162, .iadd, 1), (163, .invokevirtual 19, 3), (166, .goto 70, 3), (169, .aload_n 0, 1), (170, .aload_n 1, 1), (171, .getfield 51, 3), (174, .iconst 1, 1), (175, .if_icmp .ne 13, 3), (178, .bipush 80, 2), (180, .aload_n 1, 1), (181, .getfield 48, 3), (184, .iadd, 1), (185, .goto 20, 3), (188, .aload_n 1, 1), (189, .getfield 54, 3), (192, .invokestatic 57, 3), (195, .ifCond .eq 8, 3), (198, .bipush 106, 2), (200, .goto 5, 3), (203, .bipush 104, 2), (205, .invokevirtual 19, 3), (208, .goto 28, 3), (211, .aload_n 0, 1), (212, .sipush 144, 3), (215, .invokevirtual 19, 3), (218, .goto 18, 3), (221, .aload_n 0, 1), (222, .sipush 244, 3), (225, .invokevirtual 19, 3), (228, .goto 8, 3), (231, .aload_n 0, 1), (232, .aload_n 1, 1), (233, .invokevirtual 61, 3), (236, .return_, 1)]
set_option maxRecDepth 100000 in
theorem dk_Piece_putLead : ∀ q ∈ dl_Piece_putLead, decode prog_6_method_10_code q.1 = .ok q.2 := by decide +kernel
abbrev rm_Piece_putLead : Room := { frames := 2, cells := 0, slots := 0, locals := 42 }
theorem cw_Piece_putLead : CWV y_Piece_putLead prog_6_method_10_code 2 none 1 := ⟨⟨g_3_192, g_1_8, by decide, by decide, by decide +kernel⟩, g_3_191, gs_2_4⟩
set_option maxHeartbeats 4000000 in
set_option maxRecDepth 100000 in
theorem t_Piece_putLead_B144 {k : Cfg} {res : St} (C : Cx k prog_6_method_10_code "BundleHouse$Piece") (hR : RV k res) (hRm : k.2.2.2.1 = rm_Piece_putLead) (hnL : k.2.2.2.2.2.2.2.2.2.2.2.1 = 2) (v0 : Nat) (v1 : Nat) (ho_v0 : kd v0 = 7) (ho_v1 : kd v1 = 4) (σ : St) (h : Piece_putLead_B144 v0 v1 σ = some res) : WW k 144 [(0, .ref (ad k v0)), (1, .ref (ad k v1))] [] σ := by
  unfold Piece_putLead_B144 at h
  refine ww_aload_n C 0 rfl rfl (dq dk_Piece_putLead 30 rfl) ?_
  refine ww_bipush C (dq dk_Piece_putLead 31 rfl) bp_64 ?_
  refine ww_bipush C (dq dk_Piece_putLead 32 rfl) bp_8 ?_
  refine ww_aload_n C 1 rfl rfl (dq dk_Piece_putLead 33 rfl) ?_
  refine ww_geti C ko_Instruction 0 ho_v1 (lt_ rfl) g_1_75 rfl rfl (dq dk_Piece_putLead 34 rfl) ?_
  refine ww_bipush C (dq dk_Piece_putLead 35 rfl) bp_17 ?_
  refine ww_isub C (dq dk_Piece_putLead 36 rfl) ?_
  refine ww_imul C (dq dk_Piece_putLead 37 rfl) ?_
  refine ww_iadd C (dq dk_Piece_putLead 38 rfl) ?_
  refine ww_aload_n C 1 rfl rfl (dq dk_Piece_putLead 39 rfl) ?_
  refine ww_geti C ko_Instruction 2 ho_v1 (lt_ rfl) g_1_87 rfl rfl (dq dk_Piece_putLead 40 rfl) ?_
  refine ww_iadd C (dq dk_Piece_putLead 41 rfl) ?_
  refine ww_cVv (st := []) C (c_Piece_put v0 ho_v0 ((64 + (8 * ((σ v1 0) - 17))) + (σ v1 2))) cw_Piece_put ho_v0 (lt_ rfl) rfl g_3_197 hRm ⟨⟨rfl, rfl⟩, le_ rfl, le_ rfl⟩ rfl rfl rfl (le_ rfl) (dq dk_Piece_putLead 42 rfl) h (fun σ1 h => ?_)
  refine ww_goto C 236 (dq dk_Piece_putLead 43 rfl) (by decide) ?_
  exact ww_vret C hR (dq dk_Piece_putLead 74 rfl) h
set_option maxHeartbeats 4000000 in
set_option maxRecDepth 100000 in
theorem c_Piece_putLead (v0 : Nat) (ho_v0 : kd v0 = 7) (v1 : Nat) (ho_v1 : kd v1 = 4) : MV y_Piece_putLead rm_Piece_putLead prog_6_method_10_code 2 (fun a => [.ref (a v0), .ref (a v1)]) (Piece_putLead v0 v1) := by
  refine mv_of (by decide) (fun _ => le_ rfl) ?_
  intro k res σ C hR hRm hnL h
  unfold Piece_putLead at h
  show WW k 0 [(0, .ref (ad k v0)), (1, .ref (ad k v1))] [] σ
  refine ww_aload_n C 1 rfl rfl (dq dk_Piece_putLead 0 rfl) ?_
  refine ww_geti C ko_Instruction 0 ho_v1 (lt_ rfl) g_1_75 rfl rfl (dq dk_Piece_putLead 1 rfl) ?_
  refine ww_nmi h (fun x1 h => ?_)
  by_cases e0_8 : x1 = 8
  · rw [if_pos e0_8] at h
    refine ww_tabIn C 80 (dq dk_Piece_putLead 2 rfl) (by rw [e0_8]; decide) (by rw [e0_8]; decide) (by rw [e0_8]; rfl) (by decide) ?_
    refine ww_aload_n C 0 rfl rfl (dq dk_Piece_putLead 3 rfl) ?_
    refine ww_aload_n C 1 rfl rfl (dq dk_Piece_putLead 4 rfl) ?_
    refine ww_cVv (st := []) C (c_Piece_putMovLead v0 ho_v0 v1 ho_v1) cw_Piece_putMovLead ho_v0 (lt_ rfl) rfl g_3_193 hRm ⟨⟨rfl, rfl⟩, le_ rfl, le_ rfl⟩ rfl rfl rfl (le_ rfl) (dq dk_Piece_putLead 5 rfl) h (fun σ2 h => ?_)
    refine ww_goto C 236 (dq dk_Piece_putLead 6 rfl) (by decide) ?_
    exact ww_vret C hR (dq dk_Piece_putLead 74 rfl) h
  rw [if_neg e0_8] at h
  by_cases e1_9 : x1 = 9
  · rw [if_pos e1_9] at h
    refine ww_tabIn C 88 (dq dk_Piece_putLead 2 rfl) (by rw [e1_9]; decide) (by rw [e1_9]; decide) (by rw [e1_9]; rfl) (by decide) ?_
    refine ww_aload_n C 0 rfl rfl (dq dk_Piece_putLead 7 rfl) ?_
    refine ww_sipush C (dq dk_Piece_putLead 8 rfl) sp_133 ?_
    refine ww_cVv (st := []) C (c_Piece_put v0 ho_v0 133) cw_Piece_put ho_v0 (lt_ rfl) rfl g_3_197 hRm ⟨⟨rfl, rfl⟩, le_ rfl, le_ rfl⟩ rfl rfl rfl (le_ rfl) (dq dk_Piece_putLead 9 rfl) h (fun σ3 h => ?_)
    refine ww_goto C 236 (dq dk_Piece_putLead 10 rfl) (by decide) ?_
    exact ww_vret C hR (dq dk_Piece_putLead 74 rfl) h
  rw [if_neg e1_9] at h
  by_cases e2_10 : x1 = 10
  · rw [if_pos e2_10] at h
    refine ww_tabIn C 98 (dq dk_Piece_putLead 2 rfl) (by rw [e2_10]; decide) (by rw [e2_10]; decide) (by rw [e2_10]; rfl) (by decide) ?_
    refine ww_aload_n C 0 rfl rfl (dq dk_Piece_putLead 11 rfl) ?_
    refine ww_sipush C (dq dk_Piece_putLead 12 rfl) sp_141 ?_
    refine ww_cVv (st := []) C (c_Piece_put v0 ho_v0 141) cw_Piece_put ho_v0 (lt_ rfl) rfl g_3_197 hRm ⟨⟨rfl, rfl⟩, le_ rfl, le_ rfl⟩ rfl rfl rfl (le_ rfl) (dq dk_Piece_putLead 13 rfl) h (fun σ4 h => ?_)
    refine ww_goto C 236 (dq dk_Piece_putLead 14 rfl) (by decide) ?_
    exact ww_vret C hR (dq dk_Piece_putLead 74 rfl) h
  rw [if_neg e2_10] at h
  by_cases e3_11 : x1 = 11
  · rw [if_pos e3_11] at h
    refine ww_tabIn C 108 (dq dk_Piece_putLead 2 rfl) (by rw [e3_11]; decide) (by rw [e3_11]; decide) (by rw [e3_11]; rfl) (by decide) ?_
    refine ww_aload_n C 0 rfl rfl (dq dk_Piece_putLead 15 rfl) ?_
    refine ww_bipush C (dq dk_Piece_putLead 16 rfl) bp_15 ?_
    refine ww_cVv (st := []) C (c_Piece_put v0 ho_v0 15) cw_Piece_put ho_v0 (lt_ rfl) rfl g_3_197 hRm ⟨⟨rfl, rfl⟩, le_ rfl, le_ rfl⟩ rfl rfl rfl (le_ rfl) (dq dk_Piece_putLead 17 rfl) h (fun σ5 h => ?_)
    refine ww_aload_n C 0 rfl rfl (dq dk_Piece_putLead 18 rfl) ?_
    refine ww_sipush C (dq dk_Piece_putLead 19 rfl) sp_175 ?_
    refine ww_cVv (st := []) C (c_Piece_put v0 ho_v0 175) cw_Piece_put ho_v0 (lt_ rfl) rfl g_3_197 hRm ⟨⟨rfl, rfl⟩, le_ rfl, le_ rfl⟩ rfl rfl rfl (le_ rfl) (dq dk_Piece_putLead 20 rfl) h (fun σ6 h => ?_)
    refine ww_goto C 236 (dq dk_Piece_putLead 21 rfl) (by decide) ?_
    exact ww_vret C hR (dq dk_Piece_putLead 74 rfl) h
  rw [if_neg e3_11] at h
  by_cases e4_12 : x1 = 12
  · rw [if_pos e4_12] at h
    refine ww_tabIn C 124 (dq dk_Piece_putLead 2 rfl) (by rw [e4_12]; decide) (by rw [e4_12]; decide) (by rw [e4_12]; rfl) (by decide) ?_
    refine ww_aload_n C 0 rfl rfl (dq dk_Piece_putLead 22 rfl) ?_
    refine ww_sipush C (dq dk_Piece_putLead 23 rfl) sp_247 ?_
    refine ww_cVv (st := []) C (c_Piece_put v0 ho_v0 247) cw_Piece_put ho_v0 (lt_ rfl) rfl g_3_197 hRm ⟨⟨rfl, rfl⟩, le_ rfl, le_ rfl⟩ rfl rfl rfl (le_ rfl) (dq dk_Piece_putLead 24 rfl) h (fun σ7 h => ?_)
    refine ww_goto C 236 (dq dk_Piece_putLead 25 rfl) (by decide) ?_
    exact ww_vret C hR (dq dk_Piece_putLead 74 rfl) h
  rw [if_neg e4_12] at h
  by_cases e5_13 : x1 = 13
  · rw [if_pos e5_13] at h
    refine ww_tabIn C 124 (dq dk_Piece_putLead 2 rfl) (by rw [e5_13]; decide) (by rw [e5_13]; decide) (by rw [e5_13]; rfl) (by decide) ?_
    refine ww_aload_n C 0 rfl rfl (dq dk_Piece_putLead 22 rfl) ?_
    refine ww_sipush C (dq dk_Piece_putLead 23 rfl) sp_247 ?_
    refine ww_cVv (st := []) C (c_Piece_put v0 ho_v0 247) cw_Piece_put ho_v0 (lt_ rfl) rfl g_3_197 hRm ⟨⟨rfl, rfl⟩, le_ rfl, le_ rfl⟩ rfl rfl rfl (le_ rfl) (dq dk_Piece_putLead 24 rfl) h (fun σ8 h => ?_)
    refine ww_goto C 236 (dq dk_Piece_putLead 25 rfl) (by decide) ?_
    exact ww_vret C hR (dq dk_Piece_putLead 74 rfl) h
  rw [if_neg e5_13] at h
  by_cases e6_14 : x1 = 14
  · rw [if_pos e6_14] at h
    refine ww_tabIn C 134 (dq dk_Piece_putLead 2 rfl) (by rw [e6_14]; decide) (by rw [e6_14]; decide) (by rw [e6_14]; rfl) (by decide) ?_
    refine ww_aload_n C 0 rfl rfl (dq dk_Piece_putLead 26 rfl) ?_
    refine ww_sipush C (dq dk_Piece_putLead 27 rfl) sp_193 ?_
    refine ww_cVv (st := []) C (c_Piece_put v0 ho_v0 193) cw_Piece_put ho_v0 (lt_ rfl) rfl g_3_197 hRm ⟨⟨rfl, rfl⟩, le_ rfl, le_ rfl⟩ rfl rfl rfl (le_ rfl) (dq dk_Piece_putLead 28 rfl) h (fun σ9 h => ?_)
    refine ww_goto C 236 (dq dk_Piece_putLead 29 rfl) (by decide) ?_
    exact ww_vret C hR (dq dk_Piece_putLead 74 rfl) h
  rw [if_neg e6_14] at h
  by_cases e7_15 : x1 = 15
  · rw [if_pos e7_15] at h
    refine ww_tabIn C 134 (dq dk_Piece_putLead 2 rfl) (by rw [e7_15]; decide) (by rw [e7_15]; decide) (by rw [e7_15]; rfl) (by decide) ?_
    refine ww_aload_n C 0 rfl rfl (dq dk_Piece_putLead 26 rfl) ?_
    refine ww_sipush C (dq dk_Piece_putLead 27 rfl) sp_193 ?_
    refine ww_cVv (st := []) C (c_Piece_put v0 ho_v0 193) cw_Piece_put ho_v0 (lt_ rfl) rfl g_3_197 hRm ⟨⟨rfl, rfl⟩, le_ rfl, le_ rfl⟩ rfl rfl rfl (le_ rfl) (dq dk_Piece_putLead 28 rfl) h (fun σ10 h => ?_)
    refine ww_goto C 236 (dq dk_Piece_putLead 29 rfl) (by decide) ?_
    exact ww_vret C hR (dq dk_Piece_putLead 74 rfl) h
  rw [if_neg e7_15] at h
  by_cases e8_16 : x1 = 16
  · rw [if_pos e8_16] at h
    refine ww_tabIn C 134 (dq dk_Piece_putLead 2 rfl) (by rw [e8_16]; decide) (by rw [e8_16]; decide) (by rw [e8_16]; rfl) (by decide) ?_
    refine ww_aload_n C 0 rfl rfl (dq dk_Piece_putLead 26 rfl) ?_
    refine ww_sipush C (dq dk_Piece_putLead 27 rfl) sp_193 ?_
    refine ww_cVv (st := []) C (c_Piece_put v0 ho_v0 193) cw_Piece_put ho_v0 (lt_ rfl) rfl g_3_197 hRm ⟨⟨rfl, rfl⟩, le_ rfl, le_ rfl⟩ rfl rfl rfl (le_ rfl) (dq dk_Piece_putLead 28 rfl) h (fun σ11 h => ?_)
    refine ww_goto C 236 (dq dk_Piece_putLead 29 rfl) (by decide) ?_
    exact ww_vret C hR (dq dk_Piece_putLead 74 rfl) h
  rw [if_neg e8_16] at h
  by_cases e9_17 : x1 = 17
  · rw [if_pos e9_17] at h
    refine ww_tabIn C 144 (dq dk_Piece_putLead 2 rfl) (by rw [e9_17]; decide) (by rw [e9_17]; decide) (by rw [e9_17]; rfl) (by decide) ?_
    exact ww_lv [0, 1] rfl (t_Piece_putLead_B144 C hR hRm hnL v0 v1 ho_v0 ho_v1 σ h)
  rw [if_neg e9_17] at h
  by_cases e10_18 : x1 = 18
  · rw [if_pos e10_18] at h
    refine ww_tabIn C 144 (dq dk_Piece_putLead 2 rfl) (by rw [e10_18]; decide) (by rw [e10_18]; decide) (by rw [e10_18]; rfl) (by decide) ?_
    exact ww_lv [0, 1] rfl (t_Piece_putLead_B144 C hR hRm hnL v0 v1 ho_v0 ho_v1 σ h)
  rw [if_neg e10_18] at h
  by_cases e11_19 : x1 = 19
  · rw [if_pos e11_19] at h
    refine ww_tabIn C 169 (dq dk_Piece_putLead 2 rfl) (by rw [e11_19]; decide) (by rw [e11_19]; decide) (by rw [e11_19]; rfl) (by decide) ?_
    refine ww_aload_n C 0 rfl rfl (dq dk_Piece_putLead 44 rfl) ?_
    refine ww_aload_n C 1 rfl rfl (dq dk_Piece_putLead 45 rfl) ?_
    refine ww_geti C ko_Instruction 1 ho_v1 (lt_ rfl) g_1_81 rfl rfl (dq dk_Piece_putLead 46 rfl) ?_
    refine ww_iconst C (dq dk_Piece_putLead 47 rfl) ic_1 ?_
    refine ww_icmp_ne C 188 (dq dk_Piece_putLead 48 rfl) (by decide) h (fun h => ?_) (fun h => ?_)
    · refine ww_aload_n C 1 rfl rfl (dq dk_Piece_putLead 54 rfl) ?_
      refine ww_geti C ko_Instruction 5 ho_v1 (lt_ rfl) g_1_101 rfl rfl (dq dk_Piece_putLead 55 rfl) ?_
      refine ww_cNi (st := [.ref (ad k v0)]) C (c_House_isSmall (σ v1 5)) cw_House_isSmall nw_11 hRm ⟨⟨rfl, rfl⟩, le_ rfl, le_ rfl⟩ rfl rfl rfl (le_ rfl) (dq dk_Piece_putLead 56 rfl) h (fun x13 σ12 h => ?_)
      refine ww_if_eq C 203 (dq dk_Piece_putLead 57 rfl) (by decide) h (fun h => ?_) (fun h => ?_)
      · refine ww_bipush C (dq dk_Piece_putLead 60 rfl) bp_104 ?_
        refine ww_cVv (st := []) C (c_Piece_put v0 ho_v0 104) cw_Piece_put ho_v0 (lt_ rfl) rfl g_3_197 hRm ⟨⟨rfl, rfl⟩, le_ rfl, le_ rfl⟩ rfl rfl rfl (le_ rfl) (dq dk_Piece_putLead 61 rfl) h (fun σ14 h => ?_)
        refine ww_goto C 236 (dq dk_Piece_putLead 62 rfl) (by decide) ?_
        exact ww_vret C hR (dq dk_Piece_putLead 74 rfl) h
      · refine ww_bipush C (dq dk_Piece_putLead 58 rfl) bp_106 ?_
        refine ww_goto C 205 (dq dk_Piece_putLead 59 rfl) (by decide) ?_
        refine ww_cVv (st := []) C (c_Piece_put v0 ho_v0 106) cw_Piece_put ho_v0 (lt_ rfl) rfl g_3_197 hRm ⟨⟨rfl, rfl⟩, le_ rfl, le_ rfl⟩ rfl rfl rfl (le_ rfl) (dq dk_Piece_putLead 61 rfl) h (fun σ15 h => ?_)
        refine ww_goto C 236 (dq dk_Piece_putLead 62 rfl) (by decide) ?_
        exact ww_vret C hR (dq dk_Piece_putLead 74 rfl) h
    · refine ww_bipush C (dq dk_Piece_putLead 49 rfl) bp_80 ?_
      refine ww_aload_n C 1 rfl rfl (dq dk_Piece_putLead 50 rfl) ?_
      refine ww_geti C ko_Instruction 2 ho_v1 (lt_ rfl) g_1_87 rfl rfl (dq dk_Piece_putLead 51 rfl) ?_
      refine ww_iadd C (dq dk_Piece_putLead 52 rfl) ?_
      refine ww_goto C 205 (dq dk_Piece_putLead 53 rfl) (by decide) ?_
      refine ww_cVv (st := []) C (c_Piece_put v0 ho_v0 (80 + (σ v1 2))) cw_Piece_put ho_v0 (lt_ rfl) rfl g_3_197 hRm ⟨⟨rfl, rfl⟩, le_ rfl, le_ rfl⟩ rfl rfl rfl (le_ rfl) (dq dk_Piece_putLead 61 rfl) h (fun σ16 h => ?_)
      refine ww_goto C 236 (dq dk_Piece_putLead 62 rfl) (by decide) ?_
      exact ww_vret C hR (dq dk_Piece_putLead 74 rfl) h
  rw [if_neg e11_19] at h
  by_cases e12_20 : x1 = 20
  · rw [if_pos e12_20] at h
    refine ww_tabIn C 144 (dq dk_Piece_putLead 2 rfl) (by rw [e12_20]; decide) (by rw [e12_20]; decide) (by rw [e12_20]; rfl) (by decide) ?_
    exact ww_lv [0, 1] rfl (t_Piece_putLead_B144 C hR hRm hnL v0 v1 ho_v0 ho_v1 σ h)
  rw [if_neg e12_20] at h
  by_cases e13_21 : x1 = 21
  · rw [if_pos e13_21] at h
    refine ww_tabIn C 211 (dq dk_Piece_putLead 2 rfl) (by rw [e13_21]; decide) (by rw [e13_21]; decide) (by rw [e13_21]; rfl) (by decide) ?_
    refine ww_aload_n C 0 rfl rfl (dq dk_Piece_putLead 63 rfl) ?_
    refine ww_sipush C (dq dk_Piece_putLead 64 rfl) sp_144 ?_
    refine ww_cVv (st := []) C (c_Piece_put v0 ho_v0 144) cw_Piece_put ho_v0 (lt_ rfl) rfl g_3_197 hRm ⟨⟨rfl, rfl⟩, le_ rfl, le_ rfl⟩ rfl rfl rfl (le_ rfl) (dq dk_Piece_putLead 65 rfl) h (fun σ17 h => ?_)
    refine ww_goto C 236 (dq dk_Piece_putLead 66 rfl) (by decide) ?_
    exact ww_vret C hR (dq dk_Piece_putLead 74 rfl) h
  rw [if_neg e13_21] at h
  by_cases e14_22 : x1 = 22
  · rw [if_pos e14_22] at h
    refine ww_tabIn C 221 (dq dk_Piece_putLead 2 rfl) (by rw [e14_22]; decide) (by rw [e14_22]; decide) (by rw [e14_22]; rfl) (by decide) ?_
    refine ww_aload_n C 0 rfl rfl (dq dk_Piece_putLead 67 rfl) ?_
    refine ww_sipush C (dq dk_Piece_putLead 68 rfl) sp_244 ?_
    refine ww_cVv (st := []) C (c_Piece_put v0 ho_v0 244) cw_Piece_put ho_v0 (lt_ rfl) rfl g_3_197 hRm ⟨⟨rfl, rfl⟩, le_ rfl, le_ rfl⟩ rfl rfl rfl (le_ rfl) (dq dk_Piece_putLead 69 rfl) h (fun σ18 h => ?_)
    refine ww_goto C 236 (dq dk_Piece_putLead 70 rfl) (by decide) ?_
    exact ww_vret C hR (dq dk_Piece_putLead 74 rfl) h
  rw [if_neg e14_22] at h
  have ne0_8 := lv_neT (a := 8) e0_8 (by decide)
  have ne1_9 := lv_neT (a := 9) e1_9 (by decide)
  have ne2_10 := lv_neT (a := 10) e2_10 (by decide)
  have ne3_11 := lv_neT (a := 11) e3_11 (by decide)
  have ne4_12 := lv_neT (a := 12) e4_12 (by decide)
  have ne5_13 := lv_neT (a := 13) e5_13 (by decide)
  have ne6_14 := lv_neT (a := 14) e6_14 (by decide)
  have ne7_15 := lv_neT (a := 15) e7_15 (by decide)
  have ne8_16 := lv_neT (a := 16) e8_16 (by decide)
  have ne9_17 := lv_neT (a := 17) e9_17 (by decide)
  have ne10_18 := lv_neT (a := 18) e10_18 (by decide)
  have ne11_19 := lv_neT (a := 19) e11_19 (by decide)
  have ne12_20 := lv_neT (a := 20) e12_20 (by decide)
  have ne13_21 := lv_neT (a := 21) e13_21 (by decide)
  have ne14_22 := lv_neT (a := 22) e14_22 (by decide)
  refine ww_tabOut C 231 (dq dk_Piece_putLead 2 rfl) (by omega) (by decide) ?_
  refine ww_aload_n C 0 rfl rfl (dq dk_Piece_putLead 71 rfl) ?_
  refine ww_aload_n C 1 rfl rfl (dq dk_Piece_putLead 72 rfl) ?_
  refine ww_cVv (st := []) C (c_Piece_putArithmeticLead v0 ho_v0 v1 ho_v1) cw_Piece_putArithmeticLead ho_v0 (lt_ rfl) rfl g_3_204 hRm ⟨⟨rfl, rfl⟩, le_ rfl, le_ rfl⟩ rfl rfl rfl (le_ rfl) (dq dk_Piece_putLead 73 rfl) h (fun σ19 h => ?_)
  exact ww_vret C hR (dq dk_Piece_putLead 74 rfl) h
abbrev y_House_isMemoryForm : MethodName := ⟨"BundleHouse", "isMemoryForm", "(I)Z"⟩
def dl_House_isMemoryForm : List (Nat × Instr × Nat) := [(0, .iload_n 0, 1), (1, .iconst 3, 1), (2, .if_icmp .eq 20, 3), (5, .iload_n 0, 1), (6, .iconst 4, 1), (7, .if_icmp .eq 15, 3), (10, .iload_n 0, 1), (11, .bipush 6, 2), (13, .if_icmp .eq 9, 3), (16, .iload_n 0, 1), (17, .bipush 7, 2), (19, .if_icmp .ne 7, 3), (22, .iconst 1, 1), (23, .goto 4, 3), (26, .iconst 0, 1), (27, .ireturn, 1)]
set_option maxRecDepth 100000 in
theorem dk_House_isMemoryForm : ∀ q ∈ dl_House_isMemoryForm, decode prog_1_method_27_code q.1 = .ok q.2 := by decide +kernel
abbrev rm_House_isMemoryForm : Room := { frames := 0, cells := 0, slots := 0, locals := 0 }
theorem cw_House_isMemoryForm : CWS y_House_isMemoryForm prog_1_method_27_code 1 (some .boolean) 1 := ⟨⟨g_3_115, g_1_1, by decide, by decide, by decide +kernel⟩, g_3_114⟩
set_option maxHeartbeats 4000000 in
set_option maxRecDepth 100000 in
theorem c_House_isMemoryForm (v0 : Int32) : MI y_House_isMemoryForm rm_House_isMemoryForm prog_1_method_27_code 1 .boolean (fun a => [.int v0]) (House_isMemoryForm v0) := by
  refine mi_of (by decide) (fun _ => le_ rfl) ?_
  intro k res σ C hR hRm hnL h
  unfold House_isMemoryForm at h
  show WW k 0 [(0, .int v0)] [] σ
  refine ww_iload_n C 0 rfl rfl (dq dk_House_isMemoryForm 0 rfl) ?_
  refine ww_iconst C (dq dk_House_isMemoryForm 1 rfl) ic_3 ?_
  refine ww_icmp_eq C 22 (dq dk_House_isMemoryForm 2 rfl) (by decide) h (fun h => ?_) (fun h => ?_)
  · refine ww_iconst C (dq dk_House_isMemoryForm 12 rfl) ic_1 ?_
    refine ww_goto C 27 (dq dk_House_isMemoryForm 13 rfl) (by decide) ?_
    exact ww_zretL C hR (dq dk_House_isMemoryForm 15 rfl) (Or.inr rfl) h
  · refine ww_iload_n C 0 rfl rfl (dq dk_House_isMemoryForm 3 rfl) ?_
    refine ww_iconst C (dq dk_House_isMemoryForm 4 rfl) ic_4 ?_
    refine ww_icmp_eq C 22 (dq dk_House_isMemoryForm 5 rfl) (by decide) h (fun h => ?_) (fun h => ?_)
    · refine ww_iconst C (dq dk_House_isMemoryForm 12 rfl) ic_1 ?_
      refine ww_goto C 27 (dq dk_House_isMemoryForm 13 rfl) (by decide) ?_
      exact ww_zretL C hR (dq dk_House_isMemoryForm 15 rfl) (Or.inr rfl) h
    · refine ww_iload_n C 0 rfl rfl (dq dk_House_isMemoryForm 6 rfl) ?_
      refine ww_bipush C (dq dk_House_isMemoryForm 7 rfl) bp_6 ?_
      refine ww_icmp_eq C 22 (dq dk_House_isMemoryForm 8 rfl) (by decide) h (fun h => ?_) (fun h => ?_)
      · refine ww_iconst C (dq dk_House_isMemoryForm 12 rfl) ic_1 ?_
        refine ww_goto C 27 (dq dk_House_isMemoryForm 13 rfl) (by decide) ?_
        exact ww_zretL C hR (dq dk_House_isMemoryForm 15 rfl) (Or.inr rfl) h
      · refine ww_iload_n C 0 rfl rfl (dq dk_House_isMemoryForm 9 rfl) ?_
        refine ww_bipush C (dq dk_House_isMemoryForm 10 rfl) bp_7 ?_
        refine ww_icmp_ne C 26 (dq dk_House_isMemoryForm 11 rfl) (by decide) h (fun h => ?_) (fun h => ?_)
        · refine ww_iconst C (dq dk_House_isMemoryForm 14 rfl) ic_0 ?_
          exact ww_zretL C hR (dq dk_House_isMemoryForm 15 rfl) (Or.inl rfl) h
        · refine ww_iconst C (dq dk_House_isMemoryForm 12 rfl) ic_1 ?_
          refine ww_goto C 27 (dq dk_House_isMemoryForm 13 rfl) (by decide) ?_
          exact ww_zretL C hR (dq dk_House_isMemoryForm 15 rfl) (Or.inr rfl) h
abbrev y_Piece_middleOf : MethodName := ⟨"BundleHouse$Piece", "middleOf", "(LBundleHouse$Instruction;)I"⟩
def dl_Piece_middleOf : List (Nat × Instr × Nat) := [(0, .aload_n 0, 1), (1, .getfield 51, 3), (4, .iconst 2, 1), (5, .if_icmp .ne 24, 3), (8, .aload_n 0, 1), (9, .getfield 40, 3), (12, .bipush 11, 2), (14, .if_icmp .ne 10, 3), (17, .aload_n 0, 1), (18, .getfield 48, 3), (21, .goto 7, 3), (24, .aload_n 0, 1), (25, .getfield 64, 3), (28, .ireturn, 1), (29, .aload_n 0, 1), (30, .getfield 51, 3), (33, .iconst 3, 1), (34, .if_icmp .eq 11, 3), (37, .aload_n 0, 1), (38, .getfield 51, 3), (41, .iconst 4, 1), (42, .if_icmp .ne 8, 3), (45, .aload_n 0, 1), (46, .getfield 48, 3), (49, .ireturn, 1), (50, .aload_n 0, 1), (51, .getfield 40, 3), (54, .tableswitch 63 8 16 #[50, 63, 63, 63, 52, 54, 56, 58, 60], 50), (104, .iconst 0, 1), (105, .ireturn, 1), (106, .iconst 2, 1), (107, .ireturn, 1), (108, .iconst 3, 1), (109, .ireturn, 1), (110, .iconst 4, 1), (111, .ireturn, 1), (112, .iconst 5, 1), (113, .ireturn, 1), (114, .bipush 7, 2), (116, .ireturn, 1), (117, .aload_n 0, 1), (118, .getfield 40, 3), (121, .ireturn, 1)]
set_option maxRecDepth 100000 in
theorem dk_Piece_middleOf : ∀ q ∈ dl_Piece_middleOf, decode prog_6_method_14_code q.1 = .ok q.2 := by decide +kernel
abbrev rm_Piece_middleOf : Room := { frames := 0, cells := 0, slots := 0, locals := 0 }
theorem cw_Piece_middleOf : CWS y_Piece_middleOf prog_6_method_14_code 1 (some .int) 1 := ⟨⟨g_3_217, g_1_8, by decide, by decide, by decide +kernel⟩, g_3_216⟩
set_option maxHeartbeats 4000000 in
set_option maxRecDepth 100000 in
theorem c_Piece_middleOf (v0 : Nat) (ho_v0 : kd v0 = 4) : MI y_Piece_middleOf rm_Piece_middleOf prog_6_method_14_code 1 .int (fun a => [.ref (a v0)]) (Piece_middleOf v0) := by
  refine mi_of (by decide) (fun _ => le_ rfl) ?_
  intro k res σ C hR hRm hnL h
  unfold Piece_middleOf at h
  show WW k 0 [(0, .ref (ad k v0))] [] σ
  refine ww_aload_n C 0 rfl rfl (dq dk_Piece_middleOf 0 rfl) ?_
  refine ww_geti C ko_Instruction 1 ho_v0 (lt_ rfl) g_1_81 rfl rfl (dq dk_Piece_middleOf 1 rfl) ?_
  refine ww_iconst C (dq dk_Piece_middleOf 2 rfl) ic_2 ?_
  refine ww_icmp_ne C 29 (dq dk_Piece_middleOf 3 rfl) (by decide) h (fun h => ?_) (fun h => ?_)
  · refine ww_aload_n C 0 rfl rfl (dq dk_Piece_middleOf 14 rfl) ?_
    refine ww_geti C ko_Instruction 1 ho_v0 (lt_ rfl) g_1_81 rfl rfl (dq dk_Piece_middleOf 15 rfl) ?_
    refine ww_iconst C (dq dk_Piece_middleOf 16 rfl) ic_3 ?_
    refine ww_icmp_eq C 45 (dq dk_Piece_middleOf 17 rfl) (by decide) h (fun h => ?_) (fun h => ?_)
    · refine ww_aload_n C 0 rfl rfl (dq dk_Piece_middleOf 22 rfl) ?_
      refine ww_geti C ko_Instruction 2 ho_v0 (lt_ rfl) g_1_87 rfl rfl (dq dk_Piece_middleOf 23 rfl) ?_
      exact ww_iret C hR (dq dk_Piece_middleOf 24 rfl) h
    · refine ww_aload_n C 0 rfl rfl (dq dk_Piece_middleOf 18 rfl) ?_
      refine ww_geti C ko_Instruction 1 ho_v0 (lt_ rfl) g_1_81 rfl rfl (dq dk_Piece_middleOf 19 rfl) ?_
      refine ww_iconst C (dq dk_Piece_middleOf 20 rfl) ic_4 ?_
      refine ww_icmp_ne C 50 (dq dk_Piece_middleOf 21 rfl) (by decide) h (fun h => ?_) (fun h => ?_)
      · refine ww_aload_n C 0 rfl rfl (dq dk_Piece_middleOf 25 rfl) ?_
        refine ww_geti C ko_Instruction 0 ho_v0 (lt_ rfl) g_1_75 rfl rfl (dq dk_Piece_middleOf 26 rfl) ?_
        refine ww_nmi h (fun x1 h => ?_)
        by_cases e0_8 : x1 = 8
        · rw [if_pos e0_8] at h
          refine ww_tabIn C 104 (dq dk_Piece_middleOf 27 rfl) (by rw [e0_8]; decide) (by rw [e0_8]; decide) (by rw [e0_8]; rfl) (by decide) ?_
          refine ww_iconst C (dq dk_Piece_middleOf 28 rfl) ic_0 ?_
          exact ww_iret C hR (dq dk_Piece_middleOf 29 rfl) h
        rw [if_neg e0_8] at h
        by_cases e1_9 : x1 = 9
        · rw [if_pos e1_9] at h
          refine ww_tabIn C 117 (dq dk_Piece_middleOf 27 rfl) (by rw [e1_9]; decide) (by rw [e1_9]; decide) (by rw [e1_9]; rfl) (by decide) ?_
          refine ww_aload_n C 0 rfl rfl (dq dk_Piece_middleOf 40 rfl) ?_
          refine ww_geti C ko_Instruction 0 ho_v0 (lt_ rfl) g_1_75 rfl rfl (dq dk_Piece_middleOf 41 rfl) ?_
          exact ww_iret C hR (dq dk_Piece_middleOf 42 rfl) h
        rw [if_neg e1_9] at h
        by_cases e2_10 : x1 = 10
        · rw [if_pos e2_10] at h
          refine ww_tabIn C 117 (dq dk_Piece_middleOf 27 rfl) (by rw [e2_10]; decide) (by rw [e2_10]; decide) (by rw [e2_10]; rfl) (by decide) ?_
          refine ww_aload_n C 0 rfl rfl (dq dk_Piece_middleOf 40 rfl) ?_
          refine ww_geti C ko_Instruction 0 ho_v0 (lt_ rfl) g_1_75 rfl rfl (dq dk_Piece_middleOf 41 rfl) ?_
          exact ww_iret C hR (dq dk_Piece_middleOf 42 rfl) h
        rw [if_neg e2_10] at h
        by_cases e3_11 : x1 = 11
        · rw [if_pos e3_11] at h
          refine ww_tabIn C 117 (dq dk_Piece_middleOf 27 rfl) (by rw [e3_11]; decide) (by rw [e3_11]; decide) (by rw [e3_11]; rfl) (by decide) ?_
          refine ww_aload_n C 0 rfl rfl (dq dk_Piece_middleOf 40 rfl) ?_
          refine ww_geti C ko_Instruction 0 ho_v0 (lt_ rfl) g_1_75 rfl rfl (dq dk_Piece_middleOf 41 rfl) ?_
          exact ww_iret C hR (dq dk_Piece_middleOf 42 rfl) h
        rw [if_neg e3_11] at h
        by_cases e4_12 : x1 = 12
        · rw [if_pos e4_12] at h
          refine ww_tabIn C 106 (dq dk_Piece_middleOf 27 rfl) (by rw [e4_12]; decide) (by rw [e4_12]; decide) (by rw [e4_12]; rfl) (by decide) ?_
          refine ww_iconst C (dq dk_Piece_middleOf 30 rfl) ic_2 ?_
          exact ww_iret C hR (dq dk_Piece_middleOf 31 rfl) h
        rw [if_neg e4_12] at h
        by_cases e5_13 : x1 = 13
        · rw [if_pos e5_13] at h
          refine ww_tabIn C 108 (dq dk_Piece_middleOf 27 rfl) (by rw [e5_13]; decide) (by rw [e5_13]; decide) (by rw [e5_13]; rfl) (by decide) ?_
          refine ww_iconst C (dq dk_Piece_middleOf 32 rfl) ic_3 ?_
          exact ww_iret C hR (dq dk_Piece_middleOf 33 rfl) h
        rw [if_neg e5_13] at h
        by_cases e6_14 : x1 = 14
        · rw [if_pos e6_14] at h
          refine ww_tabIn C 110 (dq dk_Piece_middleOf 27 rfl) (by rw [e6_14]; decide) (by rw [e6_14]; decide) (by rw [e6_14]; rfl) (by decide) ?_
          refine ww_iconst C (dq dk_Piece_middleOf 34 rfl) ic_4 ?_
          exact ww_iret C hR (dq dk_Piece_middleOf 35 rfl) h
        rw [if_neg e6_14] at h
        by_cases e7_15 : x1 = 15
        · rw [if_pos e7_15] at h
          refine ww_tabIn C 112 (dq dk_Piece_middleOf 27 rfl) (by rw [e7_15]; decide) (by rw [e7_15]; decide) (by rw [e7_15]; rfl) (by decide) ?_
          refine ww_iconst C (dq dk_Piece_middleOf 36 rfl) ic_5 ?_
          exact ww_iret C hR (dq dk_Piece_middleOf 37 rfl) h
        rw [if_neg e7_15] at h
        by_cases e8_16 : x1 = 16
        · rw [if_pos e8_16] at h
          refine ww_tabIn C 114 (dq dk_Piece_middleOf 27 rfl) (by rw [e8_16]; decide) (by rw [e8_16]; decide) (by rw [e8_16]; rfl) (by decide) ?_
          refine ww_bipush C (dq dk_Piece_middleOf 38 rfl) bp_7 ?_
          exact ww_iret C hR (dq dk_Piece_middleOf 39 rfl) h
        rw [if_neg e8_16] at h
        have ne0_8 := lv_neT (a := 8) e0_8 (by decide)
        have ne1_9 := lv_neT (a := 9) e1_9 (by decide)
        have ne2_10 := lv_neT (a := 10) e2_10 (by decide)
        have ne3_11 := lv_neT (a := 11) e3_11 (by decide)
        have ne4_12 := lv_neT (a := 12) e4_12 (by decide)
        have ne5_13 := lv_neT (a := 13) e5_13 (by decide)
        have ne6_14 := lv_neT (a := 14) e6_14 (by decide)
        have ne7_15 := lv_neT (a := 15) e7_15 (by decide)
        have ne8_16 := lv_neT (a := 16) e8_16 (by decide)
        refine ww_tabOut C 117 (dq dk_Piece_middleOf 27 rfl) (by omega) (by decide) ?_
        refine ww_aload_n C 0 rfl rfl (dq dk_Piece_middleOf 40 rfl) ?_
        refine ww_geti C ko_Instruction 0 ho_v0 (lt_ rfl) g_1_75 rfl rfl (dq dk_Piece_middleOf 41 rfl) ?_
        exact ww_iret C hR (dq dk_Piece_middleOf 42 rfl) h
      · refine ww_aload_n C 0 rfl rfl (dq dk_Piece_middleOf 22 rfl) ?_
        refine ww_geti C ko_Instruction 2 ho_v0 (lt_ rfl) g_1_87 rfl rfl (dq dk_Piece_middleOf 23 rfl) ?_
        exact ww_iret C hR (dq dk_Piece_middleOf 24 rfl) h
  · refine ww_aload_n C 0 rfl rfl (dq dk_Piece_middleOf 4 rfl) ?_
    refine ww_geti C ko_Instruction 0 ho_v0 (lt_ rfl) g_1_75 rfl rfl (dq dk_Piece_middleOf 5 rfl) ?_
    refine ww_bipush C (dq dk_Piece_middleOf 6 rfl) bp_11 ?_
    refine ww_icmp_ne C 24 (dq dk_Piece_middleOf 7 rfl) (by decide) h (fun h => ?_) (fun h => ?_)
    · refine ww_aload_n C 0 rfl rfl (dq dk_Piece_middleOf 11 rfl) ?_
      refine ww_geti C ko_Instruction 3 ho_v0 (lt_ rfl) g_1_91 rfl rfl (dq dk_Piece_middleOf 12 rfl) ?_
      exact ww_iret C hR (dq dk_Piece_middleOf 13 rfl) h
    · refine ww_aload_n C 0 rfl rfl (dq dk_Piece_middleOf 8 rfl) ?_
      refine ww_geti C ko_Instruction 2 ho_v0 (lt_ rfl) g_1_87 rfl rfl (dq dk_Piece_middleOf 9 rfl) ?_
      refine ww_goto C 28 (dq dk_Piece_middleOf 10 rfl) (by decide) ?_
      exact ww_iret C hR (dq dk_Piece_middleOf 13 rfl) h
abbrev y_Piece_putOperand : MethodName := ⟨"BundleHouse$Piece", "putOperand", "(LBundleHouse$Instruction;)V"⟩
def dl_Piece_putOperand : List (Nat × Instr × Nat) := [(0, .bipush 8, 2), (2, .aload_n 1, 1), (3, .invokestatic 67, 3), (6, .imul, 1), (7, .istore_n 2, 1), (8, .aload_n 1, 1), (9, .getfield 51, 3), (12, .invokestatic 71, 3), (15, .ifCond .ne 42, 3), (18, .aload_n 0, 1), (19, .sipush 192, 3), (22, .iload_n 2, 1), (23, .iadd, 1), (24, .aload_n 1, 1), (25, .getfield 51, 3), (28, .iconst 2, 1), (29, .if_icmp .ne 19, 3), (32, .aload_n 1, 1), (33, .getfield 40, 3), (36, .bipush 11, 2), (38, .if_icmp .ne 10, 3), (41, .aload_n 1, 1), (42, .getfield 64, 3), (45, .goto 7, 3), (48, .aload_n 1, 1), (49, .getfield 48, 3), (52, .iadd, 1), (53, .invokevirtual 19, 3), (56, .return_, 1), (57, .aload_n 1, 1), (58, .invokevirtual 74, 3), (61, .istore_n 3, 1), (62, .iload_n 3, 1), (63, .bipush 8, 2), (65, .if_icmp .ne 7, 3), (68, .iconst 1, 1), (69, .goto 4, 3), (72, .iconst 0, 1), (73, .istore 4, 2), (75, .aload_n 1, 1), (76, .invokevirtual 78, 3), (79, .bipush 8, 2), (81, .if_icmp .ne 7, 3), (84, .iconst 1, 1), (85, .goto 4, 3), (88, .iconst 0, 1), (89, .istore 5, 2), (91, .aload_n 1, 1), (92, .getfield 81, 3), (95, .invokestatic 57, 3), (98, .ifCond .eq 7, 3), (101, .iconst 1, 1), (102, .goto 4, 3), (105, .iconst 2, 1), (106, .istore 6, 2), (108, .iload 4, 2), (110, .ifCond .ne 15, 3), (113, .aload_n 1, 1), (114, .getfield 81, 3), (117, .ifCond .ne 11, 3), (120, .iload_n 3, 1), (121, .iconst 5, 1), (122, .if_icmp .eq 6, 3), (125, .iconst 0, 1), (126, .istore 6, 2), (128, .iload 5, 2), (130, .ifCond .eq 33, 3), (133, .iload_n 3, 1), (134, .iconst 4, 1), (135, .if_icmp .eq 28, 3), (138, .aload_n 0, 1), (139, .bipush 64, 2), (141, .iload 6, 2), (143, .imul, 1), (144, .iload_n 2, 1), (145, .iadd, 1), (146, .iload 4, 2), (148, .ifCond .eq 7, 3), (151, .iconst 5, 1), (152, .goto 4, 3), (155, .iload_n 3, 1), (156, .iadd, 1), (157, .invokevirtual 19, 3), (160, .goto 55, 3), (163, .aload_n 0, 1), (164, .bipush 64, 2), (166, .iload 6, 2), (168, .imul, 1), (169, .iload_n 2, 1), (170, .iadd, 1), (171, .iconst 4, 1), (172, .iadd, 1), (173, .invokevirtual 19, 3), (176, .aload_n 0, 1), (177, .bipush 64, 2), (179, .aload_n 1, 1), (180, .invokevirtual 84, 3), (183, .imul, 1), (184, .bipush 8, 2), (186, .iload 5, 2), (188, .ifCond .eq 7, 3), (191, .iconst 4, 1), (192, .goto 7, 3), (195, .aload_n 1, 1), (196, .invokevirtual 78, 3), (199, .imul, 1), (200, .iadd, 1), (201, .iload 4, 2), (203, .ifCond .eq 7, 3), (206, .iconst 5, 1), (207, .goto 4, 3), (210, .iload_n 3, 1), (211, .iadd, 1), (212, .invokevirtual 19, 3), (215, .iload 4, 2), (217, .ifCond .ne 9, 3), (220, .iload 6, 2), (222, .iconst 2, 1), (223, .if_icmp .ne 14, 3), (226, .aload_n 0, 1), (227, .aload_n 1, 1), (228, .getfield 81, 3), (231, .invokevirtual 37, 3), (234, .goto 17, 3), (237, .iload 6, 2), (239, .iconst 1, 1), (240, .if_icmp .ne 11, 3), (243, .aload_n 0, 1), (244, .aload_n 1, 1), (245, .getfield 81, 3), (248, .invokevirtual 19, 3), (251, .return_, 1)]
set_option maxRecDepth 100000 in
theorem dk_Piece_putOperand : ∀ q ∈ dl_Piece_putOperand, decode prog_6_method_15_code q.1 = .ok q.2 := by decide +kernel
abbrev rm_Piece_putOperand : Room := { frames := 2, cells := 0, slots := 0, locals := 42 }
theorem cw_Piece_putOperand : CWV y_Piece_putOperand prog_6_method_15_code 7 none 1 := ⟨⟨g_3_214, g_1_8, by decide, by decide, by decide +kernel⟩, g_3_213, gs_2_7⟩
set_option maxHeartbeats 4000000 in
set_option maxRecDepth 100000 in
theorem t_Piece_putOperand_B215 {k : Cfg} {res : St} (C : Cx k prog_6_method_15_code "BundleHouse$Piece") (hR : RV k res) (hRm : k.2.2.2.1 = rm_Piece_putOperand) (hnL : k.2.2.2.2.2.2.2.2.2.2.2.1 = 7) (v0 : Nat) (v1 : Nat) (v4 : Int32) (v6 : Int32) (ho_v0 : kd v0 = 7) (ho_v1 : kd v1 = 4) (σ : St) (h : Piece_putOperand_B215 v0 v1 v4 v6 σ = some res) : WW k 215 [(0, .ref (ad k v0)), (1, .ref (ad k v1)), (4, .int v4), (6, .int v6)] [] σ := by
  unfold Piece_putOperand_B215 at h
  refine ww_iload C 2 rfl (dq dk_Piece_putOperand 114 rfl) ?_
  refine ww_if_ne C 226 (dq dk_Piece_putOperand 115 rfl) (by decide) h (fun h => ?_) (fun h => ?_)
  · refine ww_aload_n C 0 rfl rfl (dq dk_Piece_putOperand 119 rfl) ?_
    refine ww_aload_n C 1 rfl rfl (dq dk_Piece_putOperand 120 rfl) ?_
    refine ww_geti C ko_Instruction 4 ho_v1 (lt_ rfl) g_1_95 rfl rfl (dq dk_Piece_putOperand 121 rfl) ?_
    refine ww_cVv (st := []) C (c_Piece_putFour v0 ho_v0 (σ v1 4)) cw_Piece_putFour ho_v0 (lt_ rfl) rfl g_3_231 hRm ⟨⟨rfl, rfl⟩, le_ rfl, le_ rfl⟩ rfl rfl rfl (le_ rfl) (dq dk_Piece_putOperand 122 rfl) h (fun σ1 h => ?_)
    refine ww_goto C 251 (dq dk_Piece_putOperand 123 rfl) (by decide) ?_
    exact ww_vret C hR (dq dk_Piece_putOperand 131 rfl) h
  · refine ww_iload C 3 rfl (dq dk_Piece_putOperand 116 rfl) ?_
    refine ww_iconst C (dq dk_Piece_putOperand 117 rfl) ic_2 ?_
    refine ww_icmp_ne C 237 (dq dk_Piece_putOperand 118 rfl) (by decide) h (fun h => ?_) (fun h => ?_)
    · refine ww_iload C 3 rfl (dq dk_Piece_putOperand 124 rfl) ?_
      refine ww_iconst C (dq dk_Piece_putOperand 125 rfl) ic_1 ?_
      refine ww_icmp_ne C 251 (dq dk_Piece_putOperand 126 rfl) (by decide) h (fun h => ?_) (fun h => ?_)
      · exact ww_vret C hR (dq dk_Piece_putOperand 131 rfl) h
      · refine ww_aload_n C 0 rfl rfl (dq dk_Piece_putOperand 127 rfl) ?_
        refine ww_aload_n C 1 rfl rfl (dq dk_Piece_putOperand 128 rfl) ?_
        refine ww_geti C ko_Instruction 4 ho_v1 (lt_ rfl) g_1_95 rfl rfl (dq dk_Piece_putOperand 129 rfl) ?_
        refine ww_cVv (st := []) C (c_Piece_put v0 ho_v0 (σ v1 4)) cw_Piece_put ho_v0 (lt_ rfl) rfl g_3_197 hRm ⟨⟨rfl, rfl⟩, le_ rfl, le_ rfl⟩ rfl rfl rfl (le_ rfl) (dq dk_Piece_putOperand 130 rfl) h (fun σ2 h => ?_)
        exact ww_vret C hR (dq dk_Piece_putOperand 131 rfl) h
    · refine ww_aload_n C 0 rfl rfl (dq dk_Piece_putOperand 119 rfl) ?_
      refine ww_aload_n C 1 rfl rfl (dq dk_Piece_putOperand 120 rfl) ?_
      refine ww_geti C ko_Instruction 4 ho_v1 (lt_ rfl) g_1_95 rfl rfl (dq dk_Piece_putOperand 121 rfl) ?_
      refine ww_cVv (st := []) C (c_Piece_putFour v0 ho_v0 (σ v1 4)) cw_Piece_putFour ho_v0 (lt_ rfl) rfl g_3_231 hRm ⟨⟨rfl, rfl⟩, le_ rfl, le_ rfl⟩ rfl rfl rfl (le_ rfl) (dq dk_Piece_putOperand 122 rfl) h (fun σ3 h => ?_)
      refine ww_goto C 251 (dq dk_Piece_putOperand 123 rfl) (by decide) ?_
      exact ww_vret C hR (dq dk_Piece_putOperand 131 rfl) h
set_option maxHeartbeats 4000000 in
set_option maxRecDepth 100000 in
theorem t_Piece_putOperand_B163 {k : Cfg} {res : St} (C : Cx k prog_6_method_15_code "BundleHouse$Piece") (hR : RV k res) (hRm : k.2.2.2.1 = rm_Piece_putOperand) (hnL : k.2.2.2.2.2.2.2.2.2.2.2.1 = 7) (v0 : Nat) (v1 : Nat) (v2 : Int32) (v3 : Int32) (v4 : Int32) (v5 : Int32) (v6 : Int32) (ho_v0 : kd v0 = 7) (ho_v1 : kd v1 = 4) (σ : St) (h : Piece_putOperand_B163 v0 v1 v2 v3 v4 v5 v6 σ = some res) : WW k 163 [(0, .ref (ad k v0)), (1, .ref (ad k v1)), (2, .int v2), (3, .int v3), (4, .int v4), (5, .int v5), (6, .int v6)] [] σ := by
  unfold Piece_putOperand_B163 at h
  refine ww_aload_n C 0 rfl rfl (dq dk_Piece_putOperand 84 rfl) ?_
  refine ww_bipush C (dq dk_Piece_putOperand 85 rfl) bp_64 ?_
  refine ww_iload C 6 rfl (dq dk_Piece_putOperand 86 rfl) ?_
  refine ww_imul C (dq dk_Piece_putOperand 87 rfl) ?_
  refine ww_iload_n C 2 rfl rfl (dq dk_Piece_putOperand 88 rfl) ?_
  refine ww_iadd C (dq dk_Piece_putOperand 89 rfl) ?_
  refine ww_iconst C (dq dk_Piece_putOperand 90 rfl) ic_4 ?_
  refine ww_iadd C (dq dk_Piece_putOperand 91 rfl) ?_
  refine ww_cVv (st := []) C (c_Piece_put v0 ho_v0 (((64 * v6) + v2) + 4)) cw_Piece_put ho_v0 (lt_ rfl) rfl g_3_197 hRm ⟨⟨rfl, rfl⟩, le_ rfl, le_ rfl⟩ rfl rfl rfl (le_ rfl) (dq dk_Piece_putOperand 92 rfl) h (fun σ1 h => ?_)
  refine ww_aload_n C 0 rfl rfl (dq dk_Piece_putOperand 93 rfl) ?_
  refine ww_bipush C (dq dk_Piece_putOperand 94 rfl) bp_64 ?_
  refine ww_aload_n C 1 rfl rfl (dq dk_Piece_putOperand 95 rfl) ?_
  refine ww_cVi (st := [.int 64, .ref (ad k v0)]) C (c_Instruction_scale v1 ho_v1) cw_Instruction_scale ho_v1 (lt_ rfl) rfl g_3_227 hRm ⟨⟨rfl, rfl⟩, le_ rfl, le_ rfl⟩ rfl rfl rfl (le_ rfl) (dq dk_Piece_putOperand 96 rfl) h (fun x3 σ2 h => ?_)
  refine ww_imul C (dq dk_Piece_putOperand 97 rfl) ?_
  refine ww_bipush C (dq dk_Piece_putOperand 98 rfl) bp_8 ?_
  refine ww_iload C 5 rfl (dq dk_Piece_putOperand 99 rfl) ?_
  refine ww_if_eq C 195 (dq dk_Piece_putOperand 100 rfl) (by decide) h (fun h => ?_) (fun h => ?_)
  · refine ww_aload_n C 1 rfl rfl (dq dk_Piece_putOperand 103 rfl) ?_
    refine ww_cVi (st := [.int 8, .int (64 * x3), .ref (ad k v0)]) C (c_Instruction_index v1 ho_v1) cw_Instruction_index ho_v1 (lt_ rfl) rfl g_3_223 hRm ⟨⟨rfl, rfl⟩, le_ rfl, le_ rfl⟩ rfl rfl rfl (le_ rfl) (dq dk_Piece_putOperand 104 rfl) h (fun x5 σ4 h => ?_)
    refine ww_imul C (dq dk_Piece_putOperand 105 rfl) ?_
    refine ww_iadd C (dq dk_Piece_putOperand 106 rfl) ?_
    refine ww_iload C 4 rfl (dq dk_Piece_putOperand 107 rfl) ?_
    refine ww_if_eq C 210 (dq dk_Piece_putOperand 108 rfl) (by decide) h (fun h => ?_) (fun h => ?_)
    · refine ww_iload_n C 3 rfl rfl (dq dk_Piece_putOperand 111 rfl) ?_
      refine ww_iadd C (dq dk_Piece_putOperand 112 rfl) ?_
      refine ww_cVv (st := []) C (c_Piece_put v0 ho_v0 (((64 * x3) + (8 * x5)) + v3)) cw_Piece_put ho_v0 (lt_ rfl) rfl g_3_197 hRm ⟨⟨rfl, rfl⟩, le_ rfl, le_ rfl⟩ rfl rfl rfl (le_ rfl) (dq dk_Piece_putOperand 113 rfl) h (fun σ6 h => ?_)
      exact ww_lv [0, 1, 4, 6] rfl (t_Piece_putOperand_B215 C hR hRm hnL v0 v1 v4 v6 ho_v0 ho_v1 σ6 h)
    · refine ww_iconst C (dq dk_Piece_putOperand 109 rfl) ic_5 ?_
      refine ww_goto C 211 (dq dk_Piece_putOperand 110 rfl) (by decide) ?_
      refine ww_iadd C (dq dk_Piece_putOperand 112 rfl) ?_
      refine ww_cVv (st := []) C (c_Piece_put v0 ho_v0 (((64 * x3) + (8 * x5)) + 5)) cw_Piece_put ho_v0 (lt_ rfl) rfl g_3_197 hRm ⟨⟨rfl, rfl⟩, le_ rfl, le_ rfl⟩ rfl rfl rfl (le_ rfl) (dq dk_Piece_putOperand 113 rfl) h (fun σ7 h => ?_)
      exact ww_lv [0, 1, 4, 6] rfl (t_Piece_putOperand_B215 C hR hRm hnL v0 v1 v4 v6 ho_v0 ho_v1 σ7 h)
  · refine ww_iconst C (dq dk_Piece_putOperand 101 rfl) ic_4 ?_
    refine ww_goto C 199 (dq dk_Piece_putOperand 102 rfl) (by decide) ?_
    refine ww_imul C (dq dk_Piece_putOperand 105 rfl) ?_
    refine ww_iadd C (dq dk_Piece_putOperand 106 rfl) ?_
    refine ww_iload C 4 rfl (dq dk_Piece_putOperand 107 rfl) ?_
    refine ww_if_eq C 210 (dq dk_Piece_putOperand 108 rfl) (by decide) h (fun h => ?_) (fun h => ?_)
    · refine ww_iload_n C 3 rfl rfl (dq dk_Piece_putOperand 111 rfl) ?_
      refine ww_iadd C (dq dk_Piece_putOperand 112 rfl) ?_
      refine ww_cVv (st := []) C (c_Piece_put v0 ho_v0 (((64 * x3) + (8 * 4)) + v3)) cw_Piece_put ho_v0 (lt_ rfl) rfl g_3_197 hRm ⟨⟨rfl, rfl⟩, le_ rfl, le_ rfl⟩ rfl rfl rfl (le_ rfl) (dq dk_Piece_putOperand 113 rfl) h (fun σ8 h => ?_)
      exact ww_lv [0, 1, 4, 6] rfl (t_Piece_putOperand_B215 C hR hRm hnL v0 v1 v4 v6 ho_v0 ho_v1 σ8 h)
    · refine ww_iconst C (dq dk_Piece_putOperand 109 rfl) ic_5 ?_
      refine ww_goto C 211 (dq dk_Piece_putOperand 110 rfl) (by decide) ?_
      refine ww_iadd C (dq dk_Piece_putOperand 112 rfl) ?_
      refine ww_cVv (st := []) C (c_Piece_put v0 ho_v0 (((64 * x3) + (8 * 4)) + 5)) cw_Piece_put ho_v0 (lt_ rfl) rfl g_3_197 hRm ⟨⟨rfl, rfl⟩, le_ rfl, le_ rfl⟩ rfl rfl rfl (le_ rfl) (dq dk_Piece_putOperand 113 rfl) h (fun σ9 h => ?_)
      exact ww_lv [0, 1, 4, 6] rfl (t_Piece_putOperand_B215 C hR hRm hnL v0 v1 v4 v6 ho_v0 ho_v1 σ9 h)
set_option maxHeartbeats 4000000 in
set_option maxRecDepth 100000 in
theorem t_Piece_putOperand_B128 {k : Cfg} {res : St} (C : Cx k prog_6_method_15_code "BundleHouse$Piece") (hR : RV k res) (hRm : k.2.2.2.1 = rm_Piece_putOperand) (hnL : k.2.2.2.2.2.2.2.2.2.2.2.1 = 7) (v0 : Nat) (v1 : Nat) (v2 : Int32) (v3 : Int32) (v4 : Int32) (v5 : Int32) (v6 : Int32) (ho_v0 : kd v0 = 7) (ho_v1 : kd v1 = 4) (σ : St) (h : Piece_putOperand_B128 v0 v1 v2 v3 v4 v5 v6 σ = some res) : WW k 128 [(0, .ref (ad k v0)), (1, .ref (ad k v1)), (2, .int v2), (3, .int v3), (4, .int v4), (5, .int v5), (6, .int v6)] [] σ := by
  unfold Piece_putOperand_B128 at h
  refine ww_iload C 5 rfl (dq dk_Piece_putOperand 65 rfl) ?_
  refine ww_if_eq C 163 (dq dk_Piece_putOperand 66 rfl) (by decide) h (fun h => ?_) (fun h => ?_)
  · exact ww_lv [0, 1, 2, 3, 4, 5, 6] rfl (t_Piece_putOperand_B163 C hR hRm hnL v0 v1 v2 v3 v4 v5 v6 ho_v0 ho_v1 σ h)
  · refine ww_iload_n C 3 rfl rfl (dq dk_Piece_putOperand 67 rfl) ?_
    refine ww_iconst C (dq dk_Piece_putOperand 68 rfl) ic_4 ?_
    refine ww_icmp_eq C 163 (dq dk_Piece_putOperand 69 rfl) (by decide) h (fun h => ?_) (fun h => ?_)
    · exact ww_lv [0, 1, 2, 3, 4, 5, 6] rfl (t_Piece_putOperand_B163 C hR hRm hnL v0 v1 v2 v3 v4 v5 v6 ho_v0 ho_v1 σ h)
    · refine ww_aload_n C 0 rfl rfl (dq dk_Piece_putOperand 70 rfl) ?_
      refine ww_bipush C (dq dk_Piece_putOperand 71 rfl) bp_64 ?_
      refine ww_iload C 6 rfl (dq dk_Piece_putOperand 72 rfl) ?_
      refine ww_imul C (dq dk_Piece_putOperand 73 rfl) ?_
      refine ww_iload_n C 2 rfl rfl (dq dk_Piece_putOperand 74 rfl) ?_
      refine ww_iadd C (dq dk_Piece_putOperand 75 rfl) ?_
      refine ww_iload C 4 rfl (dq dk_Piece_putOperand 76 rfl) ?_
      refine ww_if_eq C 155 (dq dk_Piece_putOperand 77 rfl) (by decide) h (fun h => ?_) (fun h => ?_)
      · refine ww_iload_n C 3 rfl rfl (dq dk_Piece_putOperand 80 rfl) ?_
        refine ww_iadd C (dq dk_Piece_putOperand 81 rfl) ?_
        refine ww_cVv (st := []) C (c_Piece_put v0 ho_v0 (((64 * v6) + v2) + v3)) cw_Piece_put ho_v0 (lt_ rfl) rfl g_3_197 hRm ⟨⟨rfl, rfl⟩, le_ rfl, le_ rfl⟩ rfl rfl rfl (le_ rfl) (dq dk_Piece_putOperand 82 rfl) h (fun σ1 h => ?_)
        refine ww_goto C 215 (dq dk_Piece_putOperand 83 rfl) (by decide) ?_
        exact ww_lv [0, 1, 4, 6] rfl (t_Piece_putOperand_B215 C hR hRm hnL v0 v1 v4 v6 ho_v0 ho_v1 σ1 h)
      · refine ww_iconst C (dq dk_Piece_putOperand 78 rfl) ic_5 ?_
        refine ww_goto C 156 (dq dk_Piece_putOperand 79 rfl) (by decide) ?_
        refine ww_iadd C (dq dk_Piece_putOperand 81 rfl) ?_
        refine ww_cVv (st := []) C (c_Piece_put v0 ho_v0 (((64 * v6) + v2) + 5)) cw_Piece_put ho_v0 (lt_ rfl) rfl g_3_197 hRm ⟨⟨rfl, rfl⟩, le_ rfl, le_ rfl⟩ rfl rfl rfl (le_ rfl) (dq dk_Piece_putOperand 82 rfl) h (fun σ2 h => ?_)
        refine ww_goto C 215 (dq dk_Piece_putOperand 83 rfl) (by decide) ?_
        exact ww_lv [0, 1, 4, 6] rfl (t_Piece_putOperand_B215 C hR hRm hnL v0 v1 v4 v6 ho_v0 ho_v1 σ2 h)
set_option maxHeartbeats 4000000 in
set_option maxRecDepth 100000 in
theorem t_Piece_putOperand_B106 {k : Cfg} {res : St} (C : Cx k prog_6_method_15_code "BundleHouse$Piece") (hR : RV k res) (hRm : k.2.2.2.1 = rm_Piece_putOperand) (hnL : k.2.2.2.2.2.2.2.2.2.2.2.1 = 7) (v0 : Nat) (v1 : Nat) (v2 : Int32) (v3 : Int32) (v4 : Int32) (v5 : Int32) (t0 : Int32) (ho_v0 : kd v0 = 7) (ho_v1 : kd v1 = 4) (σ : St) (h : Piece_putOperand_B106 v0 v1 v2 v3 v4 v5 t0 σ = some res) : WW k 106 [(0, .ref (ad k v0)), (1, .ref (ad k v1)), (2, .int v2), (3, .int v3), (4, .int v4), (5, .int v5)] [.int t0] σ := by
  unfold Piece_putOperand_B106 at h
  refine ww_istore C [(6, .int t0), (0, .ref (ad k v0)), (1, .ref (ad k v1)), (2, .int v2), (3, .int v3), (4, .int v4), (5, .int v5)] hnL (lt_ rfl) rfl (dq dk_Piece_putOperand 54 rfl) ?_
  refine ww_iload C 5 rfl (dq dk_Piece_putOperand 55 rfl) ?_
  refine ww_if_ne C 125 (dq dk_Piece_putOperand 56 rfl) (by decide) h (fun h => ?_) (fun h => ?_)
  · refine ww_iconst C (dq dk_Piece_putOperand 63 rfl) ic_0 ?_
    refine ww_istore C [(6, .int 0), (0, .ref (ad k v0)), (1, .ref (ad k v1)), (2, .int v2), (3, .int v3), (4, .int v4), (5, .int v5)] hnL (lt_ rfl) rfl (dq dk_Piece_putOperand 64 rfl) ?_
    exact ww_lv [1, 2, 3, 4, 5, 6, 0] rfl (t_Piece_putOperand_B128 C hR hRm hnL v0 v1 v2 v3 v4 v5 0 ho_v0 ho_v1 σ h)
  · refine ww_aload_n C 2 rfl rfl (dq dk_Piece_putOperand 57 rfl) ?_
    refine ww_geti C ko_Instruction 4 ho_v1 (lt_ rfl) g_1_95 rfl rfl (dq dk_Piece_putOperand 58 rfl) ?_
    refine ww_if_ne C 128 (dq dk_Piece_putOperand 59 rfl) (by decide) h (fun h => ?_) (fun h => ?_)
    · exact ww_lv [1, 2, 3, 4, 5, 6, 0] rfl (t_Piece_putOperand_B128 C hR hRm hnL v0 v1 v2 v3 v4 v5 t0 ho_v0 ho_v1 σ h)
    · refine ww_iload_n C 4 rfl rfl (dq dk_Piece_putOperand 60 rfl) ?_
      refine ww_iconst C (dq dk_Piece_putOperand 61 rfl) ic_5 ?_
      refine ww_icmp_eq C 128 (dq dk_Piece_putOperand 62 rfl) (by decide) h (fun h => ?_) (fun h => ?_)
      · exact ww_lv [1, 2, 3, 4, 5, 6, 0] rfl (t_Piece_putOperand_B128 C hR hRm hnL v0 v1 v2 v3 v4 v5 t0 ho_v0 ho_v1 σ h)
      · refine ww_iconst C (dq dk_Piece_putOperand 63 rfl) ic_0 ?_
        refine ww_istore C [(6, .int 0), (0, .ref (ad k v0)), (1, .ref (ad k v1)), (2, .int v2), (3, .int v3), (4, .int v4), (5, .int v5)] hnL (lt_ rfl) rfl (dq dk_Piece_putOperand 64 rfl) ?_
        exact ww_lv [1, 2, 3, 4, 5, 6, 0] rfl (t_Piece_putOperand_B128 C hR hRm hnL v0 v1 v2 v3 v4 v5 0 ho_v0 ho_v1 σ h)
set_option maxHeartbeats 4000000 in
set_option maxRecDepth 100000 in
theorem t_Piece_putOperand_B89 {k : Cfg} {res : St} (C : Cx k prog_6_method_15_code "BundleHouse$Piece") (hR : RV k res) (hRm : k.2.2.2.1 = rm_Piece_putOperand) (hnL : k.2.2.2.2.2.2.2.2.2.2.2.1 = 7) (v0 : Nat) (v1 : Nat) (v2 : Int32) (v3 : Int32) (v4 : Int32) (t0 : Int32) (ho_v0 : kd v0 = 7) (ho_v1 : kd v1 = 4) (σ : St) (h : Piece_putOperand_B89 v0 v1 v2 v3 v4 t0 σ = some res) : WW k 89 [(0, .ref (ad k v0)), (1, .ref (ad k v1)), (2, .int v2), (3, .int v3), (4, .int v4)] [.int t0] σ := by
  unfold Piece_putOperand_B89 at h
  refine ww_istore C [(5, .int t0), (0, .ref (ad k v0)), (1, .ref (ad k v1)), (2, .int v2), (3, .int v3), (4, .int v4)] hnL (lt_ rfl) rfl (dq dk_Piece_putOperand 46 rfl) ?_
  refine ww_aload_n C 2 rfl rfl (dq dk_Piece_putOperand 47 rfl) ?_
  refine ww_geti C ko_Instruction 4 ho_v1 (lt_ rfl) g_1_95 rfl rfl (dq dk_Piece_putOperand 48 rfl) ?_
  refine ww_cNi (st := []) C (c_House_isSmall (σ v1 4)) cw_House_isSmall nw_11 hRm ⟨⟨rfl, rfl⟩, le_ rfl, le_ rfl⟩ rfl rfl rfl (le_ rfl) (dq dk_Piece_putOperand 49 rfl) h (fun x2 σ1 h => ?_)
  refine ww_if_eq C 105 (dq dk_Piece_putOperand 50 rfl) (by decide) h (fun h => ?_) (fun h => ?_)
  · refine ww_iconst C (dq dk_Piece_putOperand 53 rfl) ic_2 ?_
    exact ww_lv [1, 2, 3, 4, 5, 0] rfl (t_Piece_putOperand_B106 C hR hRm hnL v0 v1 v2 v3 v4 t0 2 ho_v0 ho_v1 σ1 h)
  · refine ww_iconst C (dq dk_Piece_putOperand 51 rfl) ic_1 ?_
    refine ww_goto C 106 (dq dk_Piece_putOperand 52 rfl) (by decide) ?_
    exact ww_lv [1, 2, 3, 4, 5, 0] rfl (t_Piece_putOperand_B106 C hR hRm hnL v0 v1 v2 v3 v4 t0 1 ho_v0 ho_v1 σ1 h)
set_option maxHeartbeats 4000000 in
set_option maxRecDepth 100000 in
theorem t_Piece_putOperand_B73 {k : Cfg} {res : St} (C : Cx k prog_6_method_15_code "BundleHouse$Piece") (hR : RV k res) (hRm : k.2.2.2.1 = rm_Piece_putOperand) (hnL : k.2.2.2.2.2.2.2.2.2.2.2.1 = 7) (v0 : Nat) (v1 : Nat) (v2 : Int32) (v3 : Int32) (t0 : Int32) (ho_v0 : kd v0 = 7) (ho_v1 : kd v1 = 4) (σ : St) (h : Piece_putOperand_B73 v0 v1 v2 v3 t0 σ = some res) : WW k 73 [(0, .ref (ad k v0)), (1, .ref (ad k v1)), (2, .int v2), (3, .int v3)] [.int t0] σ := by
  unfold Piece_putOperand_B73 at h
  refine ww_istore C [(4, .int t0), (0, .ref (ad k v0)), (1, .ref (ad k v1)), (2, .int v2), (3, .int v3)] hnL (lt_ rfl) rfl (dq dk_Piece_putOperand 38 rfl) ?_
  refine ww_aload_n C 2 rfl rfl (dq dk_Piece_putOperand 39 rfl) ?_
  refine ww_cVi (st := []) C (c_Instruction_index v1 ho_v1) cw_Instruction_index ho_v1 (lt_ rfl) rfl g_3_223 hRm ⟨⟨rfl, rfl⟩, le_ rfl, le_ rfl⟩ rfl rfl rfl (le_ rfl) (dq dk_Piece_putOperand 40 rfl) h (fun x2 σ1 h => ?_)
  refine ww_bipush C (dq dk_Piece_putOperand 41 rfl) bp_8 ?_
  refine ww_icmp_ne C 88 (dq dk_Piece_putOperand 42 rfl) (by decide) h (fun h => ?_) (fun h => ?_)
  · refine ww_iconst C (dq dk_Piece_putOperand 45 rfl) ic_0 ?_
    exact ww_lv [1, 2, 3, 4, 0] rfl (t_Piece_putOperand_B89 C hR hRm hnL v0 v1 v2 v3 t0 0 ho_v0 ho_v1 σ1 h)
  · refine ww_iconst C (dq dk_Piece_putOperand 43 rfl) ic_1 ?_
    refine ww_goto C 89 (dq dk_Piece_putOperand 44 rfl) (by decide) ?_
    exact ww_lv [1, 2, 3, 4, 0] rfl (t_Piece_putOperand_B89 C hR hRm hnL v0 v1 v2 v3 t0 1 ho_v0 ho_v1 σ1 h)
set_option maxHeartbeats 4000000 in
set_option maxRecDepth 100000 in
theorem c_Piece_putOperand (v0 : Nat) (ho_v0 : kd v0 = 7) (v1 : Nat) (ho_v1 : kd v1 = 4) : MV y_Piece_putOperand rm_Piece_putOperand prog_6_method_15_code 7 (fun a => [.ref (a v0), .ref (a v1)]) (Piece_putOperand v0 v1) := by
  refine mv_of (by decide) (fun _ => le_ rfl) ?_
  intro k res σ C hR hRm hnL h
  unfold Piece_putOperand at h
  show WW k 0 [(0, .ref (ad k v0)), (1, .ref (ad k v1))] [] σ
  refine ww_bipush C (dq dk_Piece_putOperand 0 rfl) bp_8 ?_
  refine ww_aload_n C 1 rfl rfl (dq dk_Piece_putOperand 1 rfl) ?_
  refine ww_cSi (st := [.int 8]) C (c_Piece_middleOf v1 ho_v1) cw_Piece_middleOf g_3_215 hRm ⟨⟨rfl, rfl⟩, le_ rfl, le_ rfl⟩ rfl rfl rfl (le_ rfl) (dq dk_Piece_putOperand 2 rfl) h (fun x2 σ1 h => ?_)
  refine ww_imul C (dq dk_Piece_putOperand 3 rfl) ?_
  refine ww_nmi h (fun x3 h => ?_)
  refine ww_istore_n C [(2, .int x3), (0, .ref (ad k v0)), (1, .ref (ad k v1))] rfl hnL (lt_ rfl) rfl (dq dk_Piece_putOperand 4 rfl) ?_
  refine ww_aload_n C 2 rfl rfl (dq dk_Piece_putOperand 5 rfl) ?_
  refine ww_geti C ko_Instruction 1 ho_v1 (lt_ rfl) g_1_81 rfl rfl (dq dk_Piece_putOperand 6 rfl) ?_
  refine ww_cNi (st := []) C (c_House_isMemoryForm (σ1 v1 1)) cw_House_isMemoryForm nw_12 hRm ⟨⟨rfl, rfl⟩, le_ rfl, le_ rfl⟩ rfl rfl rfl (le_ rfl) (dq dk_Piece_putOperand 7 rfl) h (fun x5 σ4 h => ?_)
  refine ww_if_ne C 57 (dq dk_Piece_putOperand 8 rfl) (by decide) h (fun h => ?_) (fun h => ?_)
  · refine ww_aload_n C 2 rfl rfl (dq dk_Piece_putOperand 29 rfl) ?_
    refine ww_cVi (st := []) C (c_Instruction_base v1 ho_v1) cw_Instruction_base ho_v1 (lt_ rfl) rfl g_3_219 hRm ⟨⟨rfl, rfl⟩, le_ rfl, le_ rfl⟩ rfl rfl rfl (le_ rfl) (dq dk_Piece_putOperand 30 rfl) h (fun x7 σ6 h => ?_)
    refine ww_istore_n C [(3, .int x7), (2, .int x3), (0, .ref (ad k v0)), (1, .ref (ad k v1))] rfl hnL (lt_ rfl) rfl (dq dk_Piece_putOperand 31 rfl) ?_
    refine ww_iload_n C 0 rfl rfl (dq dk_Piece_putOperand 32 rfl) ?_
    refine ww_bipush C (dq dk_Piece_putOperand 33 rfl) bp_8 ?_
    refine ww_icmp_ne C 72 (dq dk_Piece_putOperand 34 rfl) (by decide) h (fun h => ?_) (fun h => ?_)
    · refine ww_iconst C (dq dk_Piece_putOperand 37 rfl) ic_0 ?_
      exact ww_lv [2, 3, 1, 0] rfl (t_Piece_putOperand_B73 C hR hRm hnL v0 v1 x3 x7 0 ho_v0 ho_v1 σ6 h)
    · refine ww_iconst C (dq dk_Piece_putOperand 35 rfl) ic_1 ?_
      refine ww_goto C 73 (dq dk_Piece_putOperand 36 rfl) (by decide) ?_
      exact ww_lv [2, 3, 1, 0] rfl (t_Piece_putOperand_B73 C hR hRm hnL v0 v1 x3 x7 1 ho_v0 ho_v1 σ6 h)
  · refine ww_aload_n C 1 rfl rfl (dq dk_Piece_putOperand 9 rfl) ?_
    refine ww_sipush C (dq dk_Piece_putOperand 10 rfl) sp_192 ?_
    refine ww_iload_n C 0 rfl rfl (dq dk_Piece_putOperand 11 rfl) ?_
    refine ww_iadd C (dq dk_Piece_putOperand 12 rfl) ?_
    refine ww_aload_n C 2 rfl rfl (dq dk_Piece_putOperand 13 rfl) ?_
    refine ww_geti C ko_Instruction 1 ho_v1 (lt_ rfl) g_1_81 rfl rfl (dq dk_Piece_putOperand 14 rfl) ?_
    refine ww_iconst C (dq dk_Piece_putOperand 15 rfl) ic_2 ?_
    refine ww_icmp_ne C 48 (dq dk_Piece_putOperand 16 rfl) (by decide) h (fun h => ?_) (fun h => ?_)
    · refine ww_aload_n C 2 rfl rfl (dq dk_Piece_putOperand 24 rfl) ?_
      refine ww_geti C ko_Instruction 2 ho_v1 (lt_ rfl) g_1_87 rfl rfl (dq dk_Piece_putOperand 25 rfl) ?_
      refine ww_iadd C (dq dk_Piece_putOperand 26 rfl) ?_
      refine ww_cVv (st := []) C (c_Piece_put v0 ho_v0 ((192 + x3) + (σ4 v1 2))) cw_Piece_put ho_v0 (lt_ rfl) rfl g_3_197 hRm ⟨⟨rfl, rfl⟩, le_ rfl, le_ rfl⟩ rfl rfl rfl (le_ rfl) (dq dk_Piece_putOperand 27 rfl) h (fun σ8 h => ?_)
      exact ww_vret C hR (dq dk_Piece_putOperand 28 rfl) h
    · refine ww_aload_n C 2 rfl rfl (dq dk_Piece_putOperand 17 rfl) ?_
      refine ww_geti C ko_Instruction 0 ho_v1 (lt_ rfl) g_1_75 rfl rfl (dq dk_Piece_putOperand 18 rfl) ?_
      refine ww_bipush C (dq dk_Piece_putOperand 19 rfl) bp_11 ?_
      refine ww_icmp_ne C 48 (dq dk_Piece_putOperand 20 rfl) (by decide) h (fun h => ?_) (fun h => ?_)
      · refine ww_aload_n C 2 rfl rfl (dq dk_Piece_putOperand 24 rfl) ?_
        refine ww_geti C ko_Instruction 2 ho_v1 (lt_ rfl) g_1_87 rfl rfl (dq dk_Piece_putOperand 25 rfl) ?_
        refine ww_iadd C (dq dk_Piece_putOperand 26 rfl) ?_
        refine ww_cVv (st := []) C (c_Piece_put v0 ho_v0 ((192 + x3) + (σ4 v1 2))) cw_Piece_put ho_v0 (lt_ rfl) rfl g_3_197 hRm ⟨⟨rfl, rfl⟩, le_ rfl, le_ rfl⟩ rfl rfl rfl (le_ rfl) (dq dk_Piece_putOperand 27 rfl) h (fun σ9 h => ?_)
        exact ww_vret C hR (dq dk_Piece_putOperand 28 rfl) h
      · refine ww_aload_n C 2 rfl rfl (dq dk_Piece_putOperand 21 rfl) ?_
        refine ww_geti C ko_Instruction 3 ho_v1 (lt_ rfl) g_1_91 rfl rfl (dq dk_Piece_putOperand 22 rfl) ?_
        refine ww_goto C 52 (dq dk_Piece_putOperand 23 rfl) (by decide) ?_
        refine ww_iadd C (dq dk_Piece_putOperand 26 rfl) ?_
        refine ww_cVv (st := []) C (c_Piece_put v0 ho_v0 ((192 + x3) + (σ4 v1 3))) cw_Piece_put ho_v0 (lt_ rfl) rfl g_3_197 hRm ⟨⟨rfl, rfl⟩, le_ rfl, le_ rfl⟩ rfl rfl rfl (le_ rfl) (dq dk_Piece_putOperand 27 rfl) h (fun σ10 h => ?_)
        exact ww_vret C hR (dq dk_Piece_putOperand 28 rfl) h
abbrev y_House_isShift : MethodName := ⟨"BundleHouse", "isShift", "(I)Z"⟩
def dl_House_isShift : List (Nat × Instr × Nat) := [(0, .iload_n 0, 1), (1, .bipush 14, 2), (3, .if_icmp .lt 13, 3), (6, .iload_n 0, 1), (7, .bipush 16, 2), (9, .if_icmp .gt 7, 3), (12, .iconst 1, 1), (13, .goto 4, 3), (16, .iconst 0, 1), (17, .ireturn, 1)]
set_option maxRecDepth 100000 in
theorem dk_House_isShift : ∀ q ∈ dl_House_isShift, decode prog_1_method_26_code q.1 = .ok q.2 := by decide +kernel
abbrev rm_House_isShift : Room := { frames := 0, cells := 0, slots := 0, locals := 0 }
theorem cw_House_isShift : CWS y_House_isShift prog_1_method_26_code 1 (some .boolean) 1 := ⟨⟨g_3_121, g_1_1, by decide, by decide, by decide +kernel⟩, g_3_120⟩
set_option maxHeartbeats 4000000 in
set_option maxRecDepth 100000 in
theorem c_House_isShift (v0 : Int32) : MI y_House_isShift rm_House_isShift prog_1_method_26_code 1 .boolean (fun a => [.int v0]) (House_isShift v0) := by
  refine mi_of (by decide) (fun _ => le_ rfl) ?_
  intro k res σ C hR hRm hnL h
  unfold House_isShift at h
  show WW k 0 [(0, .int v0)] [] σ
  refine ww_iload_n C 0 rfl rfl (dq dk_House_isShift 0 rfl) ?_
  refine ww_bipush C (dq dk_House_isShift 1 rfl) bp_14 ?_
  refine ww_icmp_lt C 16 (dq dk_House_isShift 2 rfl) (by decide) h (fun h => ?_) (fun h => ?_)
  · refine ww_iconst C (dq dk_House_isShift 8 rfl) ic_0 ?_
    exact ww_zretL C hR (dq dk_House_isShift 9 rfl) (Or.inl rfl) h
  · refine ww_iload_n C 0 rfl rfl (dq dk_House_isShift 3 rfl) ?_
    refine ww_bipush C (dq dk_House_isShift 4 rfl) bp_16 ?_
    refine ww_icmp_gt C 16 (dq dk_House_isShift 5 rfl) (by decide) h (fun h => ?_) (fun h => ?_)
    · refine ww_iconst C (dq dk_House_isShift 8 rfl) ic_0 ?_
      exact ww_zretL C hR (dq dk_House_isShift 9 rfl) (Or.inl rfl) h
    · refine ww_iconst C (dq dk_House_isShift 6 rfl) ic_1 ?_
      refine ww_goto C 17 (dq dk_House_isShift 7 rfl) (by decide) ?_
      exact ww_zretL C hR (dq dk_House_isShift 9 rfl) (Or.inr rfl) h
abbrev y_Piece_putValue : MethodName := ⟨"BundleHouse$Piece", "putValue", "(LBundleHouse$Instruction;)V"⟩
def dl_Piece_putValue : List (Nat × Instr × Nat) := [(0, .aload_n 1, 1), (1, .getfield 51, 3), (4, .iconst 5, 1), (5, .if_icmp .eq 22, 3), (8, .aload_n 1, 1), (9, .getfield 51, 3), (12, .bipush 6, 2), (14, .if_icmp .eq 13, 3), (17, .aload_n 1, 1), (18, .getfield 51, 3), (21, .bipush 8, 2), (23, .if_icmp .eq 4, 3), (26, .return_, 1), (27, .aload_n 1, 1), (28, .getfield 40, 3), (31, .invokestatic 87, 3), (34, .ifCond .ne 22, 3), (37, .aload_n 1, 1), (38, .getfield 40, 3), (41, .bipush 8, 2), (43, .if_icmp .eq 24, 3), (46, .aload_n 1, 1), (47, .getfield 54, 3), (50, .invokestatic 57, 3), (53, .ifCond .eq 14, 3), (56, .aload_n 0, 1), (57, .aload_n 1, 1), (58, .getfield 54, 3), (61, .invokevirtual 19, 3), (64, .goto 11, 3), (67, .aload_n 0, 1), (68, .aload_n 1, 1), (69, .getfield 54, 3), (72, .invokevirtual 37, 3), (75, .return_, 1)]
set_option maxRecDepth 100000 in
theorem dk_Piece_putValue : ∀ q ∈ dl_Piece_putValue, decode prog_6_method_16_code q.1 = .ok q.2 := by decide +kernel
abbrev rm_Piece_putValue : Room := { frames := 2, cells := 0, slots := 0, locals := 42 }
theorem cw_Piece_putValue : CWV y_Piece_putValue prog_6_method_16_code 2 none 1 := ⟨⟨g_3_238, g_1_8, by decide, by decide, by decide +kernel⟩, g_3_237, gs_2_8⟩
set_option maxHeartbeats 4000000 in
set_option maxRecDepth 100000 in
theorem t_Piece_putValue_B27 {k : Cfg} {res : St} (C : Cx k prog_6_method_16_code "BundleHouse$Piece") (hR : RV k res) (hRm : k.2.2.2.1 = rm_Piece_putValue) (hnL : k.2.2.2.2.2.2.2.2.2.2.2.1 = 2) (v0 : Nat) (v1 : Nat) (ho_v0 : kd v0 = 7) (ho_v1 : kd v1 = 4) (σ : St) (h : Piece_putValue_B27 v0 v1 σ = some res) : WW k 27 [(0, .ref (ad k v0)), (1, .ref (ad k v1))] [] σ := by
  unfold Piece_putValue_B27 at h
  refine ww_aload_n C 1 rfl rfl (dq dk_Piece_putValue 13 rfl) ?_
  refine ww_geti C ko_Instruction 0 ho_v1 (lt_ rfl) g_1_75 rfl rfl (dq dk_Piece_putValue 14 rfl) ?_
  refine ww_cNi (st := []) C (c_House_isShift (σ v1 0)) cw_House_isShift nw_13 hRm ⟨⟨rfl, rfl⟩, le_ rfl, le_ rfl⟩ rfl rfl rfl (le_ rfl) (dq dk_Piece_putValue 15 rfl) h (fun x2 σ1 h => ?_)
  refine ww_if_ne C 56 (dq dk_Piece_putValue 16 rfl) (by decide) h (fun h => ?_) (fun h => ?_)
  · refine ww_aload_n C 0 rfl rfl (dq dk_Piece_putValue 25 rfl) ?_
    refine ww_aload_n C 1 rfl rfl (dq dk_Piece_putValue 26 rfl) ?_
    refine ww_geti C ko_Instruction 5 ho_v1 (lt_ rfl) g_1_101 rfl rfl (dq dk_Piece_putValue 27 rfl) ?_
    refine ww_cVv (st := []) C (c_Piece_put v0 ho_v0 (σ1 v1 5)) cw_Piece_put ho_v0 (lt_ rfl) rfl g_3_197 hRm ⟨⟨rfl, rfl⟩, le_ rfl, le_ rfl⟩ rfl rfl rfl (le_ rfl) (dq dk_Piece_putValue 28 rfl) h (fun σ3 h => ?_)
    refine ww_goto C 75 (dq dk_Piece_putValue 29 rfl) (by decide) ?_
    exact ww_vret C hR (dq dk_Piece_putValue 34 rfl) h
  · refine ww_aload_n C 1 rfl rfl (dq dk_Piece_putValue 17 rfl) ?_
    refine ww_geti C ko_Instruction 0 ho_v1 (lt_ rfl) g_1_75 rfl rfl (dq dk_Piece_putValue 18 rfl) ?_
    refine ww_bipush C (dq dk_Piece_putValue 19 rfl) bp_8 ?_
    refine ww_icmp_eq C 67 (dq dk_Piece_putValue 20 rfl) (by decide) h (fun h => ?_) (fun h => ?_)
    · refine ww_aload_n C 0 rfl rfl (dq dk_Piece_putValue 30 rfl) ?_
      refine ww_aload_n C 1 rfl rfl (dq dk_Piece_putValue 31 rfl) ?_
      refine ww_geti C ko_Instruction 5 ho_v1 (lt_ rfl) g_1_101 rfl rfl (dq dk_Piece_putValue 32 rfl) ?_
      refine ww_cVv (st := []) C (c_Piece_putFour v0 ho_v0 (σ1 v1 5)) cw_Piece_putFour ho_v0 (lt_ rfl) rfl g_3_231 hRm ⟨⟨rfl, rfl⟩, le_ rfl, le_ rfl⟩ rfl rfl rfl (le_ rfl) (dq dk_Piece_putValue 33 rfl) h (fun σ4 h => ?_)
      exact ww_vret C hR (dq dk_Piece_putValue 34 rfl) h
    · refine ww_aload_n C 1 rfl rfl (dq dk_Piece_putValue 21 rfl) ?_
      refine ww_geti C ko_Instruction 5 ho_v1 (lt_ rfl) g_1_101 rfl rfl (dq dk_Piece_putValue 22 rfl) ?_
      refine ww_cNi (st := []) C (c_House_isSmall (σ1 v1 5)) cw_House_isSmall nw_11 hRm ⟨⟨rfl, rfl⟩, le_ rfl, le_ rfl⟩ rfl rfl rfl (le_ rfl) (dq dk_Piece_putValue 23 rfl) h (fun x6 σ5 h => ?_)
      refine ww_if_eq C 67 (dq dk_Piece_putValue 24 rfl) (by decide) h (fun h => ?_) (fun h => ?_)
      · refine ww_aload_n C 0 rfl rfl (dq dk_Piece_putValue 30 rfl) ?_
        refine ww_aload_n C 1 rfl rfl (dq dk_Piece_putValue 31 rfl) ?_
        refine ww_geti C ko_Instruction 5 ho_v1 (lt_ rfl) g_1_101 rfl rfl (dq dk_Piece_putValue 32 rfl) ?_
        refine ww_cVv (st := []) C (c_Piece_putFour v0 ho_v0 (σ5 v1 5)) cw_Piece_putFour ho_v0 (lt_ rfl) rfl g_3_231 hRm ⟨⟨rfl, rfl⟩, le_ rfl, le_ rfl⟩ rfl rfl rfl (le_ rfl) (dq dk_Piece_putValue 33 rfl) h (fun σ7 h => ?_)
        exact ww_vret C hR (dq dk_Piece_putValue 34 rfl) h
      · refine ww_aload_n C 0 rfl rfl (dq dk_Piece_putValue 25 rfl) ?_
        refine ww_aload_n C 1 rfl rfl (dq dk_Piece_putValue 26 rfl) ?_
        refine ww_geti C ko_Instruction 5 ho_v1 (lt_ rfl) g_1_101 rfl rfl (dq dk_Piece_putValue 27 rfl) ?_
        refine ww_cVv (st := []) C (c_Piece_put v0 ho_v0 (σ5 v1 5)) cw_Piece_put ho_v0 (lt_ rfl) rfl g_3_197 hRm ⟨⟨rfl, rfl⟩, le_ rfl, le_ rfl⟩ rfl rfl rfl (le_ rfl) (dq dk_Piece_putValue 28 rfl) h (fun σ8 h => ?_)
        refine ww_goto C 75 (dq dk_Piece_putValue 29 rfl) (by decide) ?_
        exact ww_vret C hR (dq dk_Piece_putValue 34 rfl) h
set_option maxHeartbeats 4000000 in
set_option maxRecDepth 100000 in
theorem c_Piece_putValue (v0 : Nat) (ho_v0 : kd v0 = 7) (v1 : Nat) (ho_v1 : kd v1 = 4) : MV y_Piece_putValue rm_Piece_putValue prog_6_method_16_code 2 (fun a => [.ref (a v0), .ref (a v1)]) (Piece_putValue v0 v1) := by
  refine mv_of (by decide) (fun _ => le_ rfl) ?_
  intro k res σ C hR hRm hnL h
  unfold Piece_putValue at h
  show WW k 0 [(0, .ref (ad k v0)), (1, .ref (ad k v1))] [] σ
  refine ww_aload_n C 1 rfl rfl (dq dk_Piece_putValue 0 rfl) ?_
  refine ww_geti C ko_Instruction 1 ho_v1 (lt_ rfl) g_1_81 rfl rfl (dq dk_Piece_putValue 1 rfl) ?_
  refine ww_iconst C (dq dk_Piece_putValue 2 rfl) ic_5 ?_
  refine ww_icmp_eq C 27 (dq dk_Piece_putValue 3 rfl) (by decide) h (fun h => ?_) (fun h => ?_)
  · exact ww_lv [0, 1] rfl (t_Piece_putValue_B27 C hR hRm hnL v0 v1 ho_v0 ho_v1 σ h)
  · refine ww_aload_n C 1 rfl rfl (dq dk_Piece_putValue 4 rfl) ?_
    refine ww_geti C ko_Instruction 1 ho_v1 (lt_ rfl) g_1_81 rfl rfl (dq dk_Piece_putValue 5 rfl) ?_
    refine ww_bipush C (dq dk_Piece_putValue 6 rfl) bp_6 ?_
    refine ww_icmp_eq C 27 (dq dk_Piece_putValue 7 rfl) (by decide) h (fun h => ?_) (fun h => ?_)
    · exact ww_lv [0, 1] rfl (t_Piece_putValue_B27 C hR hRm hnL v0 v1 ho_v0 ho_v1 σ h)
    · refine ww_aload_n C 1 rfl rfl (dq dk_Piece_putValue 8 rfl) ?_
      refine ww_geti C ko_Instruction 1 ho_v1 (lt_ rfl) g_1_81 rfl rfl (dq dk_Piece_putValue 9 rfl) ?_
      refine ww_bipush C (dq dk_Piece_putValue 10 rfl) bp_8 ?_
      refine ww_icmp_eq C 27 (dq dk_Piece_putValue 11 rfl) (by decide) h (fun h => ?_) (fun h => ?_)
      · exact ww_lv [0, 1] rfl (t_Piece_putValue_B27 C hR hRm hnL v0 v1 ho_v0 ho_v1 σ h)
      · exact ww_vret C hR (dq dk_Piece_putValue 12 rfl) h
abbrev y_Piece_become : MethodName := ⟨"BundleHouse$Piece", "become", "(LBundleHouse$Instruction;)V"⟩
def dl_Piece_become : List (Nat × Instr × Nat) := [(0, .aload_n 0, 1), (1, .iconst 0, 1), (2, .putfield 15, 3), (5, .aload_n 0, 1), (6, .aload_n 1, 1), (7, .invokevirtual 23, 3), (10, .aload_n 1, 1), (11, .invokestatic 27, 3), (14, .ifCond .eq 8, 3), (17, .aload_n 0, 1), (18, .aload_n 1, 1), (19, .invokevirtual 31, 3), (22, .aload_n 0, 1), (23, .aload_n 1, 1), (24, .invokevirtual 34, 3), (27, .return_, 1)]
set_option maxRecDepth 100000 in
theorem dk_Piece_become : ∀ q ∈ dl_Piece_become, decode prog_6_method_4_code q.1 = .ok q.2 := by decide +kernel
abbrev rm_Piece_become : Room := { frames := 3, cells := 0, slots := 0, locals := 68 }
theorem cw_Piece_become : CWV y_Piece_become prog_6_method_4_code 2 none 1 := ⟨⟨g_3_188, g_1_8, by decide, by decide, by decide +kernel⟩, g_3_186, g_3_187⟩
set_option maxHeartbeats 4000000 in
set_option maxRecDepth 100000 in
theorem c_Piece_become (v0 : Nat) (ho_v0 : kd v0 = 7) (v1 : Nat) (ho_v1 : kd v1 = 4) : MV y_Piece_become rm_Piece_become prog_6_method_4_code 2 (fun a => [.ref (a v0), .ref (a v1)]) (Piece_become v0 v1) := by
  refine mv_of (by decide) (fun _ => le_ rfl) ?_
  intro k res σ C hR hRm hnL h
  unfold Piece_become at h
  show WW k 0 [(0, .ref (ad k v0)), (1, .ref (ad k v1))] [] σ
  refine ww_aload_n C 0 rfl rfl (dq dk_Piece_become 0 rfl) ?_
  refine ww_iconst C (dq dk_Piece_become 1 rfl) ic_0 ?_
  refine ww_puti C ko_Piece 1 ho_v0 (lt_ rfl) g_2_2 rfl rfl rfl rfl (dq dk_Piece_become 2 rfl) h (fun σ1 h => ?_)
  refine ww_aload_n C 0 rfl rfl (dq dk_Piece_become 3 rfl) ?_
  refine ww_aload_n C 1 rfl rfl (dq dk_Piece_become 4 rfl) ?_
  refine ww_cVv (st := []) C (c_Piece_putLead v0 ho_v0 v1 ho_v1) cw_Piece_putLead ho_v0 (lt_ rfl) rfl g_3_189 hRm ⟨⟨rfl, rfl⟩, le_ rfl, le_ rfl⟩ rfl rfl rfl (le_ rfl) (dq dk_Piece_become 5 rfl) h (fun σ2 h => ?_)
  refine ww_aload_n C 1 rfl rfl (dq dk_Piece_become 6 rfl) ?_
  refine ww_cSi (st := []) C (c_Piece_hasOperand v1 ho_v1) cw_Piece_hasOperand g_3_208 hRm ⟨⟨rfl, rfl⟩, le_ rfl, le_ rfl⟩ rfl rfl rfl (le_ rfl) (dq dk_Piece_become 7 rfl) h (fun x4 σ3 h => ?_)
  refine ww_if_eq C 22 (dq dk_Piece_become 8 rfl) (by decide) h (fun h => ?_) (fun h => ?_)
  · refine ww_aload_n C 0 rfl rfl (dq dk_Piece_become 12 rfl) ?_
    refine ww_aload_n C 1 rfl rfl (dq dk_Piece_become 13 rfl) ?_
    refine ww_cVv (st := []) C (c_Piece_putValue v0 ho_v0 v1 ho_v1) cw_Piece_putValue ho_v0 (lt_ rfl) rfl g_3_235 hRm ⟨⟨rfl, rfl⟩, le_ rfl, le_ rfl⟩ rfl rfl rfl (le_ rfl) (dq dk_Piece_become 14 rfl) h (fun σ5 h => ?_)
    exact ww_vret C hR (dq dk_Piece_become 15 rfl) h
  · refine ww_aload_n C 0 rfl rfl (dq dk_Piece_become 9 rfl) ?_
    refine ww_aload_n C 1 rfl rfl (dq dk_Piece_become 10 rfl) ?_
    refine ww_cVv (st := []) C (c_Piece_putOperand v0 ho_v0 v1 ho_v1) cw_Piece_putOperand ho_v0 (lt_ rfl) rfl g_3_211 hRm ⟨⟨rfl, rfl⟩, le_ rfl, le_ rfl⟩ rfl rfl rfl (le_ rfl) (dq dk_Piece_become 11 rfl) h (fun σ6 h => ?_)
    refine ww_aload_n C 0 rfl rfl (dq dk_Piece_become 12 rfl) ?_
    refine ww_aload_n C 1 rfl rfl (dq dk_Piece_become 13 rfl) ?_
    refine ww_cVv (st := []) C (c_Piece_putValue v0 ho_v0 v1 ho_v1) cw_Piece_putValue ho_v0 (lt_ rfl) rfl g_3_235 hRm ⟨⟨rfl, rfl⟩, le_ rfl, le_ rfl⟩ rfl rfl rfl (le_ rfl) (dq dk_Piece_become 14 rfl) h (fun σ7 h => ?_)
    exact ww_vret C hR (dq dk_Piece_become 15 rfl) h
abbrev y_Piece_becomeRegisterOp : MethodName := ⟨"BundleHouse$Piece", "becomeRegisterOp", "(II)V"⟩
def dl_Piece_becomeRegisterOp : List (Nat × Instr × Nat) := [(0, .aload_n 0, 1), (1, .iconst 0, 1), (2, .putfield 15, 3), (5, .aload_n 0, 1), (6, .iload_n 1, 1), (7, .iload_n 2, 1), (8, .iadd, 1), (9, .invokevirtual 19, 3), (12, .return_, 1)]
set_option maxRecDepth 100000 in
theorem dk_Piece_becomeRegisterOp : ∀ q ∈ dl_Piece_becomeRegisterOp, decode prog_6_method_5_code q.1 = .ok q.2 := by decide +kernel
abbrev rm_Piece_becomeRegisterOp : Room := { frames := 1, cells := 0, slots := 0, locals := 21 }
theorem cw_Piece_becomeRegisterOp : CWV y_Piece_becomeRegisterOp prog_6_method_5_code 3 none 2 := ⟨⟨g_4_97, g_1_8, by decide, by decide, by decide +kernel⟩, g_4_95, g_4_96⟩
set_option maxHeartbeats 4000000 in
set_option maxRecDepth 100000 in
theorem c_Piece_becomeRegisterOp (v0 : Nat) (ho_v0 : kd v0 = 7) (v1 : Int32) (v2 : Int32) : MV y_Piece_becomeRegisterOp rm_Piece_becomeRegisterOp prog_6_method_5_code 3 (fun a => [.ref (a v0), .int v1, .int v2]) (Piece_becomeRegisterOp v0 v1 v2) := by
  refine mv_of (by decide) (fun _ => le_ rfl) ?_
  intro k res σ C hR hRm hnL h
  unfold Piece_becomeRegisterOp at h
  show WW k 0 [(0, .ref (ad k v0)), (1, .int v1), (2, .int v2)] [] σ
  refine ww_aload_n C 0 rfl rfl (dq dk_Piece_becomeRegisterOp 0 rfl) ?_
  refine ww_iconst C (dq dk_Piece_becomeRegisterOp 1 rfl) ic_0 ?_
  refine ww_puti C ko_Piece 1 ho_v0 (lt_ rfl) g_2_2 rfl rfl rfl rfl (dq dk_Piece_becomeRegisterOp 2 rfl) h (fun σ1 h => ?_)
  refine ww_aload_n C 0 rfl rfl (dq dk_Piece_becomeRegisterOp 3 rfl) ?_
  refine ww_iload_n C 1 rfl rfl (dq dk_Piece_becomeRegisterOp 4 rfl) ?_
  refine ww_iload_n C 2 rfl rfl (dq dk_Piece_becomeRegisterOp 5 rfl) ?_
  refine ww_iadd C (dq dk_Piece_becomeRegisterOp 6 rfl) ?_
  refine ww_cVv (st := []) C (c_Piece_put v0 ho_v0 (v1 + v2)) cw_Piece_put ho_v0 (lt_ rfl) rfl g_3_197 hRm ⟨⟨rfl, rfl⟩, le_ rfl, le_ rfl⟩ rfl rfl rfl (le_ rfl) (dq dk_Piece_becomeRegisterOp 7 rfl) h (fun σ2 h => ?_)
  exact ww_vret C hR (dq dk_Piece_becomeRegisterOp 8 rfl) h
abbrev y_Piece_becomePair : MethodName := ⟨"BundleHouse$Piece", "becomePair", "(IZ)V"⟩
def dl_Piece_becomePair : List (Nat × Instr × Nat) := [(0, .aload_n 0, 1), (1, .iconst 0, 1), (2, .putfield 15, 3), (5, .aload_n 0, 1), (6, .sipush 131, 3), (9, .invokevirtual 19, 3), (12, .aload_n 0, 1), (13, .sipush 224, 3), (16, .iload_n 1, 1), (17, .iadd, 1), (18, .invokevirtual 19, 3), (21, .aload_n 0, 1), (22, .bipush (-16), 2), (24, .invokevirtual 19, 3), (27, .aload_n 0, 1), (28, .sipush 255, 3), (31, .invokevirtual 19, 3), (34, .aload_n 0, 1), (35, .iload_n 2, 1), (36, .ifCond .eq 9, 3), (39, .sipush 208, 3), (42, .goto 6, 3), (45, .sipush 224, 3), (48, .iload_n 1, 1), (49, .iadd, 1), (50, .invokevirtual 19, 3), (53, .return_, 1)]
set_option maxRecDepth 100000 in
theorem dk_Piece_becomePair : ∀ q ∈ dl_Piece_becomePair, decode prog_6_method_6_code q.1 = .ok q.2 := by decide +kernel
abbrev rm_Piece_becomePair : Room := { frames := 1, cells := 0, slots := 0, locals := 21 }
theorem cw_Piece_becomePair : CWV y_Piece_becomePair prog_6_method_6_code 3 none 2 := ⟨⟨g_4_93, g_1_8, by decide, by decide, by decide +kernel⟩, g_4_91, g_4_92⟩
set_option maxHeartbeats 4000000 in
set_option maxRecDepth 100000 in
theorem c_Piece_becomePair (v0 : Nat) (ho_v0 : kd v0 = 7) (v1 : Int32) (v2 : Int32) : MV y_Piece_becomePair rm_Piece_becomePair prog_6_method_6_code 3 (fun a => [.ref (a v0), .int v1, .int v2]) (Piece_becomePair v0 v1 v2) := by
  refine mv_of (by decide) (fun _ => le_ rfl) ?_
  intro k res σ C hR hRm hnL h
  unfold Piece_becomePair at h
  show WW k 0 [(0, .ref (ad k v0)), (1, .int v1), (2, .int v2)] [] σ
  refine ww_aload_n C 0 rfl rfl (dq dk_Piece_becomePair 0 rfl) ?_
  refine ww_iconst C (dq dk_Piece_becomePair 1 rfl) ic_0 ?_
  refine ww_puti C ko_Piece 1 ho_v0 (lt_ rfl) g_2_2 rfl rfl rfl rfl (dq dk_Piece_becomePair 2 rfl) h (fun σ1 h => ?_)
  refine ww_aload_n C 0 rfl rfl (dq dk_Piece_becomePair 3 rfl) ?_
  refine ww_sipush C (dq dk_Piece_becomePair 4 rfl) sp_131 ?_
  refine ww_cVv (st := []) C (c_Piece_put v0 ho_v0 131) cw_Piece_put ho_v0 (lt_ rfl) rfl g_3_197 hRm ⟨⟨rfl, rfl⟩, le_ rfl, le_ rfl⟩ rfl rfl rfl (le_ rfl) (dq dk_Piece_becomePair 5 rfl) h (fun σ2 h => ?_)
  refine ww_aload_n C 0 rfl rfl (dq dk_Piece_becomePair 6 rfl) ?_
  refine ww_sipush C (dq dk_Piece_becomePair 7 rfl) sp_224 ?_
  refine ww_iload_n C 1 rfl rfl (dq dk_Piece_becomePair 8 rfl) ?_
  refine ww_iadd C (dq dk_Piece_becomePair 9 rfl) ?_
  refine ww_cVv (st := []) C (c_Piece_put v0 ho_v0 (224 + v1)) cw_Piece_put ho_v0 (lt_ rfl) rfl g_3_197 hRm ⟨⟨rfl, rfl⟩, le_ rfl, le_ rfl⟩ rfl rfl rfl (le_ rfl) (dq dk_Piece_becomePair 10 rfl) h (fun σ3 h => ?_)
  refine ww_aload_n C 0 rfl rfl (dq dk_Piece_becomePair 11 rfl) ?_
  refine ww_bipush C (dq dk_Piece_becomePair 12 rfl) bp_m16 ?_
  refine ww_cVv (st := []) C (c_Piece_put v0 ho_v0 (-16)) cw_Piece_put ho_v0 (lt_ rfl) rfl g_3_197 hRm ⟨⟨rfl, rfl⟩, le_ rfl, le_ rfl⟩ rfl rfl rfl (le_ rfl) (dq dk_Piece_becomePair 13 rfl) h (fun σ4 h => ?_)
  refine ww_aload_n C 0 rfl rfl (dq dk_Piece_becomePair 14 rfl) ?_
  refine ww_sipush C (dq dk_Piece_becomePair 15 rfl) sp_255 ?_
  refine ww_cVv (st := []) C (c_Piece_put v0 ho_v0 255) cw_Piece_put ho_v0 (lt_ rfl) rfl g_3_197 hRm ⟨⟨rfl, rfl⟩, le_ rfl, le_ rfl⟩ rfl rfl rfl (le_ rfl) (dq dk_Piece_becomePair 16 rfl) h (fun σ5 h => ?_)
  refine ww_aload_n C 0 rfl rfl (dq dk_Piece_becomePair 17 rfl) ?_
  refine ww_iload_n C 2 rfl rfl (dq dk_Piece_becomePair 18 rfl) ?_
  refine ww_if_eq C 45 (dq dk_Piece_becomePair 19 rfl) (by decide) h (fun h => ?_) (fun h => ?_)
  · refine ww_sipush C (dq dk_Piece_becomePair 22 rfl) sp_224 ?_
    refine ww_iload_n C 1 rfl rfl (dq dk_Piece_becomePair 23 rfl) ?_
    refine ww_iadd C (dq dk_Piece_becomePair 24 rfl) ?_
    refine ww_cVv (st := []) C (c_Piece_put v0 ho_v0 (224 + v1)) cw_Piece_put ho_v0 (lt_ rfl) rfl g_3_197 hRm ⟨⟨rfl, rfl⟩, le_ rfl, le_ rfl⟩ rfl rfl rfl (le_ rfl) (dq dk_Piece_becomePair 25 rfl) h (fun σ6 h => ?_)
    exact ww_vret C hR (dq dk_Piece_becomePair 26 rfl) h
  · refine ww_sipush C (dq dk_Piece_becomePair 20 rfl) sp_208 ?_
    refine ww_goto C 48 (dq dk_Piece_becomePair 21 rfl) (by decide) ?_
    refine ww_iload_n C 1 rfl rfl (dq dk_Piece_becomePair 23 rfl) ?_
    refine ww_iadd C (dq dk_Piece_becomePair 24 rfl) ?_
    refine ww_cVv (st := []) C (c_Piece_put v0 ho_v0 (208 + v1)) cw_Piece_put ho_v0 (lt_ rfl) rfl g_3_197 hRm ⟨⟨rfl, rfl⟩, le_ rfl, le_ rfl⟩ rfl rfl rfl (le_ rfl) (dq dk_Piece_becomePair 25 rfl) h (fun σ7 h => ?_)
    exact ww_vret C hR (dq dk_Piece_becomePair 26 rfl) h
abbrev y_Piece_becomeWithFour : MethodName := ⟨"BundleHouse$Piece", "becomeWithFour", "(II)V"⟩
def dl_Piece_becomeWithFour : List (Nat × Instr × Nat) := [(0, .aload_n 0, 1), (1, .iconst 0, 1), (2, .putfield 15, 3), (5, .aload_n 0, 1), (6, .iload_n 1, 1), (7, .invokevirtual 19, 3), (10, .aload_n 0, 1), (11, .iload_n 2, 1), (12, .invokevirtual 37, 3), (15, .return_, 1)]
set_option maxRecDepth 100000 in
theorem dk_Piece_becomeWithFour : ∀ q ∈ dl_Piece_becomeWithFour, decode prog_6_method_7_code q.1 = .ok q.2 := by decide +kernel
abbrev rm_Piece_becomeWithFour : Room := { frames := 2, cells := 0, slots := 0, locals := 42 }
theorem cw_Piece_becomeWithFour : CWV y_Piece_becomeWithFour prog_6_method_7_code 3 none 2 := ⟨⟨g_4_85, g_1_8, by decide, by decide, by decide +kernel⟩, g_4_83, g_4_84⟩
set_option maxHeartbeats 4000000 in
set_option maxRecDepth 100000 in
theorem c_Piece_becomeWithFour (v0 : Nat) (ho_v0 : kd v0 = 7) (v1 : Int32) (v2 : Int32) : MV y_Piece_becomeWithFour rm_Piece_becomeWithFour prog_6_method_7_code 3 (fun a => [.ref (a v0), .int v1, .int v2]) (Piece_becomeWithFour v0 v1 v2) := by
  refine mv_of (by decide) (fun _ => le_ rfl) ?_
  intro k res σ C hR hRm hnL h
  unfold Piece_becomeWithFour at h
  show WW k 0 [(0, .ref (ad k v0)), (1, .int v1), (2, .int v2)] [] σ
  refine ww_aload_n C 0 rfl rfl (dq dk_Piece_becomeWithFour 0 rfl) ?_
  refine ww_iconst C (dq dk_Piece_becomeWithFour 1 rfl) ic_0 ?_
  refine ww_puti C ko_Piece 1 ho_v0 (lt_ rfl) g_2_2 rfl rfl rfl rfl (dq dk_Piece_becomeWithFour 2 rfl) h (fun σ1 h => ?_)
  refine ww_aload_n C 0 rfl rfl (dq dk_Piece_becomeWithFour 3 rfl) ?_
  refine ww_iload_n C 1 rfl rfl (dq dk_Piece_becomeWithFour 4 rfl) ?_
  refine ww_cVv (st := []) C (c_Piece_put v0 ho_v0 v1) cw_Piece_put ho_v0 (lt_ rfl) rfl g_3_197 hRm ⟨⟨rfl, rfl⟩, le_ rfl, le_ rfl⟩ rfl rfl rfl (le_ rfl) (dq dk_Piece_becomeWithFour 5 rfl) h (fun σ2 h => ?_)
  refine ww_aload_n C 0 rfl rfl (dq dk_Piece_becomeWithFour 6 rfl) ?_
  refine ww_iload_n C 2 rfl rfl (dq dk_Piece_becomeWithFour 7 rfl) ?_
  refine ww_cVv (st := []) C (c_Piece_putFour v0 ho_v0 v2) cw_Piece_putFour ho_v0 (lt_ rfl) rfl g_3_231 hRm ⟨⟨rfl, rfl⟩, le_ rfl, le_ rfl⟩ rfl rfl rfl (le_ rfl) (dq dk_Piece_becomeWithFour 8 rfl) h (fun σ3 h => ?_)
  exact ww_vret C hR (dq dk_Piece_becomeWithFour 9 rfl) h
abbrev y_Piece_becomeShort : MethodName := ⟨"BundleHouse$Piece", "becomeShort", "(II)V"⟩
def dl_Piece_becomeShort : List (Nat × Instr × Nat) := [(0, .aload_n 0, 1), (1, .iconst 0, 1), (2, .putfield 15, 3), (5, .aload_n 0, 1), (6, .iload_n 1, 1), (7, .invokevirtual 19, 3), (10, .aload_n 0, 1), (11, .iload_n 2, 1), (12, .invokevirtual 19, 3), (15, .return_, 1)]
set_option maxRecDepth 100000 in
theorem dk_Piece_becomeShort : ∀ q ∈ dl_Piece_becomeShort, decode prog_6_method_8_code q.1 = .ok q.2 := by decide +kernel
abbrev rm_Piece_becomeShort : Room := { frames := 1, cells := 0, slots := 0, locals := 21 }
theorem cw_Piece_becomeShort : CWV y_Piece_becomeShort prog_6_method_8_code 3 none 2 := ⟨⟨g_4_81, g_1_8, by decide, by decide, by decide +kernel⟩, g_4_79, g_4_80⟩
set_option maxHeartbeats 4000000 in
set_option maxRecDepth 100000 in
theorem c_Piece_becomeShort (v0 : Nat) (ho_v0 : kd v0 = 7) (v1 : Int32) (v2 : Int32) : MV y_Piece_becomeShort rm_Piece_becomeShort prog_6_method_8_code 3 (fun a => [.ref (a v0), .int v1, .int v2]) (Piece_becomeShort v0 v1 v2) := by
  refine mv_of (by decide) (fun _ => le_ rfl) ?_
  intro k res σ C hR hRm hnL h
  unfold Piece_becomeShort at h
  show WW k 0 [(0, .ref (ad k v0)), (1, .int v1), (2, .int v2)] [] σ
  refine ww_aload_n C 0 rfl rfl (dq dk_Piece_becomeShort 0 rfl) ?_
  refine ww_iconst C (dq dk_Piece_becomeShort 1 rfl) ic_0 ?_
  refine ww_puti C ko_Piece 1 ho_v0 (lt_ rfl) g_2_2 rfl rfl rfl rfl (dq dk_Piece_becomeShort 2 rfl) h (fun σ1 h => ?_)
  refine ww_aload_n C 0 rfl rfl (dq dk_Piece_becomeShort 3 rfl) ?_
  refine ww_iload_n C 1 rfl rfl (dq dk_Piece_becomeShort 4 rfl) ?_
  refine ww_cVv (st := []) C (c_Piece_put v0 ho_v0 v1) cw_Piece_put ho_v0 (lt_ rfl) rfl g_3_197 hRm ⟨⟨rfl, rfl⟩, le_ rfl, le_ rfl⟩ rfl rfl rfl (le_ rfl) (dq dk_Piece_becomeShort 5 rfl) h (fun σ2 h => ?_)
  refine ww_aload_n C 0 rfl rfl (dq dk_Piece_becomeShort 6 rfl) ?_
  refine ww_iload_n C 2 rfl rfl (dq dk_Piece_becomeShort 7 rfl) ?_
  refine ww_cVv (st := []) C (c_Piece_put v0 ho_v0 v2) cw_Piece_put ho_v0 (lt_ rfl) rfl g_3_197 hRm ⟨⟨rfl, rfl⟩, le_ rfl, le_ rfl⟩ rfl rfl rfl (le_ rfl) (dq dk_Piece_becomeShort 8 rfl) h (fun σ3 h => ?_)
  exact ww_vret C hR (dq dk_Piece_becomeShort 9 rfl) h
abbrev y_Piece_becomeLongBranch : MethodName := ⟨"BundleHouse$Piece", "becomeLongBranch", "(II)V"⟩
def dl_Piece_becomeLongBranch : List (Nat × Instr × Nat) := [(0, .aload_n 0, 1), (1, .iconst 0, 1), (2, .putfield 15, 3), (5, .aload_n 0, 1), (6, .bipush 15, 2), (8, .invokevirtual 19, 3), (11, .aload_n 0, 1), (12, .sipush 128, 3), (15, .iload_n 1, 1), (16, .iadd, 1), (17, .invokevirtual 19, 3), (20, .aload_n 0, 1), (21, .iload_n 2, 1), (22, .invokevirtual 37, 3), (25, .return_, 1)]
set_option maxRecDepth 100000 in
theorem dk_Piece_becomeLongBranch : ∀ q ∈ dl_Piece_becomeLongBranch, decode prog_6_method_9_code q.1 = .ok q.2 := by decide +kernel
abbrev rm_Piece_becomeLongBranch : Room := { frames := 2, cells := 0, slots := 0, locals := 42 }
theorem cw_Piece_becomeLongBranch : CWV y_Piece_becomeLongBranch prog_6_method_9_code 3 none 2 := ⟨⟨g_4_89, g_1_8, by decide, by decide, by decide +kernel⟩, g_4_87, g_4_88⟩
set_option maxHeartbeats 4000000 in
set_option maxRecDepth 100000 in
theorem c_Piece_becomeLongBranch (v0 : Nat) (ho_v0 : kd v0 = 7) (v1 : Int32) (v2 : Int32) : MV y_Piece_becomeLongBranch rm_Piece_becomeLongBranch prog_6_method_9_code 3 (fun a => [.ref (a v0), .int v1, .int v2]) (Piece_becomeLongBranch v0 v1 v2) := by
  refine mv_of (by decide) (fun _ => le_ rfl) ?_
  intro k res σ C hR hRm hnL h
  unfold Piece_becomeLongBranch at h
  show WW k 0 [(0, .ref (ad k v0)), (1, .int v1), (2, .int v2)] [] σ
  refine ww_aload_n C 0 rfl rfl (dq dk_Piece_becomeLongBranch 0 rfl) ?_
  refine ww_iconst C (dq dk_Piece_becomeLongBranch 1 rfl) ic_0 ?_
  refine ww_puti C ko_Piece 1 ho_v0 (lt_ rfl) g_2_2 rfl rfl rfl rfl (dq dk_Piece_becomeLongBranch 2 rfl) h (fun σ1 h => ?_)
  refine ww_aload_n C 0 rfl rfl (dq dk_Piece_becomeLongBranch 3 rfl) ?_
  refine ww_bipush C (dq dk_Piece_becomeLongBranch 4 rfl) bp_15 ?_
  refine ww_cVv (st := []) C (c_Piece_put v0 ho_v0 15) cw_Piece_put ho_v0 (lt_ rfl) rfl g_3_197 hRm ⟨⟨rfl, rfl⟩, le_ rfl, le_ rfl⟩ rfl rfl rfl (le_ rfl) (dq dk_Piece_becomeLongBranch 5 rfl) h (fun σ2 h => ?_)
  refine ww_aload_n C 0 rfl rfl (dq dk_Piece_becomeLongBranch 6 rfl) ?_
  refine ww_sipush C (dq dk_Piece_becomeLongBranch 7 rfl) sp_128 ?_
  refine ww_iload_n C 1 rfl rfl (dq dk_Piece_becomeLongBranch 8 rfl) ?_
  refine ww_iadd C (dq dk_Piece_becomeLongBranch 9 rfl) ?_
  refine ww_cVv (st := []) C (c_Piece_put v0 ho_v0 (128 + v1)) cw_Piece_put ho_v0 (lt_ rfl) rfl g_3_197 hRm ⟨⟨rfl, rfl⟩, le_ rfl, le_ rfl⟩ rfl rfl rfl (le_ rfl) (dq dk_Piece_becomeLongBranch 10 rfl) h (fun σ3 h => ?_)
  refine ww_aload_n C 0 rfl rfl (dq dk_Piece_becomeLongBranch 11 rfl) ?_
  refine ww_iload_n C 2 rfl rfl (dq dk_Piece_becomeLongBranch 12 rfl) ?_
  refine ww_cVv (st := []) C (c_Piece_putFour v0 ho_v0 v2) cw_Piece_putFour ho_v0 (lt_ rfl) rfl g_3_231 hRm ⟨⟨rfl, rfl⟩, le_ rfl, le_ rfl⟩ rfl rfl rfl (le_ rfl) (dq dk_Piece_becomeLongBranch 13 rfl) h (fun σ4 h => ?_)
  exact ww_vret C hR (dq dk_Piece_becomeLongBranch 14 rfl) h
abbrev y_Builder_faultOf : MethodName := ⟨"BundleHouse$Builder", "faultOf", "(I)I"⟩
def dl_Builder_faultOf : List (Nat × Instr × Nat) := [(0, .aload_n 0, 1), (1, .getfield 33, 3), (4, .iload_n 1, 1), (5, .invokevirtual 67, 3), (8, .ifCond .ne 5, 3), (11, .iconst 0, 1), (12, .ireturn, 1), (13, .aload_n 0, 1), (14, .getfield 33, 3), (17, .aload_n 0, 1), (18, .getfield 33, 3), (21, .getfield 71, 3), (24, .iload_n 1, 1), (25, .iaload, 1), (26, .invokevirtual 74, 3), (29, .istore_n 2, 1), (30, .aload_n 0, 1), (31, .getfield 33, 3), (34, .getfield 77, 3), (37, .iload_n 1, 1), (38, .iaload, 1), (39, .tableswitch 95 0 8 #[49, 60, 60, 60, 95, 95, 95, 95, 71], 49), (88, .iload_n 2, 1), (89, .iload_n 1, 1), (90, .if_icmp .ne 7, 3), (93, .iconst 0, 1), (94, .goto 4, 3), (97, .iconst 1, 1), (98, .ireturn, 1), (99, .iload_n 2, 1), (100, .iconst (-1), 1), (101, .if_icmp .ne 7, 3), (104, .iconst 2, 1), (105, .goto 4, 3), (108, .iconst 0, 1), (109, .ireturn, 1), (110, .iload_n 2, 1), (111, .iconst (-1), 1), (112, .if_icmp .ne 5, 3), (115, .iconst 2, 1), (116, .ireturn, 1), (117, .aload_n 0, 1), (118, .getfield 33, 3), (121, .iload_n 2, 1), (122, .invokevirtual 80, 3), (125, .ifCond .eq 7, 3), (128, .iconst 0, 1), (129, .goto 4, 3), (132, .iconst 3, 1), (133, .ireturn, 1), (134, .iconst 0, 1), (135, .ireturn, 1)]
set_option maxRecDepth 100000 in
theorem dk_Builder_faultOf : ∀ q ∈ dl_Builder_faultOf, decode prog_2_method_3_code q.1 = .ok q.2 := by decide +kernel
abbrev rm_Builder_faultOf : Room := { frames := 2, cells := 0, slots := 0, locals := 42 }
theorem cw_Builder_faultOf : CWV y_Builder_faultOf prog_2_method_3_code 3 (some .int) 1 := ⟨⟨g_3_166, g_1_7, by decide, by decide, by decide +kernel⟩, g_3_165, gs_2_2⟩
set_option maxHeartbeats 4000000 in
set_option maxRecDepth 100000 in
theorem c_Builder_faultOf (v0 : Nat) (ho_v0 : kd v0 = 6) (v1 : Int32) : MI y_Builder_faultOf rm_Builder_faultOf prog_2_method_3_code 3 .int (fun a => [.ref (a v0), .int v1]) (Builder_faultOf v0 v1) := by
  refine mi_of (by decide) (fun _ => le_ rfl) ?_
  intro k res σ C hR hRm hnL h
  unfold Builder_faultOf at h
  show WW k 0 [(0, .ref (ad k v0)), (1, .int v1)] [] σ
  refine ww_aload_n C 0 rfl rfl (dq dk_Builder_faultOf 0 rfl) ?_
  refine ww_getr C ko_Builder 1 ho_v0 (lt_ rfl) g_2_14 rfl rfl (dq dk_Builder_faultOf 1 rfl) ?_
  refine ww_iload_n C 1 rfl rfl (dq dk_Builder_faultOf 2 rfl) ?_
  refine ww_cVi (st := []) C (c_Program_hasItem (ch v0 1) (kc_Builder_1 _ ho_v0) v1) cw_Program_hasItem (kc_Builder_1 _ ho_v0) (lt_ rfl) rfl g_3_167 hRm ⟨⟨rfl, rfl⟩, le_ rfl, le_ rfl⟩ rfl rfl rfl (le_ rfl) (dq dk_Builder_faultOf 3 rfl) h (fun x2 σ1 h => ?_)
  refine ww_if_ne C 13 (dq dk_Builder_faultOf 4 rfl) (by decide) h (fun h => ?_) (fun h => ?_)
  · refine ww_aload_n C 0 rfl rfl (dq dk_Builder_faultOf 7 rfl) ?_
    refine ww_getr C ko_Builder 1 ho_v0 (lt_ rfl) g_2_14 rfl rfl (dq dk_Builder_faultOf 8 rfl) ?_
    refine ww_aload_n C 0 rfl rfl (dq dk_Builder_faultOf 9 rfl) ?_
    refine ww_getr C ko_Builder 1 ho_v0 (lt_ rfl) g_2_14 rfl rfl (dq dk_Builder_faultOf 10 rfl) ?_
    refine ww_getr C ko_Program 1 (kc_Builder_1 _ ho_v0) (lt_ rfl) g_1_180 rfl rfl (dq dk_Builder_faultOf 11 rfl) ?_
    refine ww_iload_n C 1 rfl rfl (dq dk_Builder_faultOf 12 rfl) ?_
    refine ww_iald C (kc_Program_1 _ (kc_Builder_1 _ ho_v0)).1 (kc_Program_1 _ (kc_Builder_1 _ ho_v0)).2 (dq dk_Builder_faultOf 13 rfl) h (fun x3 h => ?_)
    refine ww_cVi (st := []) C (c_Program_labelItem (ch v0 1) (kc_Builder_1 _ ho_v0) x3) cw_Program_labelItem (kc_Builder_1 _ ho_v0) (lt_ rfl) rfl g_3_168 hRm ⟨⟨rfl, rfl⟩, le_ rfl, le_ rfl⟩ rfl rfl rfl (le_ rfl) (dq dk_Builder_faultOf 14 rfl) h (fun x5 σ4 h => ?_)
    refine ww_istore_n C [(2, .int x5), (0, .ref (ad k v0)), (1, .int v1)] rfl hnL (lt_ rfl) rfl (dq dk_Builder_faultOf 15 rfl) ?_
    refine ww_aload_n C 1 rfl rfl (dq dk_Builder_faultOf 16 rfl) ?_
    refine ww_getr C ko_Builder 1 ho_v0 (lt_ rfl) g_2_14 rfl rfl (dq dk_Builder_faultOf 17 rfl) ?_
    refine ww_getr C ko_Program 0 (kc_Builder_1 _ ho_v0) (lt_ rfl) g_1_177 rfl rfl (dq dk_Builder_faultOf 18 rfl) ?_
    refine ww_iload_n C 2 rfl rfl (dq dk_Builder_faultOf 19 rfl) ?_
    refine ww_iald C (kc_Program_0 _ (kc_Builder_1 _ ho_v0)).1 (kc_Program_0 _ (kc_Builder_1 _ ho_v0)).2 (dq dk_Builder_faultOf 20 rfl) h (fun x6 h => ?_)
    by_cases e0_0 : x6 = 0
    · rw [if_pos e0_0] at h
      refine ww_tabIn C 88 (dq dk_Builder_faultOf 21 rfl) (by rw [e0_0]; decide) (by rw [e0_0]; decide) (by rw [e0_0]; rfl) (by decide) ?_
      refine ww_iload_n C 0 rfl rfl (dq dk_Builder_faultOf 22 rfl) ?_
      refine ww_iload_n C 2 rfl rfl (dq dk_Builder_faultOf 23 rfl) ?_
      refine ww_icmp_ne C 97 (dq dk_Builder_faultOf 24 rfl) (by decide) h (fun h => ?_) (fun h => ?_)
      · refine ww_iconst C (dq dk_Builder_faultOf 27 rfl) ic_1 ?_
        exact ww_iret C hR (dq dk_Builder_faultOf 28 rfl) h
      · refine ww_iconst C (dq dk_Builder_faultOf 25 rfl) ic_0 ?_
        refine ww_goto C 98 (dq dk_Builder_faultOf 26 rfl) (by decide) ?_
        exact ww_iret C hR (dq dk_Builder_faultOf 28 rfl) h
    rw [if_neg e0_0] at h
    by_cases e1_1 : x6 = 1
    · rw [if_pos e1_1] at h
      refine ww_tabIn C 99 (dq dk_Builder_faultOf 21 rfl) (by rw [e1_1]; decide) (by rw [e1_1]; decide) (by rw [e1_1]; rfl) (by decide) ?_
      refine ww_iload_n C 0 rfl rfl (dq dk_Builder_faultOf 29 rfl) ?_
      refine ww_iconst C (dq dk_Builder_faultOf 30 rfl) ic_m1 ?_
      refine ww_icmp_ne C 108 (dq dk_Builder_faultOf 31 rfl) (by decide) h (fun h => ?_) (fun h => ?_)
      · refine ww_iconst C (dq dk_Builder_faultOf 34 rfl) ic_0 ?_
        exact ww_iret C hR (dq dk_Builder_faultOf 35 rfl) h
      · refine ww_iconst C (dq dk_Builder_faultOf 32 rfl) ic_2 ?_
        refine ww_goto C 109 (dq dk_Builder_faultOf 33 rfl) (by decide) ?_
        exact ww_iret C hR (dq dk_Builder_faultOf 35 rfl) h
    rw [if_neg e1_1] at h
    by_cases e2_2 : x6 = 2
    · rw [if_pos e2_2] at h
      refine ww_tabIn C 99 (dq dk_Builder_faultOf 21 rfl) (by rw [e2_2]; decide) (by rw [e2_2]; decide) (by rw [e2_2]; rfl) (by decide) ?_
      refine ww_iload_n C 0 rfl rfl (dq dk_Builder_faultOf 29 rfl) ?_
      refine ww_iconst C (dq dk_Builder_faultOf 30 rfl) ic_m1 ?_
      refine ww_icmp_ne C 108 (dq dk_Builder_faultOf 31 rfl) (by decide) h (fun h => ?_) (fun h => ?_)
      · refine ww_iconst C (dq dk_Builder_faultOf 34 rfl) ic_0 ?_
        exact ww_iret C hR (dq dk_Builder_faultOf 35 rfl) h
      · refine ww_iconst C (dq dk_Builder_faultOf 32 rfl) ic_2 ?_
        refine ww_goto C 109 (dq dk_Builder_faultOf 33 rfl) (by decide) ?_
        exact ww_iret C hR (dq dk_Builder_faultOf 35 rfl) h
    rw [if_neg e2_2] at h
    by_cases e3_3 : x6 = 3
    · rw [if_pos e3_3] at h
      refine ww_tabIn C 99 (dq dk_Builder_faultOf 21 rfl) (by rw [e3_3]; decide) (by rw [e3_3]; decide) (by rw [e3_3]; rfl) (by decide) ?_
      refine ww_iload_n C 0 rfl rfl (dq dk_Builder_faultOf 29 rfl) ?_
      refine ww_iconst C (dq dk_Builder_faultOf 30 rfl) ic_m1 ?_
      refine ww_icmp_ne C 108 (dq dk_Builder_faultOf 31 rfl) (by decide) h (fun h => ?_) (fun h => ?_)
      · refine ww_iconst C (dq dk_Builder_faultOf 34 rfl) ic_0 ?_
        exact ww_iret C hR (dq dk_Builder_faultOf 35 rfl) h
      · refine ww_iconst C (dq dk_Builder_faultOf 32 rfl) ic_2 ?_
        refine ww_goto C 109 (dq dk_Builder_faultOf 33 rfl) (by decide) ?_
        exact ww_iret C hR (dq dk_Builder_faultOf 35 rfl) h
    rw [if_neg e3_3] at h
    by_cases e4_4 : x6 = 4
    · rw [if_pos e4_4] at h
      refine ww_tabIn C 134 (dq dk_Builder_faultOf 21 rfl) (by rw [e4_4]; decide) (by rw [e4_4]; decide) (by rw [e4_4]; rfl) (by decide) ?_
      refine ww_iconst C (dq dk_Builder_faultOf 50 rfl) ic_0 ?_
      exact ww_iret C hR (dq dk_Builder_faultOf 51 rfl) h
    rw [if_neg e4_4] at h
    by_cases e5_5 : x6 = 5
    · rw [if_pos e5_5] at h
      refine ww_tabIn C 134 (dq dk_Builder_faultOf 21 rfl) (by rw [e5_5]; decide) (by rw [e5_5]; decide) (by rw [e5_5]; rfl) (by decide) ?_
      refine ww_iconst C (dq dk_Builder_faultOf 50 rfl) ic_0 ?_
      exact ww_iret C hR (dq dk_Builder_faultOf 51 rfl) h
    rw [if_neg e5_5] at h
    by_cases e6_6 : x6 = 6
    · rw [if_pos e6_6] at h
      refine ww_tabIn C 134 (dq dk_Builder_faultOf 21 rfl) (by rw [e6_6]; decide) (by rw [e6_6]; decide) (by rw [e6_6]; rfl) (by decide) ?_
      refine ww_iconst C (dq dk_Builder_faultOf 50 rfl) ic_0 ?_
      exact ww_iret C hR (dq dk_Builder_faultOf 51 rfl) h
    rw [if_neg e6_6] at h
    by_cases e7_7 : x6 = 7
    · rw [if_pos e7_7] at h
      refine ww_tabIn C 134 (dq dk_Builder_faultOf 21 rfl) (by rw [e7_7]; decide) (by rw [e7_7]; decide) (by rw [e7_7]; rfl) (by decide) ?_
      refine ww_iconst C (dq dk_Builder_faultOf 50 rfl) ic_0 ?_
      exact ww_iret C hR (dq dk_Builder_faultOf 51 rfl) h
    rw [if_neg e7_7] at h
    by_cases e8_8 : x6 = 8
    · rw [if_pos e8_8] at h
      refine ww_tabIn C 110 (dq dk_Builder_faultOf 21 rfl) (by rw [e8_8]; decide) (by rw [e8_8]; decide) (by rw [e8_8]; rfl) (by decide) ?_
      refine ww_iload_n C 0 rfl rfl (dq dk_Builder_faultOf 36 rfl) ?_
      refine ww_iconst C (dq dk_Builder_faultOf 37 rfl) ic_m1 ?_
      refine ww_icmp_ne C 117 (dq dk_Builder_faultOf 38 rfl) (by decide) h (fun h => ?_) (fun h => ?_)
      · refine ww_aload_n C 1 rfl rfl (dq dk_Builder_faultOf 41 rfl) ?_
        refine ww_getr C ko_Builder 1 ho_v0 (lt_ rfl) g_2_14 rfl rfl (dq dk_Builder_faultOf 42 rfl) ?_
        refine ww_iload_n C 0 rfl rfl (dq dk_Builder_faultOf 43 rfl) ?_
        refine ww_cVi (st := []) C (c_Program_isMarked (ch v0 1) (kc_Builder_1 _ ho_v0) x5) cw_Program_isMarked (kc_Builder_1 _ ho_v0) (lt_ rfl) rfl g_3_172 hRm ⟨⟨rfl, rfl⟩, le_ rfl, le_ rfl⟩ rfl rfl rfl (le_ rfl) (dq dk_Builder_faultOf 44 rfl) h (fun x8 σ7 h => ?_)
        refine ww_if_eq C 132 (dq dk_Builder_faultOf 45 rfl) (by decide) h (fun h => ?_) (fun h => ?_)
        · refine ww_iconst C (dq dk_Builder_faultOf 48 rfl) ic_3 ?_
          exact ww_iret C hR (dq dk_Builder_faultOf 49 rfl) h
        · refine ww_iconst C (dq dk_Builder_faultOf 46 rfl) ic_0 ?_
          refine ww_goto C 133 (dq dk_Builder_faultOf 47 rfl) (by decide) ?_
          exact ww_iret C hR (dq dk_Builder_faultOf 49 rfl) h
      · refine ww_iconst C (dq dk_Builder_faultOf 39 rfl) ic_2 ?_
        exact ww_iret C hR (dq dk_Builder_faultOf 40 rfl) h
    rw [if_neg e8_8] at h
    have ne0_0 := lv_neT (a := 0) e0_0 (by decide)
    have ne1_1 := lv_neT (a := 1) e1_1 (by decide)
    have ne2_2 := lv_neT (a := 2) e2_2 (by decide)
    have ne3_3 := lv_neT (a := 3) e3_3 (by decide)
    have ne4_4 := lv_neT (a := 4) e4_4 (by decide)
    have ne5_5 := lv_neT (a := 5) e5_5 (by decide)
    have ne6_6 := lv_neT (a := 6) e6_6 (by decide)
    have ne7_7 := lv_neT (a := 7) e7_7 (by decide)
    have ne8_8 := lv_neT (a := 8) e8_8 (by decide)
    refine ww_tabOut C 134 (dq dk_Builder_faultOf 21 rfl) (by omega) (by decide) ?_
    refine ww_iconst C (dq dk_Builder_faultOf 50 rfl) ic_0 ?_
    exact ww_iret C hR (dq dk_Builder_faultOf 51 rfl) h
  · refine ww_iconst C (dq dk_Builder_faultOf 5 rfl) ic_0 ?_
    exact ww_iret C hR (dq dk_Builder_faultOf 6 rfl) h
abbrev y_Builder_leftInBundle : MethodName := ⟨"BundleHouse$Builder", "leftInBundle", "()I"⟩
def dl_Builder_leftInBundle : List (Nat × Instr × Nat) := [(0, .bipush 16, 2), (2, .aload_n 0, 1), (3, .getfield 92, 3), (6, .bipush 16, 2), (8, .irem, 1), (9, .isub, 1), (10, .ireturn, 1)]
set_option maxRecDepth 100000 in
theorem dk_Builder_leftInBundle : ∀ q ∈ dl_Builder_leftInBundle, decode prog_2_method_7_code q.1 = .ok q.2 := by decide +kernel
abbrev rm_Builder_leftInBundle : Room := { frames := 0, cells := 0, slots := 0, locals := 0 }
theorem cw_Builder_leftInBundle : CWV y_Builder_leftInBundle prog_2_method_7_code 1 (some .int) 0 := ⟨⟨g_4_19, g_1_7, by decide, by decide, by decide +kernel⟩, g_4_18, gs_2_12⟩
set_option maxHeartbeats 4000000 in
set_option maxRecDepth 100000 in
theorem c_Builder_leftInBundle (v0 : Nat) (ho_v0 : kd v0 = 6) : MI y_Builder_leftInBundle rm_Builder_leftInBundle prog_2_method_7_code 1 .int (fun a => [.ref (a v0)]) (Builder_leftInBundle v0) := by
  refine mi_of (by decide) (fun _ => le_ rfl) ?_
  intro k res σ C hR hRm hnL h
  unfold Builder_leftInBundle at h
  show WW k 0 [(0, .ref (ad k v0))] [] σ
  refine ww_bipush C (dq dk_Builder_leftInBundle 0 rfl) bp_16 ?_
  refine ww_aload_n C 0 rfl rfl (dq dk_Builder_leftInBundle 1 rfl) ?_
  refine ww_geti C ko_Builder 6 ho_v0 (lt_ rfl) g_2_19 rfl rfl (dq dk_Builder_leftInBundle 2 rfl) ?_
  refine ww_bipush C (dq dk_Builder_leftInBundle 3 rfl) bp_16 ?_
  refine ww_irem C (by decide) (dq dk_Builder_leftInBundle 4 rfl) ?_
  refine ww_isub C (dq dk_Builder_leftInBundle 5 rfl) ?_
  exact ww_iret C hR (dq dk_Builder_leftInBundle 6 rfl) h
abbrev y_Builder_layLast : MethodName := ⟨"BundleHouse$Builder", "layLast", "(I)I"⟩
def dl_Builder_layLast : List (Nat × Instr × Nat) := [(0, .iload_n 1, 1), (1, .aload_n 0, 1), (2, .invokevirtual 113, 3), (5, .if_icmp .le 16, 3), (8, .aload_n 0, 1), (9, .dup, 1), (10, .getfield 92, 3), (13, .aload_n 0, 1), (14, .invokevirtual 113, 3), (17, .iadd, 1), (18, .putfield 92, 3), (21, .aload_n 0, 1), (22, .dup, 1), (23, .getfield 92, 3), (26, .aload_n 0, 1), (27, .invokevirtual 113, 3), (30, .iadd, 1), (31, .putfield 92, 3), (34, .aload_n 0, 1), (35, .getfield 92, 3), (38, .iload_n 1, 1), (39, .isub, 1), (40, .ireturn, 1)]
set_option maxRecDepth 100000 in
theorem dk_Builder_layLast : ∀ q ∈ dl_Builder_layLast, decode prog_2_method_9_code q.1 = .ok q.2 := by decide +kernel
abbrev rm_Builder_layLast : Room := { frames := 1, cells := 0, slots := 0, locals := 20 }
theorem cw_Builder_layLast : CWV y_Builder_layLast prog_2_method_9_code 2 (some .int) 1 := ⟨⟨g_4_15, g_1_7, by decide, by decide, by decide +kernel⟩, g_4_14, gs_2_11⟩
set_option maxHeartbeats 4000000 in
set_option maxRecDepth 100000 in
theorem t_Builder_layLast_B21 {k : Cfg} {res : Int32 × St} (C : Cx k prog_2_method_9_code "BundleHouse$Builder") (hR : RI k .int res) (hRm : k.2.2.2.1 = rm_Builder_layLast) (hnL : k.2.2.2.2.2.2.2.2.2.2.2.1 = 2) (v0 : Nat) (v1 : Int32) (ho_v0 : kd v0 = 6) (σ : St) (h : Builder_layLast_B21 v0 v1 σ = some res) : WW k 21 [(0, .ref (ad k v0)), (1, .int v1)] [] σ := by
  unfold Builder_layLast_B21 at h
  refine ww_aload_n C 0 rfl rfl (dq dk_Builder_layLast 11 rfl) ?_
  refine ww_dup C rfl (dq dk_Builder_layLast 12 rfl) ?_
  refine ww_geti C ko_Builder 6 ho_v0 (lt_ rfl) g_2_19 rfl rfl (dq dk_Builder_layLast 13 rfl) ?_
  refine ww_aload_n C 0 rfl rfl (dq dk_Builder_layLast 14 rfl) ?_
  refine ww_cVi (st := [.int (σ v0 6), .ref (ad k v0)]) C (c_Builder_leftInBundle v0 ho_v0) cw_Builder_leftInBundle ho_v0 (lt_ rfl) rfl g_4_16 hRm ⟨⟨rfl, rfl⟩, le_ rfl, le_ rfl⟩ rfl rfl rfl (le_ rfl) (dq dk_Builder_layLast 15 rfl) h (fun x2 σ1 h => ?_)
  refine ww_iadd C (dq dk_Builder_layLast 16 rfl) ?_
  refine ww_puti C ko_Builder 6 ho_v0 (lt_ rfl) g_2_19 rfl rfl rfl rfl (dq dk_Builder_layLast 17 rfl) h (fun σ3 h => ?_)
  refine ww_aload_n C 0 rfl rfl (dq dk_Builder_layLast 18 rfl) ?_
  refine ww_geti C ko_Builder 6 ho_v0 (lt_ rfl) g_2_19 rfl rfl (dq dk_Builder_layLast 19 rfl) ?_
  refine ww_iload_n C 1 rfl rfl (dq dk_Builder_layLast 20 rfl) ?_
  refine ww_isub C (dq dk_Builder_layLast 21 rfl) ?_
  exact ww_iret C hR (dq dk_Builder_layLast 22 rfl) h
set_option maxHeartbeats 4000000 in
set_option maxRecDepth 100000 in
theorem c_Builder_layLast (v0 : Nat) (ho_v0 : kd v0 = 6) (v1 : Int32) : MI y_Builder_layLast rm_Builder_layLast prog_2_method_9_code 2 .int (fun a => [.ref (a v0), .int v1]) (Builder_layLast v0 v1) := by
  refine mi_of (by decide) (fun _ => le_ rfl) ?_
  intro k res σ C hR hRm hnL h
  unfold Builder_layLast at h
  show WW k 0 [(0, .ref (ad k v0)), (1, .int v1)] [] σ
  refine ww_iload_n C 1 rfl rfl (dq dk_Builder_layLast 0 rfl) ?_
  refine ww_aload_n C 0 rfl rfl (dq dk_Builder_layLast 1 rfl) ?_
  refine ww_cVi (st := [.int v1]) C (c_Builder_leftInBundle v0 ho_v0) cw_Builder_leftInBundle ho_v0 (lt_ rfl) rfl g_4_16 hRm ⟨⟨rfl, rfl⟩, le_ rfl, le_ rfl⟩ rfl rfl rfl (le_ rfl) (dq dk_Builder_layLast 2 rfl) h (fun x2 σ1 h => ?_)
  refine ww_icmp_le C 21 (dq dk_Builder_layLast 3 rfl) (by decide) h (fun h => ?_) (fun h => ?_)
  · exact ww_lv [0, 1] rfl (t_Builder_layLast_B21 C hR hRm hnL v0 v1 ho_v0 σ1 h)
  · refine ww_aload_n C 0 rfl rfl (dq dk_Builder_layLast 4 rfl) ?_
    refine ww_dup C rfl (dq dk_Builder_layLast 5 rfl) ?_
    refine ww_geti C ko_Builder 6 ho_v0 (lt_ rfl) g_2_19 rfl rfl (dq dk_Builder_layLast 6 rfl) ?_
    refine ww_aload_n C 0 rfl rfl (dq dk_Builder_layLast 7 rfl) ?_
    refine ww_cVi (st := [.int (σ1 v0 6), .ref (ad k v0)]) C (c_Builder_leftInBundle v0 ho_v0) cw_Builder_leftInBundle ho_v0 (lt_ rfl) rfl g_4_16 hRm ⟨⟨rfl, rfl⟩, le_ rfl, le_ rfl⟩ rfl rfl rfl (le_ rfl) (dq dk_Builder_layLast 8 rfl) h (fun x4 σ3 h => ?_)
    refine ww_iadd C (dq dk_Builder_layLast 9 rfl) ?_
    refine ww_puti C ko_Builder 6 ho_v0 (lt_ rfl) g_2_19 rfl rfl rfl rfl (dq dk_Builder_layLast 10 rfl) h (fun σ5 h => ?_)
    exact ww_lv [0, 1] rfl (t_Builder_layLast_B21 C hR hRm hnL v0 v1 ho_v0 σ5 h)
abbrev y_Builder_layPiece : MethodName := ⟨"BundleHouse$Builder", "layPiece", "(I)I"⟩
def dl_Builder_layPiece : List (Nat × Instr × Nat) := [(0, .iload_n 1, 1), (1, .aload_n 0, 1), (2, .invokevirtual 113, 3), (5, .if_icmp .le 16, 3), (8, .aload_n 0, 1), (9, .dup, 1), (10, .getfield 92, 3), (13, .aload_n 0, 1), (14, .invokevirtual 113, 3), (17, .iadd, 1), (18, .putfield 92, 3), (21, .aload_n 0, 1), (22, .getfield 92, 3), (25, .istore_n 2, 1), (26, .aload_n 0, 1), (27, .dup, 1), (28, .getfield 92, 3), (31, .iload_n 1, 1), (32, .iadd, 1), (33, .putfield 92, 3), (36, .iload_n 2, 1), (37, .ireturn, 1)]
set_option maxRecDepth 100000 in
theorem dk_Builder_layPiece : ∀ q ∈ dl_Builder_layPiece, decode prog_2_method_8_code q.1 = .ok q.2 := by decide +kernel
abbrev rm_Builder_layPiece : Room := { frames := 1, cells := 0, slots := 0, locals := 20 }
theorem cw_Builder_layPiece : CWV y_Builder_layPiece prog_2_method_8_code 3 (some .int) 1 := ⟨⟨g_4_23, g_1_7, by decide, by decide, by decide +kernel⟩, g_4_22, gs_2_13⟩
set_option maxHeartbeats 4000000 in
set_option maxRecDepth 100000 in
theorem t_Builder_layPiece_B21 {k : Cfg} {res : Int32 × St} (C : Cx k prog_2_method_8_code "BundleHouse$Builder") (hR : RI k .int res) (hRm : k.2.2.2.1 = rm_Builder_layPiece) (hnL : k.2.2.2.2.2.2.2.2.2.2.2.1 = 3) (v0 : Nat) (v1 : Int32) (ho_v0 : kd v0 = 6) (σ : St) (h : Builder_layPiece_B21 v0 v1 σ = some res) : WW k 21 [(0, .ref (ad k v0)), (1, .int v1)] [] σ := by
  unfold Builder_layPiece_B21 at h
  refine ww_aload_n C 0 rfl rfl (dq dk_Builder_layPiece 11 rfl) ?_
  refine ww_geti C ko_Builder 6 ho_v0 (lt_ rfl) g_2_19 rfl rfl (dq dk_Builder_layPiece 12 rfl) ?_
  refine ww_nmi h (fun x1 h => ?_)
  refine ww_istore_n C [(2, .int x1), (0, .ref (ad k v0)), (1, .int v1)] rfl hnL (lt_ rfl) rfl (dq dk_Builder_layPiece 13 rfl) ?_
  refine ww_aload_n C 1 rfl rfl (dq dk_Builder_layPiece 14 rfl) ?_
  refine ww_dup C rfl (dq dk_Builder_layPiece 15 rfl) ?_
  refine ww_geti C ko_Builder 6 ho_v0 (lt_ rfl) g_2_19 rfl rfl (dq dk_Builder_layPiece 16 rfl) ?_
  refine ww_iload_n C 2 rfl rfl (dq dk_Builder_layPiece 17 rfl) ?_
  refine ww_iadd C (dq dk_Builder_layPiece 18 rfl) ?_
  refine ww_puti C ko_Builder 6 ho_v0 (lt_ rfl) g_2_19 rfl rfl rfl rfl (dq dk_Builder_layPiece 19 rfl) h (fun σ2 h => ?_)
  refine ww_iload_n C 0 rfl rfl (dq dk_Builder_layPiece 20 rfl) ?_
  exact ww_iret C hR (dq dk_Builder_layPiece 21 rfl) h
set_option maxHeartbeats 4000000 in
set_option maxRecDepth 100000 in
theorem c_Builder_layPiece (v0 : Nat) (ho_v0 : kd v0 = 6) (v1 : Int32) : MI y_Builder_layPiece rm_Builder_layPiece prog_2_method_8_code 3 .int (fun a => [.ref (a v0), .int v1]) (Builder_layPiece v0 v1) := by
  refine mi_of (by decide) (fun _ => le_ rfl) ?_
  intro k res σ C hR hRm hnL h
  unfold Builder_layPiece at h
  show WW k 0 [(0, .ref (ad k v0)), (1, .int v1)] [] σ
  refine ww_iload_n C 1 rfl rfl (dq dk_Builder_layPiece 0 rfl) ?_
  refine ww_aload_n C 0 rfl rfl (dq dk_Builder_layPiece 1 rfl) ?_
  refine ww_cVi (st := [.int v1]) C (c_Builder_leftInBundle v0 ho_v0) cw_Builder_leftInBundle ho_v0 (lt_ rfl) rfl g_4_16 hRm ⟨⟨rfl, rfl⟩, le_ rfl, le_ rfl⟩ rfl rfl rfl (le_ rfl) (dq dk_Builder_layPiece 2 rfl) h (fun x2 σ1 h => ?_)
  refine ww_icmp_le C 21 (dq dk_Builder_layPiece 3 rfl) (by decide) h (fun h => ?_) (fun h => ?_)
  · exact ww_lv [0, 1] rfl (t_Builder_layPiece_B21 C hR hRm hnL v0 v1 ho_v0 σ1 h)
  · refine ww_aload_n C 0 rfl rfl (dq dk_Builder_layPiece 4 rfl) ?_
    refine ww_dup C rfl (dq dk_Builder_layPiece 5 rfl) ?_
    refine ww_geti C ko_Builder 6 ho_v0 (lt_ rfl) g_2_19 rfl rfl (dq dk_Builder_layPiece 6 rfl) ?_
    refine ww_aload_n C 0 rfl rfl (dq dk_Builder_layPiece 7 rfl) ?_
    refine ww_cVi (st := [.int (σ1 v0 6), .ref (ad k v0)]) C (c_Builder_leftInBundle v0 ho_v0) cw_Builder_leftInBundle ho_v0 (lt_ rfl) rfl g_4_16 hRm ⟨⟨rfl, rfl⟩, le_ rfl, le_ rfl⟩ rfl rfl rfl (le_ rfl) (dq dk_Builder_layPiece 8 rfl) h (fun x4 σ3 h => ?_)
    refine ww_iadd C (dq dk_Builder_layPiece 9 rfl) ?_
    refine ww_puti C ko_Builder 6 ho_v0 (lt_ rfl) g_2_19 rfl rfl rfl rfl (dq dk_Builder_layPiece 10 rfl) h (fun σ5 h => ?_)
    exact ww_lv [0, 1] rfl (t_Builder_layPiece_B21 C hR hRm hnL v0 v1 ho_v0 σ5 h)
abbrev y_Builder_layItem : MethodName := ⟨"BundleHouse$Builder", "layItem", "(I)I"⟩
def dl_Builder_layItem : List (Nat × Instr × Nat) := [(0, .aload_n 0, 1), (1, .getfield 33, 3), (4, .iload_n 1, 1), (5, .invokevirtual 104, 3), (8, .ifCond .eq 14, 3), (11, .aload_n 0, 1), (12, .aload_n 0, 1), (13, .getfield 29, 3), (16, .iload_n 1, 1), (17, .iaload, 1), (18, .invokevirtual 107, 3), (21, .ireturn, 1), (22, .aload_n 0, 1), (23, .getfield 33, 3), (26, .iload_n 1, 1), (27, .invokevirtual 80, 3), (30, .ifCond .eq 22, 3), (33, .aload_n 0, 1), (34, .aload_n 0, 1), (35, .getfield 92, 3), (38, .bipush 16, 2), (40, .iadd, 1), (41, .iconst 1, 1), (42, .isub, 1), (43, .bipush 16, 2), (45, .idiv, 1), (46, .bipush 16, 2), (48, .imul, 1), (49, .putfield 92, 3), (52, .aload_n 0, 1), (53, .aload_n 0, 1), (54, .getfield 29, 3), (57, .iload_n 1, 1), (58, .iaload, 1), (59, .invokevirtual 110, 3), (62, .istore_n 2, 1), (63, .aload_n 0, 1), (64, .getfield 33, 3), (67, .getfield 77, 3), (70, .iload_n 1, 1), (71, .iaload, 1), (72, .bipush 7, 2), (74, .if_icmp .ne 9, 3), (77, .aload_n 0, 1), (78, .iconst 5, 1), (79, .invokevirtual 110, 3), (82, .pop, 1), (83, .iload_n 2, 1), (84, .ireturn, 1)]
set_option maxRecDepth 100000 in
theorem dk_Builder_layItem : ∀ q ∈ dl_Builder_layItem, decode prog_2_method_6_code q.1 = .ok q.2 := by decide +kernel
abbrev rm_Builder_layItem : Room := { frames := 2, cells := 0, slots := 0, locals := 42 }
theorem cw_Builder_layItem : CWV y_Builder_layItem prog_2_method_6_code 3 (some .int) 1 := ⟨⟨g_4_7, g_1_7, by decide, by decide, by decide +kernel⟩, g_4_6, gs_2_10⟩
set_option maxHeartbeats 4000000 in
set_option maxRecDepth 100000 in
theorem t_Builder_layItem_B52 {k : Cfg} {res : Int32 × St} (C : Cx k prog_2_method_6_code "BundleHouse$Builder") (hR : RI k .int res) (hRm : k.2.2.2.1 = rm_Builder_layItem) (hnL : k.2.2.2.2.2.2.2.2.2.2.2.1 = 3) (v0 : Nat) (v1 : Int32) (ho_v0 : kd v0 = 6) (σ : St) (h : Builder_layItem_B52 v0 v1 σ = some res) : WW k 52 [(0, .ref (ad k v0)), (1, .int v1)] [] σ := by
  unfold Builder_layItem_B52 at h
  refine ww_aload_n C 0 rfl rfl (dq dk_Builder_layItem 29 rfl) ?_
  refine ww_aload_n C 0 rfl rfl (dq dk_Builder_layItem 30 rfl) ?_
  refine ww_getr C ko_Builder 5 ho_v0 (lt_ rfl) g_2_18 rfl rfl (dq dk_Builder_layItem 31 rfl) ?_
  refine ww_iload_n C 1 rfl rfl (dq dk_Builder_layItem 32 rfl) ?_
  refine ww_iald C (kc_Builder_5 _ ho_v0).1 (kc_Builder_5 _ ho_v0).2 (dq dk_Builder_layItem 33 rfl) h (fun x1 h => ?_)
  refine ww_cVi (st := []) C (c_Builder_layPiece v0 ho_v0 x1) cw_Builder_layPiece ho_v0 (lt_ rfl) rfl g_4_20 hRm ⟨⟨rfl, rfl⟩, le_ rfl, le_ rfl⟩ rfl rfl rfl (le_ rfl) (dq dk_Builder_layItem 34 rfl) h (fun x3 σ2 h => ?_)
  refine ww_istore_n C [(2, .int x3), (0, .ref (ad k v0)), (1, .int v1)] rfl hnL (lt_ rfl) rfl (dq dk_Builder_layItem 35 rfl) ?_
  refine ww_aload_n C 1 rfl rfl (dq dk_Builder_layItem 36 rfl) ?_
  refine ww_getr C ko_Builder 1 ho_v0 (lt_ rfl) g_2_14 rfl rfl (dq dk_Builder_layItem 37 rfl) ?_
  refine ww_getr C ko_Program 0 (kc_Builder_1 _ ho_v0) (lt_ rfl) g_1_177 rfl rfl (dq dk_Builder_layItem 38 rfl) ?_
  refine ww_iload_n C 2 rfl rfl (dq dk_Builder_layItem 39 rfl) ?_
  refine ww_iald C (kc_Program_0 _ (kc_Builder_1 _ ho_v0)).1 (kc_Program_0 _ (kc_Builder_1 _ ho_v0)).2 (dq dk_Builder_layItem 40 rfl) h (fun x4 h => ?_)
  refine ww_bipush C (dq dk_Builder_layItem 41 rfl) bp_7 ?_
  refine ww_icmp_ne C 83 (dq dk_Builder_layItem 42 rfl) (by decide) h (fun h => ?_) (fun h => ?_)
  · refine ww_iload_n C 0 rfl rfl (dq dk_Builder_layItem 47 rfl) ?_
    exact ww_iret C hR (dq dk_Builder_layItem 48 rfl) h
  · refine ww_aload_n C 1 rfl rfl (dq dk_Builder_layItem 43 rfl) ?_
    refine ww_iconst C (dq dk_Builder_layItem 44 rfl) ic_5 ?_
    refine ww_cVi (st := []) C (c_Builder_layPiece v0 ho_v0 5) cw_Builder_layPiece ho_v0 (lt_ rfl) rfl g_4_20 hRm ⟨⟨rfl, rfl⟩, le_ rfl, le_ rfl⟩ rfl rfl rfl (le_ rfl) (dq dk_Builder_layItem 45 rfl) h (fun x6 σ5 h => ?_)
    refine ww_pop C rfl (dq dk_Builder_layItem 46 rfl) ?_
    refine ww_iload_n C 0 rfl rfl (dq dk_Builder_layItem 47 rfl) ?_
    exact ww_iret C hR (dq dk_Builder_layItem 48 rfl) h
set_option maxHeartbeats 4000000 in
set_option maxRecDepth 100000 in
theorem c_Builder_layItem (v0 : Nat) (ho_v0 : kd v0 = 6) (v1 : Int32) : MI y_Builder_layItem rm_Builder_layItem prog_2_method_6_code 3 .int (fun a => [.ref (a v0), .int v1]) (Builder_layItem v0 v1) := by
  refine mi_of (by decide) (fun _ => le_ rfl) ?_
  intro k res σ C hR hRm hnL h
  unfold Builder_layItem at h
  show WW k 0 [(0, .ref (ad k v0)), (1, .int v1)] [] σ
  refine ww_aload_n C 0 rfl rfl (dq dk_Builder_layItem 0 rfl) ?_
  refine ww_getr C ko_Builder 1 ho_v0 (lt_ rfl) g_2_14 rfl rfl (dq dk_Builder_layItem 1 rfl) ?_
  refine ww_iload_n C 1 rfl rfl (dq dk_Builder_layItem 2 rfl) ?_
  refine ww_cVi (st := []) C (c_Program_pushes (ch v0 1) (kc_Builder_1 _ ho_v0) v1) cw_Program_pushes (kc_Builder_1 _ ho_v0) (lt_ rfl) rfl g_4_8 hRm ⟨⟨rfl, rfl⟩, le_ rfl, le_ rfl⟩ rfl rfl rfl (le_ rfl) (dq dk_Builder_layItem 3 rfl) h (fun x2 σ1 h => ?_)
  refine ww_if_eq C 22 (dq dk_Builder_layItem 4 rfl) (by decide) h (fun h => ?_) (fun h => ?_)
  · refine ww_aload_n C 0 rfl rfl (dq dk_Builder_layItem 12 rfl) ?_
    refine ww_getr C ko_Builder 1 ho_v0 (lt_ rfl) g_2_14 rfl rfl (dq dk_Builder_layItem 13 rfl) ?_
    refine ww_iload_n C 1 rfl rfl (dq dk_Builder_layItem 14 rfl) ?_
    refine ww_cVi (st := []) C (c_Program_isMarked (ch v0 1) (kc_Builder_1 _ ho_v0) v1) cw_Program_isMarked (kc_Builder_1 _ ho_v0) (lt_ rfl) rfl g_3_172 hRm ⟨⟨rfl, rfl⟩, le_ rfl, le_ rfl⟩ rfl rfl rfl (le_ rfl) (dq dk_Builder_layItem 15 rfl) h (fun x4 σ3 h => ?_)
    refine ww_if_eq C 52 (dq dk_Builder_layItem 16 rfl) (by decide) h (fun h => ?_) (fun h => ?_)
    · exact ww_lv [0, 1] rfl (t_Builder_layItem_B52 C hR hRm hnL v0 v1 ho_v0 σ3 h)
    · refine ww_aload_n C 0 rfl rfl (dq dk_Builder_layItem 17 rfl) ?_
      refine ww_aload_n C 0 rfl rfl (dq dk_Builder_layItem 18 rfl) ?_
      refine ww_geti C ko_Builder 6 ho_v0 (lt_ rfl) g_2_19 rfl rfl (dq dk_Builder_layItem 19 rfl) ?_
      refine ww_bipush C (dq dk_Builder_layItem 20 rfl) bp_16 ?_
      refine ww_iadd C (dq dk_Builder_layItem 21 rfl) ?_
      refine ww_iconst C (dq dk_Builder_layItem 22 rfl) ic_1 ?_
      refine ww_isub C (dq dk_Builder_layItem 23 rfl) ?_
      refine ww_bipush C (dq dk_Builder_layItem 24 rfl) bp_16 ?_
      refine ww_idiv C (by decide) (dq dk_Builder_layItem 25 rfl) ?_
      refine ww_bipush C (dq dk_Builder_layItem 26 rfl) bp_16 ?_
      refine ww_imul C (dq dk_Builder_layItem 27 rfl) ?_
      refine ww_puti C ko_Builder 6 ho_v0 (lt_ rfl) g_2_19 rfl rfl rfl rfl (dq dk_Builder_layItem 28 rfl) h (fun σ5 h => ?_)
      exact ww_lv [0, 1] rfl (t_Builder_layItem_B52 C hR hRm hnL v0 v1 ho_v0 σ5 h)
  · refine ww_aload_n C 0 rfl rfl (dq dk_Builder_layItem 5 rfl) ?_
    refine ww_aload_n C 0 rfl rfl (dq dk_Builder_layItem 6 rfl) ?_
    refine ww_getr C ko_Builder 5 ho_v0 (lt_ rfl) g_2_18 rfl rfl (dq dk_Builder_layItem 7 rfl) ?_
    refine ww_iload_n C 1 rfl rfl (dq dk_Builder_layItem 8 rfl) ?_
    refine ww_iald C (kc_Builder_5 _ ho_v0).1 (kc_Builder_5 _ ho_v0).2 (dq dk_Builder_layItem 9 rfl) h (fun x6 h => ?_)
    refine ww_cVi (st := []) C (c_Builder_layLast v0 ho_v0 x6) cw_Builder_layLast ho_v0 (lt_ rfl) rfl g_4_12 hRm ⟨⟨rfl, rfl⟩, le_ rfl, le_ rfl⟩ rfl rfl rfl (le_ rfl) (dq dk_Builder_layItem 10 rfl) h (fun x8 σ7 h => ?_)
    exact ww_iret C hR (dq dk_Builder_layItem 11 rfl) h
abbrev y_Builder_layAll : MethodName := ⟨"BundleHouse$Builder", "layAll", "()V"⟩
def dl_Builder_layAll : List (Nat × Instr × Nat) := [(0, .aload_n 0, 1), (1, .iconst 0, 1), (2, .putfield 92, 3), (5, .iconst 0, 1), (6, .istore_n 1, 1), (7, .iload_n 1, 1), (8, .aload_n 0, 1), (9, .getfield 33, 3), (12, .getfield 46, 3), (15, .if_icmp .ge 29, 3), (18, .iload_n 1, 1), (19, .bipush 120, 2), (21, .if_icmp .ge 23, 3), (24, .aload_n 0, 1), (25, .getfield 33, 3), (28, .getfield 95, 3), (31, .iload_n 1, 1), (32, .aload_n 0, 1), (33, .iload_n 1, 1), (34, .invokevirtual 98, 3), (37, .iastore, 1), (38, .iinc 1 1, 3), (41, .goto (-34), 3), (44, .aload_n 0, 1), (45, .getfield 33, 3), (48, .aload_n 0, 1), (49, .getfield 92, 3), (52, .putfield 101, 3), (55, .return_, 1)]
set_option maxRecDepth 100000 in
theorem dk_Builder_layAll : ∀ q ∈ dl_Builder_layAll, decode prog_2_method_5_code q.1 = .ok q.2 := by decide +kernel
abbrev rm_Builder_layAll : Room := { frames := 3, cells := 0, slots := 0, locals := 64 }
theorem cw_Builder_layAll : CWV y_Builder_layAll prog_2_method_5_code 2 none 0 := ⟨⟨g_4_3, g_1_7, by decide, by decide, by decide +kernel⟩, g_4_2, gs_2_9⟩
set_option maxHeartbeats 4000000 in
set_option maxRecDepth 100000 in
theorem t_Builder_layAll_B7 {k : Cfg} {res : St} (C : Cx k prog_2_method_5_code "BundleHouse$Builder") (hR : RV k res) (hRm : k.2.2.2.1 = rm_Builder_layAll) (hnL : k.2.2.2.2.2.2.2.2.2.2.2.1 = 2) : ∀ (n : Nat) (v0 : Nat) (v1 : Int32) (ho_v0 : kd v0 = 6) (σ : St), Builder_layAll_B7 n v0 v1 σ = some res → WW k 7 [(0, .ref (ad k v0)), (1, .int v1)] [] σ := by
  intro n
  induction n with
  | zero =>
    intro v0 v1 ho_v0 σ h
    have h : (none : Option (St)) = some res := h
    cases h
  | succ n ih =>
    intro v0 v1 ho_v0 σ h
    unfold Builder_layAll_B7 at h
    refine ww_iload_n C 1 rfl rfl (dq dk_Builder_layAll 5 rfl) ?_
    refine ww_aload_n C 0 rfl rfl (dq dk_Builder_layAll 6 rfl) ?_
    refine ww_getr C ko_Builder 1 ho_v0 (lt_ rfl) g_2_14 rfl rfl (dq dk_Builder_layAll 7 rfl) ?_
    refine ww_geti C ko_Program 4 (kc_Builder_1 _ ho_v0) (lt_ rfl) g_1_187 rfl rfl (dq dk_Builder_layAll 8 rfl) ?_
    refine ww_icmp_ge C 44 (dq dk_Builder_layAll 9 rfl) (by decide) h (fun h => ?_) (fun h => ?_)
    · refine ww_aload_n C 0 rfl rfl (dq dk_Builder_layAll 23 rfl) ?_
      refine ww_getr C ko_Builder 1 ho_v0 (lt_ rfl) g_2_14 rfl rfl (dq dk_Builder_layAll 24 rfl) ?_
      refine ww_aload_n C 0 rfl rfl (dq dk_Builder_layAll 25 rfl) ?_
      refine ww_geti C ko_Builder 6 ho_v0 (lt_ rfl) g_2_19 rfl rfl (dq dk_Builder_layAll 26 rfl) ?_
      refine ww_puti C ko_Program 5 (kc_Builder_1 _ ho_v0) (lt_ rfl) g_1_189 rfl rfl rfl rfl (dq dk_Builder_layAll 27 rfl) h (fun σ1 h => ?_)
      exact ww_vret C hR (dq dk_Builder_layAll 28 rfl) h
    · refine ww_iload_n C 1 rfl rfl (dq dk_Builder_layAll 10 rfl) ?_
      refine ww_bipush C (dq dk_Builder_layAll 11 rfl) bp_120 ?_
      refine ww_icmp_ge C 44 (dq dk_Builder_layAll 12 rfl) (by decide) h (fun h => ?_) (fun h => ?_)
      · refine ww_aload_n C 0 rfl rfl (dq dk_Builder_layAll 23 rfl) ?_
        refine ww_getr C ko_Builder 1 ho_v0 (lt_ rfl) g_2_14 rfl rfl (dq dk_Builder_layAll 24 rfl) ?_
        refine ww_aload_n C 0 rfl rfl (dq dk_Builder_layAll 25 rfl) ?_
        refine ww_geti C ko_Builder 6 ho_v0 (lt_ rfl) g_2_19 rfl rfl (dq dk_Builder_layAll 26 rfl) ?_
        refine ww_puti C ko_Program 5 (kc_Builder_1 _ ho_v0) (lt_ rfl) g_1_189 rfl rfl rfl rfl (dq dk_Builder_layAll 27 rfl) h (fun σ2 h => ?_)
        exact ww_vret C hR (dq dk_Builder_layAll 28 rfl) h
      · refine ww_aload_n C 0 rfl rfl (dq dk_Builder_layAll 13 rfl) ?_
        refine ww_getr C ko_Builder 1 ho_v0 (lt_ rfl) g_2_14 rfl rfl (dq dk_Builder_layAll 14 rfl) ?_
        refine ww_getr C ko_Program 3 (kc_Builder_1 _ ho_v0) (lt_ rfl) g_1_185 rfl rfl (dq dk_Builder_layAll 15 rfl) ?_
        refine ww_iload_n C 1 rfl rfl (dq dk_Builder_layAll 16 rfl) ?_
        refine ww_aload_n C 0 rfl rfl (dq dk_Builder_layAll 17 rfl) ?_
        refine ww_iload_n C 1 rfl rfl (dq dk_Builder_layAll 18 rfl) ?_
        refine ww_cVi (st := [.int v1, .ref (ad k (ch (ch v0 1) 3))]) C (c_Builder_layItem v0 ho_v0 v1) cw_Builder_layItem ho_v0 (lt_ rfl) rfl g_4_4 hRm ⟨⟨rfl, rfl⟩, le_ rfl, le_ rfl⟩ rfl rfl rfl (le_ rfl) (dq dk_Builder_layAll 19 rfl) h (fun x4 σ3 h => ?_)
        refine ww_iast C (kc_Program_3 _ (kc_Builder_1 _ ho_v0)).1 (kc_Program_3 _ (kc_Builder_1 _ ho_v0)).2 (dq dk_Builder_layAll 20 rfl) h (fun σ5 h => ?_)
        refine ww_iinc C 1 (fun z => [(1, .int z), (0, .ref (ad k v0))]) rfl ic_1 hnL (lt_ rfl) (fun _ => rfl) (dq dk_Builder_layAll 21 rfl) h (fun x6 h => ?_)
        refine ww_goto C 7 (dq dk_Builder_layAll 22 rfl) (by decide) ?_
        exact ww_lv [1, 0] rfl (ih v0 x6 ho_v0 σ5 h)
set_option maxHeartbeats 4000000 in
set_option maxRecDepth 100000 in
theorem c_Builder_layAll (v0 : Nat) (ho_v0 : kd v0 = 6) : MV y_Builder_layAll rm_Builder_layAll prog_2_method_5_code 2 (fun a => [.ref (a v0)]) (Builder_layAll v0) := by
  refine mv_of (by decide) (fun _ => le_ rfl) ?_
  intro k res σ C hR hRm hnL h
  unfold Builder_layAll at h
  show WW k 0 [(0, .ref (ad k v0))] [] σ
  refine ww_aload_n C 0 rfl rfl (dq dk_Builder_layAll 0 rfl) ?_
  refine ww_iconst C (dq dk_Builder_layAll 1 rfl) ic_0 ?_
  refine ww_puti C ko_Builder 6 ho_v0 (lt_ rfl) g_2_19 rfl rfl rfl rfl (dq dk_Builder_layAll 2 rfl) h (fun σ1 h => ?_)
  refine ww_iconst C (dq dk_Builder_layAll 3 rfl) ic_0 ?_
  refine ww_istore_n C [(1, .int 0), (0, .ref (ad k v0))] rfl hnL (lt_ rfl) rfl (dq dk_Builder_layAll 4 rfl) ?_
  exact ww_lv [1, 0] rfl (t_Builder_layAll_B7 C hR hRm hnL FU v0 0 ho_v0 σ1 h)
abbrev y_Builder_labelPlace : MethodName := ⟨"BundleHouse$Builder", "labelPlace", "(I)I"⟩
def dl_Builder_labelPlace : List (Nat × Instr × Nat) := [(0, .aload_n 0, 1), (1, .getfield 33, 3), (4, .aload_n 0, 1), (5, .getfield 33, 3), (8, .aload_n 0, 1), (9, .getfield 33, 3), (12, .getfield 71, 3), (15, .iload_n 1, 1), (16, .iaload, 1), (17, .invokevirtual 74, 3), (20, .invokevirtual 122, 3), (23, .ireturn, 1)]
set_option maxRecDepth 100000 in
theorem dk_Builder_labelPlace : ∀ q ∈ dl_Builder_labelPlace, decode prog_2_method_11_code q.1 = .ok q.2 := by decide +kernel
abbrev rm_Builder_labelPlace : Room := { frames := 2, cells := 0, slots := 0, locals := 42 }
theorem cw_Builder_labelPlace : CWV y_Builder_labelPlace prog_2_method_11_code 2 (some .int) 1 := ⟨⟨g_4_35, g_1_7, by decide, by decide, by decide +kernel⟩, g_4_34, gs_3_0⟩
set_option maxHeartbeats 4000000 in
set_option maxRecDepth 100000 in
theorem c_Builder_labelPlace (v0 : Nat) (ho_v0 : kd v0 = 6) (v1 : Int32) : MI y_Builder_labelPlace rm_Builder_labelPlace prog_2_method_11_code 2 .int (fun a => [.ref (a v0), .int v1]) (Builder_labelPlace v0 v1) := by
  refine mi_of (by decide) (fun _ => le_ rfl) ?_
  intro k res σ C hR hRm hnL h
  unfold Builder_labelPlace at h
  show WW k 0 [(0, .ref (ad k v0)), (1, .int v1)] [] σ
  refine ww_aload_n C 0 rfl rfl (dq dk_Builder_labelPlace 0 rfl) ?_
  refine ww_getr C ko_Builder 1 ho_v0 (lt_ rfl) g_2_14 rfl rfl (dq dk_Builder_labelPlace 1 rfl) ?_
  refine ww_aload_n C 0 rfl rfl (dq dk_Builder_labelPlace 2 rfl) ?_
  refine ww_getr C ko_Builder 1 ho_v0 (lt_ rfl) g_2_14 rfl rfl (dq dk_Builder_labelPlace 3 rfl) ?_
  refine ww_aload_n C 0 rfl rfl (dq dk_Builder_labelPlace 4 rfl) ?_
  refine ww_getr C ko_Builder 1 ho_v0 (lt_ rfl) g_2_14 rfl rfl (dq dk_Builder_labelPlace 5 rfl) ?_
  refine ww_getr C ko_Program 1 (kc_Builder_1 _ ho_v0) (lt_ rfl) g_1_180 rfl rfl (dq dk_Builder_labelPlace 6 rfl) ?_
  refine ww_iload_n C 1 rfl rfl (dq dk_Builder_labelPlace 7 rfl) ?_
  refine ww_iald C (kc_Program_1 _ (kc_Builder_1 _ ho_v0)).1 (kc_Program_1 _ (kc_Builder_1 _ ho_v0)).2 (dq dk_Builder_labelPlace 8 rfl) h (fun x1 h => ?_)
  refine ww_cVi (st := [.ref (ad k (ch v0 1))]) C (c_Program_labelItem (ch v0 1) (kc_Builder_1 _ ho_v0) x1) cw_Program_labelItem (kc_Builder_1 _ ho_v0) (lt_ rfl) rfl g_3_168 hRm ⟨⟨rfl, rfl⟩, le_ rfl, le_ rfl⟩ rfl rfl rfl (le_ rfl) (dq dk_Builder_labelPlace 9 rfl) h (fun x3 σ2 h => ?_)
  refine ww_cVi (st := []) C (c_Program_itemPlace (ch v0 1) (kc_Builder_1 _ ho_v0) x3) cw_Program_itemPlace (kc_Builder_1 _ ho_v0) (lt_ rfl) rfl g_4_36 hRm ⟨⟨rfl, rfl⟩, le_ rfl, le_ rfl⟩ rfl rfl rfl (le_ rfl) (dq dk_Builder_labelPlace 10 rfl) h (fun x5 σ4 h => ?_)
  exact ww_iret C hR (dq dk_Builder_labelPlace 11 rfl) h
abbrev y_Builder_distance : MethodName := ⟨"BundleHouse$Builder", "distance", "(I)I"⟩
def dl_Builder_distance : List (Nat × Instr × Nat) := [(0, .aload_n 0, 1), (1, .iload_n 1, 1), (2, .invokevirtual 125, 3), (5, .aload_n 0, 1), (6, .getfield 33, 3), (9, .getfield 95, 3), (12, .iload_n 1, 1), (13, .iaload, 1), (14, .aload_n 0, 1), (15, .getfield 29, 3), (18, .iload_n 1, 1), (19, .iaload, 1), (20, .iadd, 1), (21, .isub, 1), (22, .ireturn, 1)]
set_option maxRecDepth 100000 in
theorem dk_Builder_distance : ∀ q ∈ dl_Builder_distance, decode prog_2_method_12_code q.1 = .ok q.2 := by decide +kernel
abbrev rm_Builder_distance : Room := { frames := 3, cells := 0, slots := 0, locals := 63 }
theorem cw_Builder_distance : CWV y_Builder_distance prog_2_method_12_code 2 (some .int) 1 := ⟨⟨g_4_31, g_1_7, by decide, by decide, by decide +kernel⟩, g_4_30, gs_2_15⟩
set_option maxHeartbeats 4000000 in
set_option maxRecDepth 100000 in
theorem c_Builder_distance (v0 : Nat) (ho_v0 : kd v0 = 6) (v1 : Int32) : MI y_Builder_distance rm_Builder_distance prog_2_method_12_code 2 .int (fun a => [.ref (a v0), .int v1]) (Builder_distance v0 v1) := by
  refine mi_of (by decide) (fun _ => le_ rfl) ?_
  intro k res σ C hR hRm hnL h
  unfold Builder_distance at h
  show WW k 0 [(0, .ref (ad k v0)), (1, .int v1)] [] σ
  refine ww_aload_n C 0 rfl rfl (dq dk_Builder_distance 0 rfl) ?_
  refine ww_iload_n C 1 rfl rfl (dq dk_Builder_distance 1 rfl) ?_
  refine ww_cVi (st := []) C (c_Builder_labelPlace v0 ho_v0 v1) cw_Builder_labelPlace ho_v0 (lt_ rfl) rfl g_4_32 hRm ⟨⟨rfl, rfl⟩, le_ rfl, le_ rfl⟩ rfl rfl rfl (le_ rfl) (dq dk_Builder_distance 2 rfl) h (fun x2 σ1 h => ?_)
  refine ww_aload_n C 0 rfl rfl (dq dk_Builder_distance 3 rfl) ?_
  refine ww_getr C ko_Builder 1 ho_v0 (lt_ rfl) g_2_14 rfl rfl (dq dk_Builder_distance 4 rfl) ?_
  refine ww_getr C ko_Program 3 (kc_Builder_1 _ ho_v0) (lt_ rfl) g_1_185 rfl rfl (dq dk_Builder_distance 5 rfl) ?_
  refine ww_iload_n C 1 rfl rfl (dq dk_Builder_distance 6 rfl) ?_
  refine ww_iald C (kc_Program_3 _ (kc_Builder_1 _ ho_v0)).1 (kc_Program_3 _ (kc_Builder_1 _ ho_v0)).2 (dq dk_Builder_distance 7 rfl) h (fun x3 h => ?_)
  refine ww_aload_n C 0 rfl rfl (dq dk_Builder_distance 8 rfl) ?_
  refine ww_getr C ko_Builder 5 ho_v0 (lt_ rfl) g_2_18 rfl rfl (dq dk_Builder_distance 9 rfl) ?_
  refine ww_iload_n C 1 rfl rfl (dq dk_Builder_distance 10 rfl) ?_
  refine ww_iald C (kc_Builder_5 _ ho_v0).1 (kc_Builder_5 _ ho_v0).2 (dq dk_Builder_distance 11 rfl) h (fun x4 h => ?_)
  refine ww_iadd C (dq dk_Builder_distance 12 rfl) ?_
  refine ww_isub C (dq dk_Builder_distance 13 rfl) ?_
  exact ww_iret C hR (dq dk_Builder_distance 14 rfl) h
abbrev y_Builder_lengthen : MethodName := ⟨"BundleHouse$Builder", "lengthen", "()Z"⟩
def dl_Builder_lengthen : List (Nat × Instr × Nat) := [(0, .iconst 0, 1), (1, .istore_n 1, 1), (2, .iconst 0, 1), (3, .istore_n 2, 1), (4, .iload_n 2, 1), (5, .aload_n 0, 1), (6, .getfield 33, 3), (9, .getfield 46, 3), (12, .if_icmp .ge 99, 3), (15, .iload_n 2, 1), (16, .bipush 120, 2), (18, .if_icmp .ge 93, 3), (21, .aload_n 0, 1), (22, .getfield 33, 3), (25, .getfield 77, 3), (28, .iload_n 2, 1), (29, .iaload, 1), (30, .iconst 1, 1), (31, .if_icmp .eq 16, 3), (34, .aload_n 0, 1), (35, .getfield 33, 3), (38, .getfield 77, 3), (41, .iload_n 2, 1), (42, .iaload, 1), (43, .iconst 2, 1), (44, .if_icmp .ne 7, 3), (47, .iconst 1, 1), (48, .goto 4, 3), (51, .iconst 0, 1), (52, .istore_n 3, 1), (53, .iload_n 3, 1), (54, .ifCond .eq 51, 3), (57, .aload_n 0, 1), (58, .getfield 29, 3), (61, .iload_n 2, 1), (62, .iaload, 1), (63, .iconst 2, 1), (64, .if_icmp .ne 41, 3), (67, .aload_n 0, 1), (68, .iload_n 2, 1), (69, .invokevirtual 116, 3), (72, .invokestatic 119, 3), (75, .ifCond .ne 30, 3), (78, .aload_n 0, 1), (79, .getfield 29, 3), (82, .iload_n 2, 1), (83, .aload_n 0, 1), (84, .getfield 33, 3), (87, .getfield 77, 3), (90, .iload_n 2, 1), (91, .iaload, 1), (92, .iconst 1, 1), (93, .if_icmp .ne 7, 3), (96, .iconst 5, 1), (97, .goto 5, 3), (100, .bipush 6, 2), (102, .iastore, 1), (103, .iconst 1, 1), (104, .istore_n 1, 1), (105, .iinc 2 1, 3), (108, .goto (-104), 3), (111, .iload_n 1, 1), (112, .ireturn, 1)]
set_option maxRecDepth 100000 in
theorem dk_Builder_lengthen : ∀ q ∈ dl_Builder_lengthen, decode prog_2_method_10_code q.1 = .ok q.2 := by decide +kernel
abbrev rm_Builder_lengthen : Room := { frames := 4, cells := 0, slots := 0, locals := 84 }
theorem cw_Builder_lengthen : CWV y_Builder_lengthen prog_2_method_10_code 4 (some .boolean) 0 := ⟨⟨g_4_27, g_1_7, by decide, by decide, by decide +kernel⟩, g_4_26, gs_2_14⟩
set_option maxHeartbeats 4000000 in
set_option maxRecDepth 100000 in
theorem t_Builder_lengthen_B52 {k : Cfg} {res : Int32 × St} (C : Cx k prog_2_method_10_code "BundleHouse$Builder") (hR : RI k .boolean res) (hRm : k.2.2.2.1 = rm_Builder_lengthen) (hnL : k.2.2.2.2.2.2.2.2.2.2.2.1 = 4) {K4 : Nat → Int32 → Int32 → St → Option (Int32 × St)} (hK4 : ∀ (v0 : Nat) (v1 : Int32) (v2 : Int32) (ho_v0 : kd v0 = 6) (σ : St), K4 v0 v1 v2 σ = some res → WW k 4 [(0, .ref (ad k v0)), (1, .int v1), (2, .int v2)] [] σ) (v0 : Nat) (v1 : Int32) (v2 : Int32) (t0 : Int32) (ho_v0 : kd v0 = 6) (σ : St) (h : Builder_lengthen_B52 K4 v0 v1 v2 t0 σ = some res) : WW k 52 [(0, .ref (ad k v0)), (1, .int v1), (2, .int v2)] [.int t0] σ := by
  unfold Builder_lengthen_B52 at h
  refine ww_istore_n C [(3, .int t0), (0, .ref (ad k v0)), (1, .int v1), (2, .int v2)] rfl hnL (lt_ rfl) rfl (dq dk_Builder_lengthen 29 rfl) ?_
  refine ww_iload_n C 0 rfl rfl (dq dk_Builder_lengthen 30 rfl) ?_
  refine ww_if_eq C 105 (dq dk_Builder_lengthen 31 rfl) (by decide) h (fun h => ?_) (fun h => ?_)
  · refine ww_iinc C 3 (fun z => [(2, .int z), (3, .int t0), (0, .ref (ad k v0)), (1, .int v1)]) rfl ic_1 hnL (lt_ rfl) (fun _ => rfl) (dq dk_Builder_lengthen 59 rfl) h (fun x1 h => ?_)
    refine ww_goto C 4 (dq dk_Builder_lengthen 60 rfl) (by decide) ?_
    exact ww_lv [2, 3, 0] rfl (hK4 v0 v1 x1 ho_v0 σ h)
  · refine ww_aload_n C 1 rfl rfl (dq dk_Builder_lengthen 32 rfl) ?_
    refine ww_getr C ko_Builder 5 ho_v0 (lt_ rfl) g_2_18 rfl rfl (dq dk_Builder_lengthen 33 rfl) ?_
    refine ww_iload_n C 3 rfl rfl (dq dk_Builder_lengthen 34 rfl) ?_
    refine ww_iald C (kc_Builder_5 _ ho_v0).1 (kc_Builder_5 _ ho_v0).2 (dq dk_Builder_lengthen 35 rfl) h (fun x2 h => ?_)
    refine ww_iconst C (dq dk_Builder_lengthen 36 rfl) ic_2 ?_
    refine ww_icmp_ne C 105 (dq dk_Builder_lengthen 37 rfl) (by decide) h (fun h => ?_) (fun h => ?_)
    · refine ww_iinc C 3 (fun z => [(2, .int z), (3, .int t0), (0, .ref (ad k v0)), (1, .int v1)]) rfl ic_1 hnL (lt_ rfl) (fun _ => rfl) (dq dk_Builder_lengthen 59 rfl) h (fun x3 h => ?_)
      refine ww_goto C 4 (dq dk_Builder_lengthen 60 rfl) (by decide) ?_
      exact ww_lv [2, 3, 0] rfl (hK4 v0 v1 x3 ho_v0 σ h)
    · refine ww_aload_n C 1 rfl rfl (dq dk_Builder_lengthen 38 rfl) ?_
      refine ww_iload_n C 3 rfl rfl (dq dk_Builder_lengthen 39 rfl) ?_
      refine ww_cVi (st := []) C (c_Builder_distance v0 ho_v0 v2) cw_Builder_distance ho_v0 (lt_ rfl) rfl g_4_28 hRm ⟨⟨rfl, rfl⟩, le_ rfl, le_ rfl⟩ rfl rfl rfl (le_ rfl) (dq dk_Builder_lengthen 40 rfl) h (fun x5 σ4 h => ?_)
      refine ww_cNi (st := []) C (c_House_isSmall x5) cw_House_isSmall nw_14 hRm ⟨⟨rfl, rfl⟩, le_ rfl, le_ rfl⟩ rfl rfl rfl (le_ rfl) (dq dk_Builder_lengthen 41 rfl) h (fun x7 σ6 h => ?_)
      refine ww_if_ne C 105 (dq dk_Builder_lengthen 42 rfl) (by decide) h (fun h => ?_) (fun h => ?_)
      · refine ww_iinc C 3 (fun z => [(2, .int z), (3, .int t0), (0, .ref (ad k v0)), (1, .int v1)]) rfl ic_1 hnL (lt_ rfl) (fun _ => rfl) (dq dk_Builder_lengthen 59 rfl) h (fun x8 h => ?_)
        refine ww_goto C 4 (dq dk_Builder_lengthen 60 rfl) (by decide) ?_
        exact ww_lv [2, 3, 0] rfl (hK4 v0 v1 x8 ho_v0 σ6 h)
      · refine ww_aload_n C 1 rfl rfl (dq dk_Builder_lengthen 43 rfl) ?_
        refine ww_getr C ko_Builder 5 ho_v0 (lt_ rfl) g_2_18 rfl rfl (dq dk_Builder_lengthen 44 rfl) ?_
        refine ww_iload_n C 3 rfl rfl (dq dk_Builder_lengthen 45 rfl) ?_
        refine ww_aload_n C 1 rfl rfl (dq dk_Builder_lengthen 46 rfl) ?_
        refine ww_getr C ko_Builder 1 ho_v0 (lt_ rfl) g_2_14 rfl rfl (dq dk_Builder_lengthen 47 rfl) ?_
        refine ww_getr C ko_Program 0 (kc_Builder_1 _ ho_v0) (lt_ rfl) g_1_177 rfl rfl (dq dk_Builder_lengthen 48 rfl) ?_
        refine ww_iload_n C 3 rfl rfl (dq dk_Builder_lengthen 49 rfl) ?_
        refine ww_iald C (kc_Program_0 _ (kc_Builder_1 _ ho_v0)).1 (kc_Program_0 _ (kc_Builder_1 _ ho_v0)).2 (dq dk_Builder_lengthen 50 rfl) h (fun x9 h => ?_)
        refine ww_iconst C (dq dk_Builder_lengthen 51 rfl) ic_1 ?_
        refine ww_icmp_ne C 100 (dq dk_Builder_lengthen 52 rfl) (by decide) h (fun h => ?_) (fun h => ?_)
        · refine ww_bipush C (dq dk_Builder_lengthen 55 rfl) bp_6 ?_
          refine ww_iast C (kc_Builder_5 _ ho_v0).1 (kc_Builder_5 _ ho_v0).2 (dq dk_Builder_lengthen 56 rfl) h (fun σ10 h => ?_)
          refine ww_iconst C (dq dk_Builder_lengthen 57 rfl) ic_1 ?_
          refine ww_istore_n C [(1, .int 1), (3, .int t0), (0, .ref (ad k v0)), (2, .int v2)] rfl hnL (lt_ rfl) rfl (dq dk_Builder_lengthen 58 rfl) ?_
          refine ww_iinc C 3 (fun z => [(2, .int z), (1, .int 1), (3, .int t0), (0, .ref (ad k v0))]) rfl ic_1 hnL (lt_ rfl) (fun _ => rfl) (dq dk_Builder_lengthen 59 rfl) h (fun x11 h => ?_)
          refine ww_goto C 4 (dq dk_Builder_lengthen 60 rfl) (by decide) ?_
          exact ww_lv [3, 1, 0] rfl (hK4 v0 1 x11 ho_v0 σ10 h)
        · refine ww_iconst C (dq dk_Builder_lengthen 53 rfl) ic_5 ?_
          refine ww_goto C 102 (dq dk_Builder_lengthen 54 rfl) (by decide) ?_
          refine ww_iast C (kc_Builder_5 _ ho_v0).1 (kc_Builder_5 _ ho_v0).2 (dq dk_Builder_lengthen 56 rfl) h (fun σ12 h => ?_)
          refine ww_iconst C (dq dk_Builder_lengthen 57 rfl) ic_1 ?_
          refine ww_istore_n C [(1, .int 1), (3, .int t0), (0, .ref (ad k v0)), (2, .int v2)] rfl hnL (lt_ rfl) rfl (dq dk_Builder_lengthen 58 rfl) ?_
          refine ww_iinc C 3 (fun z => [(2, .int z), (1, .int 1), (3, .int t0), (0, .ref (ad k v0))]) rfl ic_1 hnL (lt_ rfl) (fun _ => rfl) (dq dk_Builder_lengthen 59 rfl) h (fun x13 h => ?_)
          refine ww_goto C 4 (dq dk_Builder_lengthen 60 rfl) (by decide) ?_
          exact ww_lv [3, 1, 0] rfl (hK4 v0 1 x13 ho_v0 σ12 h)
set_option maxHeartbeats 4000000 in
set_option maxRecDepth 100000 in
theorem t_Builder_lengthen_B4 {k : Cfg} {res : Int32 × St} (C : Cx k prog_2_method_10_code "BundleHouse$Builder") (hR : RI k .boolean res) (hRm : k.2.2.2.1 = rm_Builder_lengthen) (hnL : k.2.2.2.2.2.2.2.2.2.2.2.1 = 4) : ∀ (n : Nat) (v0 : Nat) (v1 : Int32) (v2 : Int32) (ho_v0 : kd v0 = 6) (σ : St), Builder_lengthen_B4 n v0 v1 v2 σ = some res → WW k 4 [(0, .ref (ad k v0)), (1, .int v1), (2, .int v2)] [] σ := by
  intro n
  induction n with
  | zero =>
    intro v0 v1 v2 ho_v0 σ h
    have h : (none : Option (Int32 × St)) = some res := h
    cases h
  | succ n ih =>
    intro v0 v1 v2 ho_v0 σ h
    unfold Builder_lengthen_B4 at h
    refine ww_iload_n C 2 rfl rfl (dq dk_Builder_lengthen 4 rfl) ?_
    refine ww_aload_n C 0 rfl rfl (dq dk_Builder_lengthen 5 rfl) ?_
    refine ww_getr C ko_Builder 1 ho_v0 (lt_ rfl) g_2_14 rfl rfl (dq dk_Builder_lengthen 6 rfl) ?_
    refine ww_geti C ko_Program 4 (kc_Builder_1 _ ho_v0) (lt_ rfl) g_1_187 rfl rfl (dq dk_Builder_lengthen 7 rfl) ?_
    refine ww_icmp_ge C 111 (dq dk_Builder_lengthen 8 rfl) (by decide) h (fun h => ?_) (fun h => ?_)
    · refine ww_iload_n C 1 rfl rfl (dq dk_Builder_lengthen 61 rfl) ?_
      exact ww_zret C hR (dq dk_Builder_lengthen 62 rfl) h
    · refine ww_iload_n C 2 rfl rfl (dq dk_Builder_lengthen 9 rfl) ?_
      refine ww_bipush C (dq dk_Builder_lengthen 10 rfl) bp_120 ?_
      refine ww_icmp_ge C 111 (dq dk_Builder_lengthen 11 rfl) (by decide) h (fun h => ?_) (fun h => ?_)
      · refine ww_iload_n C 1 rfl rfl (dq dk_Builder_lengthen 61 rfl) ?_
        exact ww_zret C hR (dq dk_Builder_lengthen 62 rfl) h
      · refine ww_aload_n C 0 rfl rfl (dq dk_Builder_lengthen 12 rfl) ?_
        refine ww_getr C ko_Builder 1 ho_v0 (lt_ rfl) g_2_14 rfl rfl (dq dk_Builder_lengthen 13 rfl) ?_
        refine ww_getr C ko_Program 0 (kc_Builder_1 _ ho_v0) (lt_ rfl) g_1_177 rfl rfl (dq dk_Builder_lengthen 14 rfl) ?_
        refine ww_iload_n C 2 rfl rfl (dq dk_Builder_lengthen 15 rfl) ?_
        refine ww_iald C (kc_Program_0 _ (kc_Builder_1 _ ho_v0)).1 (kc_Program_0 _ (kc_Builder_1 _ ho_v0)).2 (dq dk_Builder_lengthen 16 rfl) h (fun x1 h => ?_)
        refine ww_iconst C (dq dk_Builder_lengthen 17 rfl) ic_1 ?_
        refine ww_icmp_eq C 47 (dq dk_Builder_lengthen 18 rfl) (by decide) h (fun h => ?_) (fun h => ?_)
        · refine ww_iconst C (dq dk_Builder_lengthen 26 rfl) ic_1 ?_
          refine ww_goto C 52 (dq dk_Builder_lengthen 27 rfl) (by decide) ?_
          exact ww_lv [0, 1, 2] rfl (t_Builder_lengthen_B52 C hR hRm hnL ih v0 v1 v2 1 ho_v0 σ h)
        · refine ww_aload_n C 0 rfl rfl (dq dk_Builder_lengthen 19 rfl) ?_
          refine ww_getr C ko_Builder 1 ho_v0 (lt_ rfl) g_2_14 rfl rfl (dq dk_Builder_lengthen 20 rfl) ?_
          refine ww_getr C ko_Program 0 (kc_Builder_1 _ ho_v0) (lt_ rfl) g_1_177 rfl rfl (dq dk_Builder_lengthen 21 rfl) ?_
          refine ww_iload_n C 2 rfl rfl (dq dk_Builder_lengthen 22 rfl) ?_
          refine ww_iald C (kc_Program_0 _ (kc_Builder_1 _ ho_v0)).1 (kc_Program_0 _ (kc_Builder_1 _ ho_v0)).2 (dq dk_Builder_lengthen 23 rfl) h (fun x2 h => ?_)
          refine ww_iconst C (dq dk_Builder_lengthen 24 rfl) ic_2 ?_
          refine ww_icmp_ne C 51 (dq dk_Builder_lengthen 25 rfl) (by decide) h (fun h => ?_) (fun h => ?_)
          · refine ww_iconst C (dq dk_Builder_lengthen 28 rfl) ic_0 ?_
            exact ww_lv [0, 1, 2] rfl (t_Builder_lengthen_B52 C hR hRm hnL ih v0 v1 v2 0 ho_v0 σ h)
          · refine ww_iconst C (dq dk_Builder_lengthen 26 rfl) ic_1 ?_
            refine ww_goto C 52 (dq dk_Builder_lengthen 27 rfl) (by decide) ?_
            exact ww_lv [0, 1, 2] rfl (t_Builder_lengthen_B52 C hR hRm hnL ih v0 v1 v2 1 ho_v0 σ h)
set_option maxHeartbeats 4000000 in
set_option maxRecDepth 100000 in
theorem c_Builder_lengthen (v0 : Nat) (ho_v0 : kd v0 = 6) : MI y_Builder_lengthen rm_Builder_lengthen prog_2_method_10_code 4 .boolean (fun a => [.ref (a v0)]) (Builder_lengthen v0) := by
  refine mi_of (by decide) (fun _ => le_ rfl) ?_
  intro k res σ C hR hRm hnL h
  unfold Builder_lengthen at h
  show WW k 0 [(0, .ref (ad k v0))] [] σ
  refine ww_iconst C (dq dk_Builder_lengthen 0 rfl) ic_0 ?_
  refine ww_istore_n C [(1, .int 0), (0, .ref (ad k v0))] rfl hnL (lt_ rfl) rfl (dq dk_Builder_lengthen 1 rfl) ?_
  refine ww_iconst C (dq dk_Builder_lengthen 2 rfl) ic_0 ?_
  refine ww_istore_n C [(2, .int 0), (1, .int 0), (0, .ref (ad k v0))] rfl hnL (lt_ rfl) rfl (dq dk_Builder_lengthen 3 rfl) ?_
  exact ww_lv [2, 1, 0] rfl (t_Builder_lengthen_B4 C hR hRm hnL FU v0 0 0 ho_v0 σ h)
abbrev y_Builder_measure : MethodName := ⟨"BundleHouse$Builder", "measure", "()V"⟩
def dl_Builder_measure : List (Nat × Instr × Nat) := [(0, .iconst 0, 1), (1, .istore_n 1, 1), (2, .iload_n 1, 1), (3, .aload_n 0, 1), (4, .getfield 33, 3), (7, .getfield 46, 3), (10, .if_icmp .ge 156, 3), (13, .iload_n 1, 1), (14, .bipush 120, 2), (16, .if_icmp .ge 150, 3), (19, .aload_n 0, 1), (20, .getfield 33, 3), (23, .getfield 77, 3), (26, .iload_n 1, 1), (27, .iaload, 1), (28, .tableswitch 125 0 9 #[56, 66, 66, 125, 125, 125, 125, 76, 125, 86], 56), (84, .aload_n 0, 1), (85, .getfield 29, 3), (88, .iload_n 1, 1), (89, .iconst 0, 1), (90, .iastore, 1), (91, .goto 69, 3), (94, .aload_n 0, 1), (95, .getfield 29, 3), (98, .iload_n 1, 1), (99, .iconst 2, 1), (100, .iastore, 1), (101, .goto 59, 3), (104, .aload_n 0, 1), (105, .getfield 29, 3), (108, .iload_n 1, 1), (109, .iconst 1, 1), (110, .iastore, 1), (111, .goto 49, 3), (114, .aload_n 0, 1), (115, .getfield 33, 3), (118, .iload_n 1, 1), (119, .aload_n 0, 1), (120, .getfield 25, 3), (123, .invokevirtual 83, 3), (126, .aload_n 0, 1), (127, .getfield 18, 3), (130, .aload_n 0, 1), (131, .getfield 25, 3), (134, .invokevirtual 87, 3), (137, .aload_n 0, 1), (138, .getfield 29, 3), (141, .iload_n 1, 1), (142, .aload_n 0, 1), (143, .getfield 18, 3), (146, .getfield 91, 3), (149, .iastore, 1), (150, .goto 10, 3), (153, .aload_n 0, 1), (154, .getfield 29, 3), (157, .iload_n 1, 1), (158, .iconst 5, 1), (159, .iastore, 1), (160, .iinc 1 1, 3), (163, .goto (-161), 3), (166, .return_, 1)]
set_option maxRecDepth 100000 in
theorem dk_Builder_measure : ∀ q ∈ dl_Builder_measure, decode prog_2_method_4_code q.1 = .ok q.2 := by decide +kernel
abbrev rm_Builder_measure : Room := { frames := 4, cells := 0, slots := 0, locals := 89 }
theorem cw_Builder_measure : CWV y_Builder_measure prog_2_method_4_code 2 none 0 := ⟨⟨g_3_179, g_1_7, by decide, by decide, by decide +kernel⟩, g_3_178, gs_2_3⟩
set_option maxHeartbeats 4000000 in
set_option maxRecDepth 100000 in
theorem t_Builder_measure_B2 {k : Cfg} {res : St} (C : Cx k prog_2_method_4_code "BundleHouse$Builder") (hR : RV k res) (hRm : k.2.2.2.1 = rm_Builder_measure) (hnL : k.2.2.2.2.2.2.2.2.2.2.2.1 = 2) : ∀ (n : Nat) (v0 : Nat) (v1 : Int32) (ho_v0 : kd v0 = 6) (σ : St), Builder_measure_B2 n v0 v1 σ = some res → WW k 2 [(0, .ref (ad k v0)), (1, .int v1)] [] σ := by
  intro n
  induction n with
  | zero =>
    intro v0 v1 ho_v0 σ h
    have h : (none : Option (St)) = some res := h
    cases h
  | succ n ih =>
    intro v0 v1 ho_v0 σ h
    unfold Builder_measure_B2 at h
    refine ww_iload_n C 1 rfl rfl (dq dk_Builder_measure 2 rfl) ?_
    refine ww_aload_n C 0 rfl rfl (dq dk_Builder_measure 3 rfl) ?_
    refine ww_getr C ko_Builder 1 ho_v0 (lt_ rfl) g_2_14 rfl rfl (dq dk_Builder_measure 4 rfl) ?_
    refine ww_geti C ko_Program 4 (kc_Builder_1 _ ho_v0) (lt_ rfl) g_1_187 rfl rfl (dq dk_Builder_measure 5 rfl) ?_
    refine ww_icmp_ge C 166 (dq dk_Builder_measure 6 rfl) (by decide) h (fun h => ?_) (fun h => ?_)
    · exact ww_vret C hR (dq dk_Builder_measure 60 rfl) h
    · refine ww_iload_n C 1 rfl rfl (dq dk_Builder_measure 7 rfl) ?_
      refine ww_bipush C (dq dk_Builder_measure 8 rfl) bp_120 ?_
      refine ww_icmp_ge C 166 (dq dk_Builder_measure 9 rfl) (by decide) h (fun h => ?_) (fun h => ?_)
      · exact ww_vret C hR (dq dk_Builder_measure 60 rfl) h
      · refine ww_aload_n C 0 rfl rfl (dq dk_Builder_measure 10 rfl) ?_
        refine ww_getr C ko_Builder 1 ho_v0 (lt_ rfl) g_2_14 rfl rfl (dq dk_Builder_measure 11 rfl) ?_
        refine ww_getr C ko_Program 0 (kc_Builder_1 _ ho_v0) (lt_ rfl) g_1_177 rfl rfl (dq dk_Builder_measure 12 rfl) ?_
        refine ww_iload_n C 1 rfl rfl (dq dk_Builder_measure 13 rfl) ?_
        refine ww_iald C (kc_Program_0 _ (kc_Builder_1 _ ho_v0)).1 (kc_Program_0 _ (kc_Builder_1 _ ho_v0)).2 (dq dk_Builder_measure 14 rfl) h (fun x1 h => ?_)
        by_cases e0_0 : x1 = 0
        · rw [if_pos e0_0] at h
          refine ww_tabIn C 84 (dq dk_Builder_measure 15 rfl) (by rw [e0_0]; decide) (by rw [e0_0]; decide) (by rw [e0_0]; rfl) (by decide) ?_
          refine ww_aload_n C 0 rfl rfl (dq dk_Builder_measure 16 rfl) ?_
          refine ww_getr C ko_Builder 5 ho_v0 (lt_ rfl) g_2_18 rfl rfl (dq dk_Builder_measure 17 rfl) ?_
          refine ww_iload_n C 1 rfl rfl (dq dk_Builder_measure 18 rfl) ?_
          refine ww_iconst C (dq dk_Builder_measure 19 rfl) ic_0 ?_
          refine ww_iast C (kc_Builder_5 _ ho_v0).1 (kc_Builder_5 _ ho_v0).2 (dq dk_Builder_measure 20 rfl) h (fun σ2 h => ?_)
          refine ww_goto C 160 (dq dk_Builder_measure 21 rfl) (by decide) ?_
          refine ww_iinc C 1 (fun z => [(1, .int z), (0, .ref (ad k v0))]) rfl ic_1 hnL (lt_ rfl) (fun _ => rfl) (dq dk_Builder_measure 58 rfl) h (fun x3 h => ?_)
          refine ww_goto C 2 (dq dk_Builder_measure 59 rfl) (by decide) ?_
          exact ww_lv [1, 0] rfl (ih v0 x3 ho_v0 σ2 h)
        rw [if_neg e0_0] at h
        by_cases e1_1 : x1 = 1
        · rw [if_pos e1_1] at h
          refine ww_tabIn C 94 (dq dk_Builder_measure 15 rfl) (by rw [e1_1]; decide) (by rw [e1_1]; decide) (by rw [e1_1]; rfl) (by decide) ?_
          refine ww_aload_n C 0 rfl rfl (dq dk_Builder_measure 22 rfl) ?_
          refine ww_getr C ko_Builder 5 ho_v0 (lt_ rfl) g_2_18 rfl rfl (dq dk_Builder_measure 23 rfl) ?_
          refine ww_iload_n C 1 rfl rfl (dq dk_Builder_measure 24 rfl) ?_
          refine ww_iconst C (dq dk_Builder_measure 25 rfl) ic_2 ?_
          refine ww_iast C (kc_Builder_5 _ ho_v0).1 (kc_Builder_5 _ ho_v0).2 (dq dk_Builder_measure 26 rfl) h (fun σ4 h => ?_)
          refine ww_goto C 160 (dq dk_Builder_measure 27 rfl) (by decide) ?_
          refine ww_iinc C 1 (fun z => [(1, .int z), (0, .ref (ad k v0))]) rfl ic_1 hnL (lt_ rfl) (fun _ => rfl) (dq dk_Builder_measure 58 rfl) h (fun x5 h => ?_)
          refine ww_goto C 2 (dq dk_Builder_measure 59 rfl) (by decide) ?_
          exact ww_lv [1, 0] rfl (ih v0 x5 ho_v0 σ4 h)
        rw [if_neg e1_1] at h
        by_cases e2_2 : x1 = 2
        · rw [if_pos e2_2] at h
          refine ww_tabIn C 94 (dq dk_Builder_measure 15 rfl) (by rw [e2_2]; decide) (by rw [e2_2]; decide) (by rw [e2_2]; rfl) (by decide) ?_
          refine ww_aload_n C 0 rfl rfl (dq dk_Builder_measure 22 rfl) ?_
          refine ww_getr C ko_Builder 5 ho_v0 (lt_ rfl) g_2_18 rfl rfl (dq dk_Builder_measure 23 rfl) ?_
          refine ww_iload_n C 1 rfl rfl (dq dk_Builder_measure 24 rfl) ?_
          refine ww_iconst C (dq dk_Builder_measure 25 rfl) ic_2 ?_
          refine ww_iast C (kc_Builder_5 _ ho_v0).1 (kc_Builder_5 _ ho_v0).2 (dq dk_Builder_measure 26 rfl) h (fun σ6 h => ?_)
          refine ww_goto C 160 (dq dk_Builder_measure 27 rfl) (by decide) ?_
          refine ww_iinc C 1 (fun z => [(1, .int z), (0, .ref (ad k v0))]) rfl ic_1 hnL (lt_ rfl) (fun _ => rfl) (dq dk_Builder_measure 58 rfl) h (fun x7 h => ?_)
          refine ww_goto C 2 (dq dk_Builder_measure 59 rfl) (by decide) ?_
          exact ww_lv [1, 0] rfl (ih v0 x7 ho_v0 σ6 h)
        rw [if_neg e2_2] at h
        by_cases e3_3 : x1 = 3
        · rw [if_pos e3_3] at h
          refine ww_tabIn C 153 (dq dk_Builder_measure 15 rfl) (by rw [e3_3]; decide) (by rw [e3_3]; decide) (by rw [e3_3]; rfl) (by decide) ?_
          refine ww_aload_n C 0 rfl rfl (dq dk_Builder_measure 53 rfl) ?_
          refine ww_getr C ko_Builder 5 ho_v0 (lt_ rfl) g_2_18 rfl rfl (dq dk_Builder_measure 54 rfl) ?_
          refine ww_iload_n C 1 rfl rfl (dq dk_Builder_measure 55 rfl) ?_
          refine ww_iconst C (dq dk_Builder_measure 56 rfl) ic_5 ?_
          refine ww_iast C (kc_Builder_5 _ ho_v0).1 (kc_Builder_5 _ ho_v0).2 (dq dk_Builder_measure 57 rfl) h (fun σ8 h => ?_)
          refine ww_iinc C 1 (fun z => [(1, .int z), (0, .ref (ad k v0))]) rfl ic_1 hnL (lt_ rfl) (fun _ => rfl) (dq dk_Builder_measure 58 rfl) h (fun x9 h => ?_)
          refine ww_goto C 2 (dq dk_Builder_measure 59 rfl) (by decide) ?_
          exact ww_lv [1, 0] rfl (ih v0 x9 ho_v0 σ8 h)
        rw [if_neg e3_3] at h
        by_cases e4_4 : x1 = 4
        · rw [if_pos e4_4] at h
          refine ww_tabIn C 153 (dq dk_Builder_measure 15 rfl) (by rw [e4_4]; decide) (by rw [e4_4]; decide) (by rw [e4_4]; rfl) (by decide) ?_
          refine ww_aload_n C 0 rfl rfl (dq dk_Builder_measure 53 rfl) ?_
          refine ww_getr C ko_Builder 5 ho_v0 (lt_ rfl) g_2_18 rfl rfl (dq dk_Builder_measure 54 rfl) ?_
          refine ww_iload_n C 1 rfl rfl (dq dk_Builder_measure 55 rfl) ?_
          refine ww_iconst C (dq dk_Builder_measure 56 rfl) ic_5 ?_
          refine ww_iast C (kc_Builder_5 _ ho_v0).1 (kc_Builder_5 _ ho_v0).2 (dq dk_Builder_measure 57 rfl) h (fun σ10 h => ?_)
          refine ww_iinc C 1 (fun z => [(1, .int z), (0, .ref (ad k v0))]) rfl ic_1 hnL (lt_ rfl) (fun _ => rfl) (dq dk_Builder_measure 58 rfl) h (fun x11 h => ?_)
          refine ww_goto C 2 (dq dk_Builder_measure 59 rfl) (by decide) ?_
          exact ww_lv [1, 0] rfl (ih v0 x11 ho_v0 σ10 h)
        rw [if_neg e4_4] at h
        by_cases e5_5 : x1 = 5
        · rw [if_pos e5_5] at h
          refine ww_tabIn C 153 (dq dk_Builder_measure 15 rfl) (by rw [e5_5]; decide) (by rw [e5_5]; decide) (by rw [e5_5]; rfl) (by decide) ?_
          refine ww_aload_n C 0 rfl rfl (dq dk_Builder_measure 53 rfl) ?_
          refine ww_getr C ko_Builder 5 ho_v0 (lt_ rfl) g_2_18 rfl rfl (dq dk_Builder_measure 54 rfl) ?_
          refine ww_iload_n C 1 rfl rfl (dq dk_Builder_measure 55 rfl) ?_
          refine ww_iconst C (dq dk_Builder_measure 56 rfl) ic_5 ?_
          refine ww_iast C (kc_Builder_5 _ ho_v0).1 (kc_Builder_5 _ ho_v0).2 (dq dk_Builder_measure 57 rfl) h (fun σ12 h => ?_)
          refine ww_iinc C 1 (fun z => [(1, .int z), (0, .ref (ad k v0))]) rfl ic_1 hnL (lt_ rfl) (fun _ => rfl) (dq dk_Builder_measure 58 rfl) h (fun x13 h => ?_)
          refine ww_goto C 2 (dq dk_Builder_measure 59 rfl) (by decide) ?_
          exact ww_lv [1, 0] rfl (ih v0 x13 ho_v0 σ12 h)
        rw [if_neg e5_5] at h
        by_cases e6_6 : x1 = 6
        · rw [if_pos e6_6] at h
          refine ww_tabIn C 153 (dq dk_Builder_measure 15 rfl) (by rw [e6_6]; decide) (by rw [e6_6]; decide) (by rw [e6_6]; rfl) (by decide) ?_
          refine ww_aload_n C 0 rfl rfl (dq dk_Builder_measure 53 rfl) ?_
          refine ww_getr C ko_Builder 5 ho_v0 (lt_ rfl) g_2_18 rfl rfl (dq dk_Builder_measure 54 rfl) ?_
          refine ww_iload_n C 1 rfl rfl (dq dk_Builder_measure 55 rfl) ?_
          refine ww_iconst C (dq dk_Builder_measure 56 rfl) ic_5 ?_
          refine ww_iast C (kc_Builder_5 _ ho_v0).1 (kc_Builder_5 _ ho_v0).2 (dq dk_Builder_measure 57 rfl) h (fun σ14 h => ?_)
          refine ww_iinc C 1 (fun z => [(1, .int z), (0, .ref (ad k v0))]) rfl ic_1 hnL (lt_ rfl) (fun _ => rfl) (dq dk_Builder_measure 58 rfl) h (fun x15 h => ?_)
          refine ww_goto C 2 (dq dk_Builder_measure 59 rfl) (by decide) ?_
          exact ww_lv [1, 0] rfl (ih v0 x15 ho_v0 σ14 h)
        rw [if_neg e6_6] at h
        by_cases e7_7 : x1 = 7
        · rw [if_pos e7_7] at h
          refine ww_tabIn C 104 (dq dk_Builder_measure 15 rfl) (by rw [e7_7]; decide) (by rw [e7_7]; decide) (by rw [e7_7]; rfl) (by decide) ?_
          refine ww_aload_n C 0 rfl rfl (dq dk_Builder_measure 28 rfl) ?_
          refine ww_getr C ko_Builder 5 ho_v0 (lt_ rfl) g_2_18 rfl rfl (dq dk_Builder_measure 29 rfl) ?_
          refine ww_iload_n C 1 rfl rfl (dq dk_Builder_measure 30 rfl) ?_
          refine ww_iconst C (dq dk_Builder_measure 31 rfl) ic_1 ?_
          refine ww_iast C (kc_Builder_5 _ ho_v0).1 (kc_Builder_5 _ ho_v0).2 (dq dk_Builder_measure 32 rfl) h (fun σ16 h => ?_)
          refine ww_goto C 160 (dq dk_Builder_measure 33 rfl) (by decide) ?_
          refine ww_iinc C 1 (fun z => [(1, .int z), (0, .ref (ad k v0))]) rfl ic_1 hnL (lt_ rfl) (fun _ => rfl) (dq dk_Builder_measure 58 rfl) h (fun x17 h => ?_)
          refine ww_goto C 2 (dq dk_Builder_measure 59 rfl) (by decide) ?_
          exact ww_lv [1, 0] rfl (ih v0 x17 ho_v0 σ16 h)
        rw [if_neg e7_7] at h
        by_cases e8_8 : x1 = 8
        · rw [if_pos e8_8] at h
          refine ww_tabIn C 153 (dq dk_Builder_measure 15 rfl) (by rw [e8_8]; decide) (by rw [e8_8]; decide) (by rw [e8_8]; rfl) (by decide) ?_
          refine ww_aload_n C 0 rfl rfl (dq dk_Builder_measure 53 rfl) ?_
          refine ww_getr C ko_Builder 5 ho_v0 (lt_ rfl) g_2_18 rfl rfl (dq dk_Builder_measure 54 rfl) ?_
          refine ww_iload_n C 1 rfl rfl (dq dk_Builder_measure 55 rfl) ?_
          refine ww_iconst C (dq dk_Builder_measure 56 rfl) ic_5 ?_
          refine ww_iast C (kc_Builder_5 _ ho_v0).1 (kc_Builder_5 _ ho_v0).2 (dq dk_Builder_measure 57 rfl) h (fun σ18 h => ?_)
          refine ww_iinc C 1 (fun z => [(1, .int z), (0, .ref (ad k v0))]) rfl ic_1 hnL (lt_ rfl) (fun _ => rfl) (dq dk_Builder_measure 58 rfl) h (fun x19 h => ?_)
          refine ww_goto C 2 (dq dk_Builder_measure 59 rfl) (by decide) ?_
          exact ww_lv [1, 0] rfl (ih v0 x19 ho_v0 σ18 h)
        rw [if_neg e8_8] at h
        by_cases e9_9 : x1 = 9
        · rw [if_pos e9_9] at h
          refine ww_tabIn C 114 (dq dk_Builder_measure 15 rfl) (by rw [e9_9]; decide) (by rw [e9_9]; decide) (by rw [e9_9]; rfl) (by decide) ?_
          refine ww_aload_n C 0 rfl rfl (dq dk_Builder_measure 34 rfl) ?_
          refine ww_getr C ko_Builder 1 ho_v0 (lt_ rfl) g_2_14 rfl rfl (dq dk_Builder_measure 35 rfl) ?_
          refine ww_iload_n C 1 rfl rfl (dq dk_Builder_measure 36 rfl) ?_
          refine ww_aload_n C 0 rfl rfl (dq dk_Builder_measure 37 rfl) ?_
          refine ww_getr C ko_Builder 4 ho_v0 (lt_ rfl) g_2_17 rfl rfl (dq dk_Builder_measure 38 rfl) ?_
          refine ww_cVv (st := []) C (c_Program_loadItem (ch v0 1) (kc_Builder_1 _ ho_v0) v1 (ch v0 4) (kc_Builder_4 _ ho_v0)) cw_Program_loadItem (kc_Builder_1 _ ho_v0) (lt_ rfl) rfl g_3_180 hRm ⟨⟨rfl, rfl⟩, le_ rfl, le_ rfl⟩ rfl rfl rfl (le_ rfl) (dq dk_Builder_measure 39 rfl) h (fun σ20 h => ?_)
          refine ww_aload_n C 0 rfl rfl (dq dk_Builder_measure 40 rfl) ?_
          refine ww_getr C ko_Builder 3 ho_v0 (lt_ rfl) g_2_16 rfl rfl (dq dk_Builder_measure 41 rfl) ?_
          refine ww_aload_n C 0 rfl rfl (dq dk_Builder_measure 42 rfl) ?_
          refine ww_getr C ko_Builder 4 ho_v0 (lt_ rfl) g_2_17 rfl rfl (dq dk_Builder_measure 43 rfl) ?_
          refine ww_cVv (st := []) C (c_Piece_become (ch v0 3) (kc_Builder_3 _ ho_v0) (ch v0 4) (kc_Builder_4 _ ho_v0)) cw_Piece_become (kc_Builder_3 _ ho_v0) (lt_ rfl) rfl g_3_185 hRm ⟨⟨rfl, rfl⟩, le_ rfl, le_ rfl⟩ rfl rfl rfl (le_ rfl) (dq dk_Builder_measure 44 rfl) h (fun σ21 h => ?_)
          refine ww_aload_n C 0 rfl rfl (dq dk_Builder_measure 45 rfl) ?_
          refine ww_getr C ko_Builder 5 ho_v0 (lt_ rfl) g_2_18 rfl rfl (dq dk_Builder_measure 46 rfl) ?_
          refine ww_iload_n C 1 rfl rfl (dq dk_Builder_measure 47 rfl) ?_
          refine ww_aload_n C 0 rfl rfl (dq dk_Builder_measure 48 rfl) ?_
          refine ww_getr C ko_Builder 3 ho_v0 (lt_ rfl) g_2_16 rfl rfl (dq dk_Builder_measure 49 rfl) ?_
          refine ww_geti C ko_Piece 1 (kc_Builder_3 _ ho_v0) (lt_ rfl) g_2_4 rfl rfl (dq dk_Builder_measure 50 rfl) ?_
          refine ww_iast C (kc_Builder_5 _ ho_v0).1 (kc_Builder_5 _ ho_v0).2 (dq dk_Builder_measure 51 rfl) h (fun σ22 h => ?_)
          refine ww_goto C 160 (dq dk_Builder_measure 52 rfl) (by decide) ?_
          refine ww_iinc C 1 (fun z => [(1, .int z), (0, .ref (ad k v0))]) rfl ic_1 hnL (lt_ rfl) (fun _ => rfl) (dq dk_Builder_measure 58 rfl) h (fun x23 h => ?_)
          refine ww_goto C 2 (dq dk_Builder_measure 59 rfl) (by decide) ?_
          exact ww_lv [1, 0] rfl (ih v0 x23 ho_v0 σ22 h)
        rw [if_neg e9_9] at h
        have ne0_0 := lv_neT (a := 0) e0_0 (by decide)
        have ne1_1 := lv_neT (a := 1) e1_1 (by decide)
        have ne2_2 := lv_neT (a := 2) e2_2 (by decide)
        have ne3_3 := lv_neT (a := 3) e3_3 (by decide)
        have ne4_4 := lv_neT (a := 4) e4_4 (by decide)
        have ne5_5 := lv_neT (a := 5) e5_5 (by decide)
        have ne6_6 := lv_neT (a := 6) e6_6 (by decide)
        have ne7_7 := lv_neT (a := 7) e7_7 (by decide)
        have ne8_8 := lv_neT (a := 8) e8_8 (by decide)
        have ne9_9 := lv_neT (a := 9) e9_9 (by decide)
        refine ww_tabOut C 153 (dq dk_Builder_measure 15 rfl) (by omega) (by decide) ?_
        refine ww_aload_n C 0 rfl rfl (dq dk_Builder_measure 53 rfl) ?_
        refine ww_getr C ko_Builder 5 ho_v0 (lt_ rfl) g_2_18 rfl rfl (dq dk_Builder_measure 54 rfl) ?_
        refine ww_iload_n C 1 rfl rfl (dq dk_Builder_measure 55 rfl) ?_
        refine ww_iconst C (dq dk_Builder_measure 56 rfl) ic_5 ?_
        refine ww_iast C (kc_Builder_5 _ ho_v0).1 (kc_Builder_5 _ ho_v0).2 (dq dk_Builder_measure 57 rfl) h (fun σ24 h => ?_)
        refine ww_iinc C 1 (fun z => [(1, .int z), (0, .ref (ad k v0))]) rfl ic_1 hnL (lt_ rfl) (fun _ => rfl) (dq dk_Builder_measure 58 rfl) h (fun x25 h => ?_)
        refine ww_goto C 2 (dq dk_Builder_measure 59 rfl) (by decide) ?_
        exact ww_lv [1, 0] rfl (ih v0 x25 ho_v0 σ24 h)
set_option maxHeartbeats 4000000 in
set_option maxRecDepth 100000 in
theorem c_Builder_measure (v0 : Nat) (ho_v0 : kd v0 = 6) : MV y_Builder_measure rm_Builder_measure prog_2_method_4_code 2 (fun a => [.ref (a v0)]) (Builder_measure v0) := by
  refine mv_of (by decide) (fun _ => le_ rfl) ?_
  intro k res σ C hR hRm hnL h
  unfold Builder_measure at h
  show WW k 0 [(0, .ref (ad k v0))] [] σ
  refine ww_iconst C (dq dk_Builder_measure 0 rfl) ic_0 ?_
  refine ww_istore_n C [(1, .int 0), (0, .ref (ad k v0))] rfl hnL (lt_ rfl) rfl (dq dk_Builder_measure 1 rfl) ?_
  exact ww_lv [1, 0] rfl (t_Builder_measure_B2 C hR hRm hnL FU v0 0 ho_v0 σ h)
abbrev y_Builder_wholeSize : MethodName := ⟨"BundleHouse$Builder", "wholeSize", "()I"⟩
def dl_Builder_wholeSize : List (Nat × Instr × Nat) := [(0, .aload_n 0, 1), (1, .getfield 33, 3), (4, .getfield 101, 3), (7, .bipush 16, 2), (9, .idiv, 1), (10, .iconst 1, 1), (11, .iadd, 1), (12, .bipush 16, 2), (14, .imul, 1), (15, .ireturn, 1)]
set_option maxRecDepth 100000 in
theorem dk_Builder_wholeSize : ∀ q ∈ dl_Builder_wholeSize, decode prog_2_method_13_code q.1 = .ok q.2 := by decide +kernel
abbrev rm_Builder_wholeSize : Room := { frames := 0, cells := 0, slots := 0, locals := 0 }
theorem cw_Builder_wholeSize : CWV y_Builder_wholeSize prog_2_method_13_code 1 (some .int) 0 := ⟨⟨g_4_44, g_1_7, by decide, by decide, by decide +kernel⟩, g_4_43, gs_3_1⟩
set_option maxHeartbeats 4000000 in
set_option maxRecDepth 100000 in
theorem c_Builder_wholeSize (v0 : Nat) (ho_v0 : kd v0 = 6) : MI y_Builder_wholeSize rm_Builder_wholeSize prog_2_method_13_code 1 .int (fun a => [.ref (a v0)]) (Builder_wholeSize v0) := by
  refine mi_of (by decide) (fun _ => le_ rfl) ?_
  intro k res σ C hR hRm hnL h
  unfold Builder_wholeSize at h
  show WW k 0 [(0, .ref (ad k v0))] [] σ
  refine ww_aload_n C 0 rfl rfl (dq dk_Builder_wholeSize 0 rfl) ?_
  refine ww_getr C ko_Builder 1 ho_v0 (lt_ rfl) g_2_14 rfl rfl (dq dk_Builder_wholeSize 1 rfl) ?_
  refine ww_geti C ko_Program 5 (kc_Builder_1 _ ho_v0) (lt_ rfl) g_1_189 rfl rfl (dq dk_Builder_wholeSize 2 rfl) ?_
  refine ww_bipush C (dq dk_Builder_wholeSize 3 rfl) bp_16 ?_
  refine ww_idiv C (by decide) (dq dk_Builder_wholeSize 4 rfl) ?_
  refine ww_iconst C (dq dk_Builder_wholeSize 5 rfl) ic_1 ?_
  refine ww_iadd C (dq dk_Builder_wholeSize 6 rfl) ?_
  refine ww_bipush C (dq dk_Builder_wholeSize 7 rfl) bp_16 ?_
  refine ww_imul C (dq dk_Builder_wholeSize 8 rfl) ?_
  exact ww_iret C hR (dq dk_Builder_wholeSize 9 rfl) h
